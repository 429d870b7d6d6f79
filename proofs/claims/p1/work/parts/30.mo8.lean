theorem wd_30 : (Jvm.Cond.selects "StreamSplitterModel" ({ cls := "StreamSplitterModel", name := "giveUp", desc := "(I)V" } : Jvm.MethodName) ({ cls := "StreamSplitterModel", name := "giveUp", desc := "(I)V" } : Jvm.MethodName)) ∈ lw_ok := List.mem_filter.mpr ⟨List.mem_of_getElem? (i := 30) (by decide +kernel), rfl⟩
theorem wd_31 : (Jvm.Cond.selects "StreamSplitterModel" ({ cls := "StreamSplitterModel", name := "slotOf", desc := "(I)I" } : Jvm.MethodName) ({ cls := "StreamSplitterModel", name := "slotOf", desc := "(I)I" } : Jvm.MethodName)) ∈ lw_ok := List.mem_filter.mpr ⟨List.mem_of_getElem? (i := 31) (by decide +kernel), rfl⟩
theorem wd_33 : (Jvm.Cond.selects "StreamSplitterModel" ({ cls := "StreamSplitterModel", name := "streamWith", desc := "(I)I" } : Jvm.MethodName) ({ cls := "StreamSplitterModel", name := "streamWith", desc := "(I)I" } : Jvm.MethodName)) ∈ lw_ok := List.mem_filter.mpr ⟨List.mem_of_getElem? (i := 33) (by decide +kernel), rfl⟩
theorem wd_1095 : (Jvm.Cond.fieldLink "StreamSplitterModel" (27 : Nat) "StreamSplitterModel" "slotPids" "[I") ∈ lw_ok := List.mem_filter.mpr ⟨List.mem_of_getElem? (i := 1095) (by decide +kernel), rfl⟩
theorem wd_1096 : (Jvm.Cond.fieldLink "StreamSplitterModel" (30 : Nat) "StreamSplitterModel" "slotPieces" "[Z") ∈ lw_ok := List.mem_filter.mpr ⟨List.mem_of_getElem? (i := 1096) (by decide +kernel), rfl⟩
theorem wd_1098 : (Jvm.Cond.fieldLink "StreamSplitterModel" (36 : Nat) "StreamSplitterModel" "slotSizes" "[I") ∈ lw_ok := List.mem_filter.mpr ⟨List.mem_of_getElem? (i := 1098) (by decide +kernel), rfl⟩
theorem wd_1297 : (Jvm.Cond.constantLong "StreamSplitterModel" (187 : Nat) (2 : Int64)) ∈ lw_ok := List.mem_filter.mpr ⟨List.mem_of_getElem? (i := 1297) (by decide +kernel), rfl⟩
theorem wd_1299 : (Jvm.Cond.methodLink "StreamSplitterModel" (177 : Nat) ({ cls := "StreamSplitterModel", name := "giveUp", desc := "(I)V" } : Jvm.MethodName)) ∈ lw_ok := List.mem_filter.mpr ⟨List.mem_of_getElem? (i := 1299) (by decide +kernel), rfl⟩
theorem wd_1301 : (Jvm.Cond.instanceMethod ({ cls := "StreamSplitterModel", name := "giveUp", desc := "(I)V" } : Jvm.MethodName)) ∈ lw_ok := List.mem_filter.mpr ⟨List.mem_of_getElem? (i := 1301) (by decide +kernel), rfl⟩
set_option maxRecDepth 100000 in
theorem wd_1302 : (Jvm.Cond.code ({ cls := "StreamSplitterModel", name := "giveUp", desc := "(I)V" } : Jvm.MethodName) prog_14_method_12_code (3 : Nat) (Option.none : Option Jvm.ClassFile.FieldType)) ∈ lw_ok := List.mem_filter.mpr ⟨List.mem_of_getElem? (i := 1302) (by rfl), rfl⟩
theorem wd_1303 : (Jvm.Cond.methodLink "StreamSplitterModel" (173 : Nat) ({ cls := "StreamSplitterModel", name := "slotOf", desc := "(I)I" } : Jvm.MethodName)) ∈ lw_ok := List.mem_filter.mpr ⟨List.mem_of_getElem? (i := 1303) (by decide +kernel), rfl⟩
theorem wd_1305 : (Jvm.Cond.instanceMethod ({ cls := "StreamSplitterModel", name := "slotOf", desc := "(I)I" } : Jvm.MethodName)) ∈ lw_ok := List.mem_filter.mpr ⟨List.mem_of_getElem? (i := 1305) (by decide +kernel), rfl⟩
set_option maxRecDepth 100000 in
theorem wd_1306 : (Jvm.Cond.code ({ cls := "StreamSplitterModel", name := "slotOf", desc := "(I)I" } : Jvm.MethodName) prog_14_method_10_code (3 : Nat) (Option.some Jvm.ClassFile.FieldType.int)) ∈ lw_ok := List.mem_filter.mpr ⟨List.mem_of_getElem? (i := 1306) (by rfl), rfl⟩
theorem wd_1311 : (Jvm.Cond.methodLink "StreamSplitterModel" (184 : Nat) ({ cls := "StreamSplitterModel", name := "streamWith", desc := "(I)I" } : Jvm.MethodName)) ∈ lw_ok := List.mem_filter.mpr ⟨List.mem_of_getElem? (i := 1311) (by decide +kernel), rfl⟩
theorem wd_1313 : (Jvm.Cond.instanceMethod ({ cls := "StreamSplitterModel", name := "streamWith", desc := "(I)I" } : Jvm.MethodName)) ∈ lw_ok := List.mem_filter.mpr ⟨List.mem_of_getElem? (i := 1313) (by decide +kernel), rfl⟩
set_option maxRecDepth 100000 in
theorem wd_1314 : (Jvm.Cond.code ({ cls := "StreamSplitterModel", name := "streamWith", desc := "(I)I" } : Jvm.MethodName) prog_14_method_14_code (4 : Nat) (Option.some Jvm.ClassFile.FieldType.int)) ∈ lw_ok := List.mem_filter.mpr ⟨List.mem_of_getElem? (i := 1314) (by rfl), rfl⟩
theorem hd_Mo_giveUp : y_Mo_giveUp.cls ≠ "java/lang/invoke/MethodHandle" ∧ y_Mo_giveUp.cls ≠ "java/lang/invoke/VarHandle" ∧ (parseMethodDescriptor y_Mo_giveUp.desc).map (fun d => d.parameters.length) = some 1 := by decide +kernel
theorem hd_Mo_slotOf : y_Mo_slotOf.cls ≠ "java/lang/invoke/MethodHandle" ∧ y_Mo_slotOf.cls ≠ "java/lang/invoke/VarHandle" ∧ (parseMethodDescriptor y_Mo_slotOf.desc).map (fun d => d.parameters.length) = some 1 := by decide +kernel
theorem hd_Mo_streamWith : y_Mo_streamWith.cls ≠ "java/lang/invoke/MethodHandle" ∧ y_Mo_streamWith.cls ≠ "java/lang/invoke/VarHandle" ∧ (parseMethodDescriptor y_Mo_streamWith.desc).map (fun d => d.parameters.length) = some 1 := by decide +kernel
theorem d_Mo_bitsOf_0 : decode b_Mo_bitsOf 0 = .ok (.lconst 0, 1) := by decide +kernel
theorem d_Mo_bitsOf_1 : decode b_Mo_bitsOf 1 = .ok (.lstore_n 3, 1) := by decide +kernel
theorem d_Mo_bitsOf_2 : decode b_Mo_bitsOf 2 = .ok (.iload_n 1, 1) := by decide +kernel
theorem d_Mo_bitsOf_3 : decode b_Mo_bitsOf 3 = .ok (.istore 5, 2) := by decide +kernel
theorem d_Mo_bitsOf_5 : decode b_Mo_bitsOf 5 = .ok (.iload 5, 2) := by decide +kernel
theorem d_Mo_bitsOf_7 : decode b_Mo_bitsOf 7 = .ok (.iload_n 1, 1) := by decide +kernel
theorem d_Mo_bitsOf_8 : decode b_Mo_bitsOf 8 = .ok (.iload_n 2, 1) := by decide +kernel
theorem d_Mo_bitsOf_9 : decode b_Mo_bitsOf 9 = .ok (.iadd, 1) := by decide +kernel
theorem d_Mo_bitsOf_10 : decode b_Mo_bitsOf 10 = .ok (.if_icmp .ge 35, 3) := by decide +kernel
theorem d_Mo_bitsOf_13 : decode b_Mo_bitsOf 13 = .ok (.ldc2_w 187, 3) := by decide +kernel
theorem d_Mo_bitsOf_16 : decode b_Mo_bitsOf 16 = .ok (.lload_n 3, 1) := by decide +kernel
theorem d_Mo_bitsOf_17 : decode b_Mo_bitsOf 17 = .ok (.lmul, 1) := by decide +kernel
theorem d_Mo_bitsOf_18 : decode b_Mo_bitsOf 18 = .ok (.aload_n 0, 1) := by decide +kernel
theorem d_Mo_bitsOf_19 : decode b_Mo_bitsOf 19 = .ok (.iload 5, 2) := by decide +kernel
theorem d_Mo_bitsOf_21 : decode b_Mo_bitsOf 21 = .ok (.bipush 8, 2) := by decide +kernel
theorem d_Mo_bitsOf_23 : decode b_Mo_bitsOf 23 = .ok (.idiv, 1) := by decide +kernel
theorem d_Mo_bitsOf_24 : decode b_Mo_bitsOf 24 = .ok (.iaload, 1) := by decide +kernel
theorem d_Mo_bitsOf_25 : decode b_Mo_bitsOf 25 = .ok (.bipush 7, 2) := by decide +kernel
theorem d_Mo_bitsOf_27 : decode b_Mo_bitsOf 27 = .ok (.iload 5, 2) := by decide +kernel
theorem d_Mo_bitsOf_29 : decode b_Mo_bitsOf 29 = .ok (.bipush 8, 2) := by decide +kernel
theorem d_Mo_bitsOf_31 : decode b_Mo_bitsOf 31 = .ok (.irem, 1) := by decide +kernel
theorem d_Mo_bitsOf_32 : decode b_Mo_bitsOf 32 = .ok (.isub, 1) := by decide +kernel
theorem d_Mo_bitsOf_33 : decode b_Mo_bitsOf 33 = .ok (.ishr, 1) := by decide +kernel
theorem d_Mo_bitsOf_34 : decode b_Mo_bitsOf 34 = .ok (.iconst 1, 1) := by decide +kernel
theorem d_Mo_bitsOf_35 : decode b_Mo_bitsOf 35 = .ok (.iand, 1) := by decide +kernel
theorem d_Mo_bitsOf_36 : decode b_Mo_bitsOf 36 = .ok (.i2l, 1) := by decide +kernel
theorem d_Mo_bitsOf_37 : decode b_Mo_bitsOf 37 = .ok (.ladd, 1) := by decide +kernel
theorem d_Mo_bitsOf_38 : decode b_Mo_bitsOf 38 = .ok (.lstore_n 3, 1) := by decide +kernel
theorem d_Mo_bitsOf_39 : decode b_Mo_bitsOf 39 = .ok (.iinc 5 1, 3) := by decide +kernel
theorem d_Mo_bitsOf_42 : decode b_Mo_bitsOf 42 = .ok (.goto (-37), 3) := by decide +kernel
theorem d_Mo_bitsOf_45 : decode b_Mo_bitsOf 45 = .ok (.lload_n 3, 1) := by decide +kernel
theorem d_Mo_bitsOf_46 : decode b_Mo_bitsOf 46 = .ok (.lreturn, 1) := by decide +kernel
theorem d_Mo_giveUp_0 : decode b_Mo_giveUp 0 = .ok (.aload_n 0, 1) := by decide +kernel
theorem d_Mo_giveUp_1 : decode b_Mo_giveUp 1 = .ok (.iload_n 1, 1) := by decide +kernel
theorem d_Mo_giveUp_2 : decode b_Mo_giveUp 2 = .ok (.invokevirtual 173, 3) := by decide +kernel
theorem d_Mo_giveUp_5 : decode b_Mo_giveUp 5 = .ok (.istore_n 2, 1) := by decide +kernel
theorem d_Mo_giveUp_6 : decode b_Mo_giveUp 6 = .ok (.iload_n 2, 1) := by decide +kernel
theorem d_Mo_giveUp_7 : decode b_Mo_giveUp 7 = .ok (.ifCond .lt 21, 3) := by decide +kernel
theorem d_Mo_giveUp_10 : decode b_Mo_giveUp 10 = .ok (.aload_n 0, 1) := by decide +kernel
theorem d_Mo_giveUp_11 : decode b_Mo_giveUp 11 = .ok (.getfield 27, 3) := by decide +kernel
theorem d_Mo_giveUp_14 : decode b_Mo_giveUp 14 = .ok (.iload_n 2, 1) := by decide +kernel
theorem d_Mo_giveUp_15 : decode b_Mo_giveUp 15 = .ok (.iconst (-1), 1) := by decide +kernel
theorem d_Mo_giveUp_16 : decode b_Mo_giveUp 16 = .ok (.iastore, 1) := by decide +kernel
theorem d_Mo_giveUp_17 : decode b_Mo_giveUp 17 = .ok (.aload_n 0, 1) := by decide +kernel
theorem d_Mo_giveUp_18 : decode b_Mo_giveUp 18 = .ok (.getfield 13, 3) := by decide +kernel
theorem d_Mo_giveUp_21 : decode b_Mo_giveUp 21 = .ok (.bipush 8, 2) := by decide +kernel
theorem d_Mo_giveUp_23 : decode b_Mo_giveUp 23 = .ok (.dup2, 1) := by decide +kernel
theorem d_Mo_giveUp_24 : decode b_Mo_giveUp 24 = .ok (.iaload, 1) := by decide +kernel
theorem d_Mo_giveUp_25 : decode b_Mo_giveUp 25 = .ok (.iconst 1, 1) := by decide +kernel
theorem d_Mo_giveUp_26 : decode b_Mo_giveUp 26 = .ok (.iadd, 1) := by decide +kernel
theorem d_Mo_giveUp_27 : decode b_Mo_giveUp 27 = .ok (.iastore, 1) := by decide +kernel
theorem d_Mo_giveUp_28 : decode b_Mo_giveUp 28 = .ok (.return_, 1) := by decide +kernel
theorem d_Mo_giveUpOthers_0 : decode b_Mo_giveUpOthers 0 = .ok (.iconst 0, 1) := by decide +kernel
theorem d_Mo_giveUpOthers_1 : decode b_Mo_giveUpOthers 1 = .ok (.istore_n 2, 1) := by decide +kernel
theorem d_Mo_giveUpOthers_2 : decode b_Mo_giveUpOthers 2 = .ok (.iload_n 2, 1) := by decide +kernel
theorem d_Mo_giveUpOthers_3 : decode b_Mo_giveUpOthers 3 = .ok (.bipush 24, 2) := by decide +kernel
theorem d_Mo_giveUpOthers_5 : decode b_Mo_giveUpOthers 5 = .ok (.if_icmp .ge 39, 3) := by decide +kernel
theorem d_Mo_giveUpOthers_8 : decode b_Mo_giveUpOthers 8 = .ok (.aload_n 0, 1) := by decide +kernel
theorem d_Mo_giveUpOthers_9 : decode b_Mo_giveUpOthers 9 = .ok (.getfield 27, 3) := by decide +kernel
theorem d_Mo_giveUpOthers_12 : decode b_Mo_giveUpOthers 12 = .ok (.iload_n 2, 1) := by decide +kernel
theorem d_Mo_giveUpOthers_13 : decode b_Mo_giveUpOthers 13 = .ok (.iaload, 1) := by decide +kernel
theorem d_Mo_giveUpOthers_14 : decode b_Mo_giveUpOthers 14 = .ok (.iconst (-1), 1) := by decide +kernel
theorem d_Mo_giveUpOthers_15 : decode b_Mo_giveUpOthers 15 = .ok (.if_icmp .eq 23, 3) := by decide +kernel
theorem d_Mo_giveUpOthers_18 : decode b_Mo_giveUpOthers 18 = .ok (.aload_n 0, 1) := by decide +kernel
theorem d_Mo_giveUpOthers_19 : decode b_Mo_giveUpOthers 19 = .ok (.getfield 27, 3) := by decide +kernel
theorem d_Mo_giveUpOthers_22 : decode b_Mo_giveUpOthers 22 = .ok (.iload_n 2, 1) := by decide +kernel
theorem d_Mo_giveUpOthers_23 : decode b_Mo_giveUpOthers 23 = .ok (.iaload, 1) := by decide +kernel
theorem d_Mo_giveUpOthers_24 : decode b_Mo_giveUpOthers 24 = .ok (.iload_n 1, 1) := by decide +kernel
theorem d_Mo_giveUpOthers_25 : decode b_Mo_giveUpOthers 25 = .ok (.if_icmp .eq 13, 3) := by decide +kernel
theorem d_Mo_giveUpOthers_28 : decode b_Mo_giveUpOthers 28 = .ok (.aload_n 0, 1) := by decide +kernel
theorem d_Mo_giveUpOthers_29 : decode b_Mo_giveUpOthers 29 = .ok (.aload_n 0, 1) := by decide +kernel
theorem d_Mo_giveUpOthers_30 : decode b_Mo_giveUpOthers 30 = .ok (.getfield 27, 3) := by decide +kernel
theorem d_Mo_giveUpOthers_33 : decode b_Mo_giveUpOthers 33 = .ok (.iload_n 2, 1) := by decide +kernel
theorem d_Mo_giveUpOthers_34 : decode b_Mo_giveUpOthers 34 = .ok (.iaload, 1) := by decide +kernel
theorem d_Mo_giveUpOthers_35 : decode b_Mo_giveUpOthers 35 = .ok (.invokevirtual 177, 3) := by decide +kernel
theorem d_Mo_giveUpOthers_38 : decode b_Mo_giveUpOthers 38 = .ok (.iinc 2 1, 3) := by decide +kernel
theorem d_Mo_giveUpOthers_41 : decode b_Mo_giveUpOthers 41 = .ok (.goto (-39), 3) := by decide +kernel
theorem d_Mo_giveUpOthers_44 : decode b_Mo_giveUpOthers 44 = .ok (.return_, 1) := by decide +kernel
theorem d_Mo_newSlot_0 : decode b_Mo_newSlot 0 = .ok (.aload_n 0, 1) := by decide +kernel
theorem d_Mo_newSlot_1 : decode b_Mo_newSlot 1 = .ok (.iconst (-1), 1) := by decide +kernel
theorem d_Mo_newSlot_2 : decode b_Mo_newSlot 2 = .ok (.invokevirtual 173, 3) := by decide +kernel
theorem d_Mo_newSlot_5 : decode b_Mo_newSlot 5 = .ok (.istore_n 3, 1) := by decide +kernel
theorem d_Mo_newSlot_6 : decode b_Mo_newSlot 6 = .ok (.aload_n 0, 1) := by decide +kernel
theorem d_Mo_newSlot_7 : decode b_Mo_newSlot 7 = .ok (.getfield 27, 3) := by decide +kernel
theorem d_Mo_newSlot_10 : decode b_Mo_newSlot 10 = .ok (.iload_n 3, 1) := by decide +kernel
theorem d_Mo_newSlot_11 : decode b_Mo_newSlot 11 = .ok (.iload_n 1, 1) := by decide +kernel
theorem d_Mo_newSlot_12 : decode b_Mo_newSlot 12 = .ok (.iastore, 1) := by decide +kernel
theorem d_Mo_newSlot_13 : decode b_Mo_newSlot 13 = .ok (.aload_n 0, 1) := by decide +kernel
theorem d_Mo_newSlot_14 : decode b_Mo_newSlot 14 = .ok (.getfield 30, 3) := by decide +kernel
theorem d_Mo_newSlot_17 : decode b_Mo_newSlot 17 = .ok (.iload_n 3, 1) := by decide +kernel
theorem d_Mo_newSlot_18 : decode b_Mo_newSlot 18 = .ok (.iload_n 2, 1) := by decide +kernel
theorem d_Mo_newSlot_19 : decode b_Mo_newSlot 19 = .ok (.bastore, 1) := by decide +kernel
theorem d_Mo_newSlot_20 : decode b_Mo_newSlot 20 = .ok (.aload_n 0, 1) := by decide +kernel
theorem d_Mo_newSlot_21 : decode b_Mo_newSlot 21 = .ok (.getfield 36, 3) := by decide +kernel
theorem d_Mo_newSlot_24 : decode b_Mo_newSlot 24 = .ok (.iload_n 3, 1) := by decide +kernel
theorem d_Mo_newSlot_25 : decode b_Mo_newSlot 25 = .ok (.iconst 0, 1) := by decide +kernel
theorem d_Mo_newSlot_26 : decode b_Mo_newSlot 26 = .ok (.iastore, 1) := by decide +kernel
theorem d_Mo_newSlot_27 : decode b_Mo_newSlot 27 = .ok (.iload_n 3, 1) := by decide +kernel
theorem d_Mo_newSlot_28 : decode b_Mo_newSlot 28 = .ok (.ireturn, 1) := by decide +kernel
theorem d_Mo_purpose_0 : decode b_Mo_purpose 0 = .ok (.iload_n 1, 1) := by decide +kernel
theorem d_Mo_purpose_1 : decode b_Mo_purpose 1 = .ok (.ifCond .ne 5, 3) := by decide +kernel
theorem d_Mo_purpose_4 : decode b_Mo_purpose 4 = .ok (.iconst 1, 1) := by decide +kernel
theorem d_Mo_purpose_5 : decode b_Mo_purpose 5 = .ok (.ireturn, 1) := by decide +kernel
theorem d_Mo_purpose_6 : decode b_Mo_purpose 6 = .ok (.iconst 0, 1) := by decide +kernel
theorem d_Mo_purpose_7 : decode b_Mo_purpose 7 = .ok (.istore_n 2, 1) := by decide +kernel
theorem d_Mo_purpose_8 : decode b_Mo_purpose 8 = .ok (.iload_n 2, 1) := by decide +kernel
theorem d_Mo_purpose_9 : decode b_Mo_purpose 9 = .ok (.aload_n 0, 1) := by decide +kernel
theorem d_Mo_purpose_10 : decode b_Mo_purpose 10 = .ok (.getfield 181, 3) := by decide +kernel
theorem d_Mo_purpose_13 : decode b_Mo_purpose 13 = .ok (.if_icmp .ge 21, 3) := by decide +kernel
theorem d_Mo_purpose_16 : decode b_Mo_purpose 16 = .ok (.aload_n 0, 1) := by decide +kernel
theorem d_Mo_purpose_17 : decode b_Mo_purpose 17 = .ok (.getfield 64, 3) := by decide +kernel
theorem d_Mo_purpose_20 : decode b_Mo_purpose 20 = .ok (.iload_n 2, 1) := by decide +kernel
theorem d_Mo_purpose_21 : decode b_Mo_purpose 21 = .ok (.iaload, 1) := by decide +kernel
theorem d_Mo_purpose_22 : decode b_Mo_purpose 22 = .ok (.iload_n 1, 1) := by decide +kernel
theorem d_Mo_purpose_23 : decode b_Mo_purpose 23 = .ok (.if_icmp .ne 5, 3) := by decide +kernel
theorem d_Mo_purpose_26 : decode b_Mo_purpose 26 = .ok (.iconst 2, 1) := by decide +kernel
theorem d_Mo_purpose_27 : decode b_Mo_purpose 27 = .ok (.ireturn, 1) := by decide +kernel
theorem d_Mo_purpose_28 : decode b_Mo_purpose 28 = .ok (.iinc 2 1, 3) := by decide +kernel
theorem d_Mo_purpose_31 : decode b_Mo_purpose 31 = .ok (.goto (-23), 3) := by decide +kernel
theorem d_Mo_purpose_34 : decode b_Mo_purpose 34 = .ok (.aload_n 0, 1) := by decide +kernel
theorem d_Mo_purpose_35 : decode b_Mo_purpose 35 = .ok (.iload_n 1, 1) := by decide +kernel
theorem d_Mo_purpose_36 : decode b_Mo_purpose 36 = .ok (.invokevirtual 184, 3) := by decide +kernel
theorem d_Mo_purpose_39 : decode b_Mo_purpose 39 = .ok (.istore_n 2, 1) := by decide +kernel
theorem d_Mo_purpose_40 : decode b_Mo_purpose 40 = .ok (.iload_n 2, 1) := by decide +kernel
theorem d_Mo_purpose_41 : decode b_Mo_purpose 41 = .ok (.ifCond .ge 7, 3) := by decide +kernel
theorem d_Mo_purpose_44 : decode b_Mo_purpose 44 = .ok (.iconst 0, 1) := by decide +kernel
theorem d_Mo_purpose_45 : decode b_Mo_purpose 45 = .ok (.goto 20, 3) := by decide +kernel
theorem d_Mo_purpose_48 : decode b_Mo_purpose 48 = .ok (.aload_n 0, 1) := by decide +kernel
theorem d_Mo_purpose_49 : decode b_Mo_purpose 49 = .ok (.getfield 85, 3) := by decide +kernel
theorem d_Mo_purpose_52 : decode b_Mo_purpose 52 = .ok (.iload_n 2, 1) := by decide +kernel
theorem d_Mo_purpose_53 : decode b_Mo_purpose 53 = .ok (.iaload, 1) := by decide +kernel
theorem d_Mo_purpose_54 : decode b_Mo_purpose 54 = .ok (.sipush 134, 3) := by decide +kernel
theorem d_Mo_purpose_57 : decode b_Mo_purpose 57 = .ok (.if_icmp .ne 7, 3) := by decide +kernel
theorem d_Mo_purpose_60 : decode b_Mo_purpose 60 = .ok (.iconst 3, 1) := by decide +kernel
theorem d_Mo_purpose_61 : decode b_Mo_purpose 61 = .ok (.goto 4, 3) := by decide +kernel
theorem d_Mo_purpose_64 : decode b_Mo_purpose 64 = .ok (.iconst 4, 1) := by decide +kernel
theorem d_Mo_purpose_65 : decode b_Mo_purpose 65 = .ok (.ireturn, 1) := by decide +kernel
theorem d_Mo_slotOf_0 : decode b_Mo_slotOf 0 = .ok (.iconst 0, 1) := by decide +kernel
theorem d_Mo_slotOf_1 : decode b_Mo_slotOf 1 = .ok (.istore_n 2, 1) := by decide +kernel
theorem d_Mo_slotOf_2 : decode b_Mo_slotOf 2 = .ok (.iload_n 2, 1) := by decide +kernel
theorem d_Mo_slotOf_3 : decode b_Mo_slotOf 3 = .ok (.bipush 24, 2) := by decide +kernel
theorem d_Mo_slotOf_5 : decode b_Mo_slotOf 5 = .ok (.if_icmp .ge 21, 3) := by decide +kernel
theorem d_Mo_slotOf_8 : decode b_Mo_slotOf 8 = .ok (.aload_n 0, 1) := by decide +kernel
theorem d_Mo_slotOf_9 : decode b_Mo_slotOf 9 = .ok (.getfield 27, 3) := by decide +kernel
theorem d_Mo_slotOf_12 : decode b_Mo_slotOf 12 = .ok (.iload_n 2, 1) := by decide +kernel
theorem d_Mo_slotOf_13 : decode b_Mo_slotOf 13 = .ok (.iaload, 1) := by decide +kernel
theorem d_Mo_slotOf_14 : decode b_Mo_slotOf 14 = .ok (.iload_n 1, 1) := by decide +kernel
theorem d_Mo_slotOf_15 : decode b_Mo_slotOf 15 = .ok (.if_icmp .ne 5, 3) := by decide +kernel
theorem d_Mo_slotOf_18 : decode b_Mo_slotOf 18 = .ok (.iload_n 2, 1) := by decide +kernel
theorem d_Mo_slotOf_19 : decode b_Mo_slotOf 19 = .ok (.ireturn, 1) := by decide +kernel
theorem d_Mo_slotOf_20 : decode b_Mo_slotOf 20 = .ok (.iinc 2 1, 3) := by decide +kernel
theorem d_Mo_slotOf_23 : decode b_Mo_slotOf 23 = .ok (.goto (-21), 3) := by decide +kernel
theorem d_Mo_slotOf_26 : decode b_Mo_slotOf 26 = .ok (.iconst (-1), 1) := by decide +kernel
theorem d_Mo_slotOf_27 : decode b_Mo_slotOf 27 = .ok (.ireturn, 1) := by decide +kernel
theorem d_Mo_streamWith_0 : decode b_Mo_streamWith 0 = .ok (.iconst 0, 1) := by decide +kernel
theorem d_Mo_streamWith_1 : decode b_Mo_streamWith 1 = .ok (.istore_n 2, 1) := by decide +kernel
theorem d_Mo_streamWith_2 : decode b_Mo_streamWith 2 = .ok (.iload_n 2, 1) := by decide +kernel
theorem d_Mo_streamWith_3 : decode b_Mo_streamWith 3 = .ok (.aload_n 0, 1) := by decide +kernel
theorem d_Mo_streamWith_4 : decode b_Mo_streamWith 4 = .ok (.getfield 181, 3) := by decide +kernel
theorem d_Mo_streamWith_7 : decode b_Mo_streamWith 7 = .ok (.if_icmp .ge 47, 3) := by decide +kernel
theorem d_Mo_streamWith_10 : decode b_Mo_streamWith 10 = .ok (.iconst 0, 1) := by decide +kernel
theorem d_Mo_streamWith_11 : decode b_Mo_streamWith 11 = .ok (.istore_n 3, 1) := by decide +kernel
theorem d_Mo_streamWith_12 : decode b_Mo_streamWith 12 = .ok (.iload_n 3, 1) := by decide +kernel
theorem d_Mo_streamWith_13 : decode b_Mo_streamWith 13 = .ok (.aload_n 0, 1) := by decide +kernel
theorem d_Mo_streamWith_14 : decode b_Mo_streamWith 14 = .ok (.getfield 73, 3) := by decide +kernel
theorem d_Mo_streamWith_17 : decode b_Mo_streamWith 17 = .ok (.iload_n 2, 1) := by decide +kernel
theorem d_Mo_streamWith_18 : decode b_Mo_streamWith 18 = .ok (.iaload, 1) := by decide +kernel
theorem d_Mo_streamWith_19 : decode b_Mo_streamWith 19 = .ok (.if_icmp .ge 29, 3) := by decide +kernel
theorem d_Mo_streamWith_22 : decode b_Mo_streamWith 22 = .ok (.aload_n 0, 1) := by decide +kernel
theorem d_Mo_streamWith_23 : decode b_Mo_streamWith 23 = .ok (.getfield 88, 3) := by decide +kernel
theorem d_Mo_streamWith_26 : decode b_Mo_streamWith 26 = .ok (.iconst 4, 1) := by decide +kernel
theorem d_Mo_streamWith_27 : decode b_Mo_streamWith 27 = .ok (.iload_n 2, 1) := by decide +kernel
theorem d_Mo_streamWith_28 : decode b_Mo_streamWith 28 = .ok (.imul, 1) := by decide +kernel
theorem d_Mo_streamWith_29 : decode b_Mo_streamWith 29 = .ok (.iload_n 3, 1) := by decide +kernel
theorem d_Mo_streamWith_30 : decode b_Mo_streamWith 30 = .ok (.iadd, 1) := by decide +kernel
theorem d_Mo_streamWith_31 : decode b_Mo_streamWith 31 = .ok (.iaload, 1) := by decide +kernel
theorem d_Mo_streamWith_32 : decode b_Mo_streamWith 32 = .ok (.iload_n 1, 1) := by decide +kernel
theorem d_Mo_streamWith_33 : decode b_Mo_streamWith 33 = .ok (.if_icmp .ne 9, 3) := by decide +kernel
theorem d_Mo_streamWith_36 : decode b_Mo_streamWith 36 = .ok (.iconst 4, 1) := by decide +kernel
theorem d_Mo_streamWith_37 : decode b_Mo_streamWith 37 = .ok (.iload_n 2, 1) := by decide +kernel
theorem d_Mo_streamWith_38 : decode b_Mo_streamWith 38 = .ok (.imul, 1) := by decide +kernel
theorem d_Mo_streamWith_39 : decode b_Mo_streamWith 39 = .ok (.iload_n 3, 1) := by decide +kernel
theorem d_Mo_streamWith_40 : decode b_Mo_streamWith 40 = .ok (.iadd, 1) := by decide +kernel
theorem d_Mo_streamWith_41 : decode b_Mo_streamWith 41 = .ok (.ireturn, 1) := by decide +kernel
theorem d_Mo_streamWith_42 : decode b_Mo_streamWith 42 = .ok (.iinc 3 1, 3) := by decide +kernel
theorem d_Mo_streamWith_45 : decode b_Mo_streamWith 45 = .ok (.goto (-33), 3) := by decide +kernel
theorem d_Mo_streamWith_48 : decode b_Mo_streamWith 48 = .ok (.iinc 2 1, 3) := by decide +kernel
theorem d_Mo_streamWith_51 : decode b_Mo_streamWith 51 = .ok (.goto (-49), 3) := by decide +kernel
theorem d_Mo_streamWith_54 : decode b_Mo_streamWith 54 = .ok (.iconst (-1), 1) := by decide +kernel
theorem d_Mo_streamWith_55 : decode b_Mo_streamWith 55 = .ok (.ireturn, 1) := by decide +kernel
/-! What the reference gathers: its places -/
theorem nI_neN {k : Nat} (h : k < 2 ^ 31) : ¬ nI k = -1 := by
  intro z
  have a : (nI k).toInt = (k : Int) := nI_toInt h
  rw [z] at a
  have b : (-1 : Int32).toInt = -1 := rfl
  omega
theorem nI_not0 {k : Nat} (h : k < 2 ^ 31) : ¬ nI k < 0 := by
  intro z
  have a : (nI k).toInt = (k : Int) := nI_toInt h
  have b := Int32.lt_iff_toInt_lt.mp z
  rw [a] at b
  have c : (0 : Int32).toInt = 0 := rfl
  omega
def slG (f : Nat → Int32) (v : Int32) : Nat → Int32
  | 0 => -1
  | m + 1 => if f (24 - (m + 1)) = v then nI (24 - (m + 1)) else slG f v m
theorem slG_at {f : Nat → Int32} {v : Int32} {j : Nat} (h : j < 24) : slG f v (24 - j) = if f j = v then nI j else slG f v (24 - (j + 1)) := by
  rw [show 24 - j = (24 - (j + 1)) + 1 by omega, slG, show 24 - (24 - (j + 1) + 1) = j by omega]
theorem slG_cs (f : Nat → Int32) (v : Int32) : ∀ m, m ≤ 24 → (slG f v m = -1 ∧ ∀ j, 24 - m ≤ j → j < 24 → f j ≠ v) ∨ (∃ k, 24 - m ≤ k ∧ k < 24 ∧ slG f v m = nI k ∧ f k = v)
  | 0, _ => Or.inl ⟨rfl, fun j h h2 => by omega⟩
  | m + 1, h => by
    by_cases c : f (24 - (m + 1)) = v
    · exact Or.inr ⟨24 - (m + 1), Nat.le_refl _, by omega, by rw [slG, if_pos c], c⟩
    · rcases slG_cs f v m (by omega) with ⟨h1, h2⟩ | ⟨k, h1, h2, h3, h4⟩
      · refine Or.inl ⟨by rw [slG, if_neg c, h1], fun j hj hj2 => ?_⟩
        by_cases e : j = 24 - (m + 1)
        · rw [e]; exact c
        · exact h2 j (by omega) hj2
      · exact Or.inr ⟨k, by omega, h2, by rw [slG, if_neg c, h3], h4⟩
def gvU (z : (Nat → Int32) × (Nat → Int32)) (v : Int32) : (Nat → Int32) × (Nat → Int32) := if slG z.1 v 24 = -1 then z else (upd z.1 (slG z.1 v 24).toNatClampNeg (-1), upd z.2 8 (z.2 8 + 1))
theorem gv_no {f tl : Nat → Int32} {v : Int32} (h : slG f v 24 < 0) : (f, tl) = gvU (f, tl) v := by
  rcases slG_cs f v 24 (Nat.le_refl _) with ⟨h1, h2⟩ | ⟨k, h1, h2, h3, h4⟩
  · unfold gvU; rw [if_pos h1]
  · rw [h3] at h; exact absurd h (nI_not0 (by omega))
theorem gv_yes {f tl : Nat → Int32} {v : Int32} (h : ¬ slG f v 24 < 0) : ∃ k, k < 24 ∧ slG f v 24 = nI k ∧ (upd f k (-1), upd tl 8 (tl 8 + 1)) = gvU (f, tl) v := by
  rcases slG_cs f v 24 (Nat.le_refl _) with ⟨h1, h2⟩ | ⟨k, h1, h2, h3, h4⟩
  · rw [h1] at h; exact absurd (by decide) h
  · refine ⟨k, h2, h3, ?_⟩
    unfold gvU
    rw [h3, if_neg (nI_neN (by omega)), nI_clamp (by omega)]
def goU (z : (Nat → Int32) × (Nat → Int32)) (v : Int32) : Nat → (Nat → Int32) × (Nat → Int32)
  | 0 => z
  | j + 1 => if (goU z v j).1 j = -1 ∨ (goU z v j).1 j = v then goU z v j else gvU (goU z v j) ((goU z v j).1 j)
def sjG (sp : Nat → Int32) (v : Int32) (k n : Nat) : Nat → Int32
  | 0 => -1
  | m + 1 => if sp (4 * k + (n - (m + 1))) = v then nI (4 * k + (n - (m + 1))) else sjG sp v k n m
theorem sjG_at {sp : Nat → Int32} {v : Int32} {k n j : Nat} (h : j < n) : sjG sp v k n (n - j) = if sp (4 * k + j) = v then nI (4 * k + j) else sjG sp v k n (n - (j + 1)) := by
  rw [show n - j = (n - (j + 1)) + 1 by omega, sjG, show n - (n - (j + 1) + 1) = j by omega]
def skG (sp : Nat → Int32) (ns : Nat → Nat) (v : Int32) (ng : Nat) : Nat → Int32
  | 0 => -1
  | m + 1 => if sjG sp v (ng - (m + 1)) (ns (ng - (m + 1))) (ns (ng - (m + 1))) = -1 then skG sp ns v ng m else sjG sp v (ng - (m + 1)) (ns (ng - (m + 1))) (ns (ng - (m + 1)))
theorem skG_at {sp : Nat → Int32} {ns : Nat → Nat} {v : Int32} {ng j : Nat} (h : j < ng) : skG sp ns v ng (ng - j) = if sjG sp v j (ns j) (ns j) = -1 then skG sp ns v ng (ng - (j + 1)) else sjG sp v j (ns j) (ns j) := by
  rw [show ng - j = (ng - (j + 1)) + 1 by omega, skG, show ng - (ng - (j + 1) + 1) = j by omega]
theorem sjG_cs (sp : Nat → Int32) (v : Int32) (k n : Nat) : ∀ m, m ≤ n → sjG sp v k n m = -1 ∨ ∃ b, b < n ∧ sjG sp v k n m = nI (4 * k + b)
  | 0, _ => Or.inl rfl
  | m + 1, h => by
    by_cases c : sp (4 * k + (n - (m + 1))) = v
    · exact Or.inr ⟨n - (m + 1), by omega, by rw [sjG, if_pos c]⟩
    · rw [sjG, if_neg c]
      exact sjG_cs sp v k n m (by omega)
theorem skG_cs (sp : Nat → Int32) (ns : Nat → Nat) (v : Int32) (ng : Nat) : ∀ m, m ≤ ng → skG sp ns v ng m = -1 ∨ ∃ a b, a < ng ∧ b < ns a ∧ skG sp ns v ng m = nI (4 * a + b)
  | 0, _ => Or.inl rfl
  | m + 1, h => by
    rw [skG]
    rcases sjG_cs sp v (ng - (m + 1)) (ns (ng - (m + 1))) _ (Nat.le_refl _) with h1 | ⟨b, h1, h2⟩
    · rw [if_pos h1]
      exact skG_cs sp ns v ng m (by omega)
    · by_cases c : sjG sp v (ng - (m + 1)) (ns (ng - (m + 1))) (ns (ng - (m + 1))) = -1
      · rw [if_pos c]
        exact skG_cs sp ns v ng m (by omega)
      · rw [if_neg c]
        exact Or.inr ⟨_, b, by omega, h1, h2⟩
def spG (f : Nat → Int32) (v : Int32) (n : Nat) : Nat → Bool
  | 0 => false
  | m + 1 => if f (n - (m + 1)) = v then true else spG f v n m
theorem spG_at {f : Nat → Int32} {v : Int32} {n j : Nat} (h : j < n) : spG f v n (n - j) = if f j = v then true else spG f v n (n - (j + 1)) := by
  rw [show n - j = (n - (j + 1)) + 1 by omega, spG, show n - (n - (j + 1) + 1) = j by omega]
def puV (ng : Nat) (pi sp ty : Nat → Int32) (ns : Nat → Nat) (v : Int32) : Int32 := if v = 0 then 1 else if spG pi v ng ng = true then 2 else if skG sp ns v ng ng = -1 then 0 else if ty (skG sp ns v ng ng).toNatClampNeg = 134 then 3 else 4
theorem pu_no {sp : Nat → Int32} {ns : Nat → Nat} {v : Int32} {ng : Nat} (h : ¬ 0 ≤ skG sp ns v ng ng) (hng : ng ≤ 4) (hns : ∀ k, k < ng → ns k ≤ 4) : skG sp ns v ng ng = -1 := by
  rcases skG_cs sp ns v ng ng (Nat.le_refl _) with h1 | ⟨a, b, h1, h2, h3⟩
  · exact h1
  · rw [h3] at h
    have := hns a h1
    exact absurd (Int32.not_lt.mp (nI_not0 (by omega))) h
theorem pu_yes {sp : Nat → Int32} {ns : Nat → Nat} {v : Int32} {ng : Nat} (h : 0 ≤ skG sp ns v ng ng) (hng : ng ≤ 4) (hns : ∀ k, k < ng → ns k ≤ 4) : ∃ k, k < 16 ∧ skG sp ns v ng ng = nI k := by
  rcases skG_cs sp ns v ng ng (Nat.le_refl _) with h1 | ⟨a, b, h1, h2, h3⟩
  · rw [h1] at h; exact absurd h (by decide)
  · have := hns a h1
    exact ⟨4 * a + b, by omega, h3⟩

set_option maxHeartbeats 4000000 in
set_option maxRecDepth 100000 in
theorem c_Mo_slotOf (l : Launch) (D : va_G) (cI : ClassId) (h : Nat) (r : Nat → Nat) (th si le lv pg pn pl rs : Int32) (sP : Nat → Int32) (v : Int32)  : Met l y_Mo_slotOf [Cond.code y_Mo_slotOf b_Mo_slotOf 3 (some .int)] ({ frames := 0, cells := 0, slots := 0, locals := 0 }) (zP [.ref h, .int v] D [(h, .inr (13, mO r th si le lv pg pn pl rs)), (r 7, .inl (cI, 24, .inl sP))] [(cI, .int)]) (vp_Si (fun r0 => r0 = slG sP v 24)) 0 0 (fun _ => False) := by
  refine Met.ofW (cc := b_Mo_slotOf) (maxL := 3) (ret := (some .int)) (by decide) rfl ?_
  intro p e s m args below meth cd s₁ Bd hml hv
  obtain ⟨rfl, hP, hK, hN⟩ := hv
  have hx := Bd.exec
  have hb := Bd.bytes
  have hr := Bd.returns
  have hts := hN.use (a := ([.ref h, .int v]).toArray)
  have hown : s.vm.findClass R_Mo = some m.cls := findClass_of_methodNamed Bd.named
  have hlocks := Bd.notSynchronized
  have hP : va_P D classes [(h, .inr (13, mO r th si le lv pg pn pl rs)), (r 7, .inl (cI, 24, .inl sP))] s.heap := hP
  have hl := lv_entry ([.ref h, .int v]) (n := 3) (Nat.le_of_ble_eq_true rfl)
  rw [lg_entry_eq]
  generalize (lg_sl ([.ref h, .int v]) ++ List.replicate (3 - (lg_sl ([.ref h, .int v])).length) Slot.unset).toArray = ls at hl ⊢
  have hl : lv_has ls 3 [(0, .ref h), (1, .int v)] := hl
  refine lv_iconst (v := 0) hx hb d_Mo_slotOf_0 (by decide) ?_
  refine lv_istore_n (lv' := [(2, .int 0), (0, .ref h), (1, .int v)]) hx hb d_Mo_slotOf_1 rfl hl (by decide) rfl (fun ls hl => ?_)
  have loop2 : ∀ (N : Nat) (j : Nat) (ls : Array Slot) (hm : 24 - j < N) (hj : j ≤ 24) (hs : slG sP v (24 - j) = slG sP v 24) (hl : lv_has ls 3 [(0, .ref h), (1, .int v), (2, .int (nI j))]), W p l e ({ frames := 0, cells := 0, slots := 0, locals := 0 }) s m ([.ref h, .int v]).toArray below meth cd s.heap [] 0 0 (MQ below (vp_Si (fun r0 => r0 = slG sP v 24)) ([.ref h, .int v]).toArray s 0 0 (fun _ => False)) (F0 m 2 ls []) := by
    intro N2
    induction N2 with
    | zero => intro j ls hm hj hs hl; exact absurd hm (Nat.not_lt_zero _)
    | succ N2 ih2 =>
      intro j ls hm hj hs hl
      refine lv_iload_n hx hb d_Mo_slotOf_2 rfl (lv_at hl 2 rfl) ?_
      refine lv_bipush (v := 24) hx hb d_Mo_slotOf_3 (by decide) ?_
      refine lv_icmp_ge (tgt := 26) hx hb d_Mo_slotOf_5 rfl (fun h5 => ?_) (fun h5 => ?_)
      · have h5 := (nI_leI (a := 24) (by omega) (by omega)).mp h5
        obtain rfl : j = 24 := by omega
        refine lv_iconst (v := (-1)) hx hb d_Mo_slotOf_26 (by decide) ?_
        exact W.iret (v := (-1)) hx hb hr (fun t ht hW => ⟨_, rfl, hs, ht⟩) (fun _ h => by cases h) d_Mo_slotOf_27
      · have h5 := mt (nI_leI (a := 24) (by omega) (by omega)).mpr h5
        refine lv_aload_n hx hb d_Mo_slotOf_8 rfl (lv_at hl 0 rfl) ?_
        refine va_get (D := D) (ci := 13) (v := .ref (r 7)) (C := R_Mo) (T := F_Mo) (N := 54) hx hb hts i_Mo hown hK hP 0 rfl rfl 7 (by decide) (hts _ wd_1095) (fun _ h9 => h9) rfl d_Mo_slotOf_9 ?_
        refine lv_iload_n hx hb d_Mo_slotOf_12 rfl (lv_at hl 2 rfl) ?_
        refine z_iald hx hb hK hP 1 0 rfl rfl j rfl (by omega) (by omega) d_Mo_slotOf_13 ?_
        refine lv_iload_n hx hb d_Mo_slotOf_14 rfl (lv_at hl 1 rfl) ?_
        refine lv_icmp_ne (tgt := 20) hx hb d_Mo_slotOf_15 rfl (fun h15 => ?_) (fun h15 => ?_)
        · refine lv_iinc (k := 2) (v := nI (j + 1)) (lv' := [(2, .int (nI (j + 1))), (0, .ref h), (1, .int v)]) hx hb d_Mo_slotOf_20 hl rfl (nI_1 j) (by decide) rfl (fun ls hl => ?_)
          refine lv_goto (tgt := 2) hx hb d_Mo_slotOf_23 rfl ?_
          exact ih2 (j + 1) ls (by omega) (by omega) (by rw [slG_at (by omega), if_neg h15] at hs; exact hs) (lv_sub hl [1, 2, 0] rfl)
        · refine lv_iload_n hx hb d_Mo_slotOf_18 rfl (lv_at hl 2 rfl) ?_
          exact W.iret (v := (nI j)) hx hb hr (fun t ht hW => ⟨_, rfl, (by rw [slG_at (by omega), if_pos h15] at hs; exact hs), ht⟩) (fun _ h => by cases h) d_Mo_slotOf_19
  exact loop2 _ 0 ls (Nat.lt_succ_self _) (Nat.zero_le _) rfl (lv_sub hl [1, 2, 0] rfl)
set_option maxHeartbeats 4000000 in
set_option maxRecDepth 100000 in
theorem c_Mo_newSlot (l : Launch) (D : va_G) (sz : Nat) (cI : ClassId) (h : Nat) (r : Nat → Nat) (th si le lv pg pn pl rs : Int32) (cZ : ClassId) (sP sB sZ : Nat → Int32) (v b : Int32) (k : Nat) (hk : k < 24) (hs : slG sP (-1) 24 = nI k) : Met l y_Mo_newSlot [Cond.code y_Mo_newSlot b_Mo_newSlot 4 (some .int)] ({ frames := 1, cells := 0, slots := 0, locals := 22 }) (zM [.ref h, .int v, .int b] D [(h, .inr (13, mO r th si le lv pg pn pl rs)), (r 7, .inl (cI, 24, .inl sP)), (r 8, .inl (cZ, 24, .inl sB)), (r 10, .inl (cI, 24, .inl sZ))] [(cI, .int), (cZ, .boolean)] sz) (va_Qi (fun r0 (_ : Unit) => r0 = nI k) (fun (_u : Unit) t => zW D (va_A [(h, .inr (13, mO r th si le lv pg pn pl rs)), (r 7, .inl (cI, 24, .inl sP)), (r 8, .inl (cZ, 24, .inl sB)), (r 10, .inl (cI, 24, .inl sZ))] sz) [(h, .inr (13, mO r th si le lv pg pn pl rs)), (r 7, .inl (cI, 24, .inl (upd sP k v))), (r 8, .inl (cZ, 24, .inl (upd sB k (vp_nar .boolean b)))), (r 10, .inl (cI, 24, .inl (upd sZ k 0)))] [(cI, .int), (cZ, .boolean)] t) (va_A [(h, .inr (13, mO r th si le lv pg pn pl rs)), (r 7, .inl (cI, 24, .inl sP)), (r 8, .inl (cZ, 24, .inl sB)), (r 10, .inl (cI, 24, .inl sZ))] sz)) 0 0 (va_A [(h, .inr (13, mO r th si le lv pg pn pl rs)), (r 7, .inl (cI, 24, .inl sP)), (r 8, .inl (cZ, 24, .inl sB)), (r 10, .inl (cI, 24, .inl sZ))] sz) := by
  refine Met.ofW (cc := b_Mo_newSlot) (maxL := 4) (ret := (some .int)) (by decide) rfl ?_
  intro p e s m args below meth cd s₁ Bd hml hv
  obtain ⟨rfl, hsz, hP, hK, hN, hD0⟩ := hv
  have hx := Bd.exec
  have hb := Bd.bytes
  have hr := Bd.returns
  have hts := hN.use (a := ([.ref h, .int v, .int b]).toArray)
  have hown : s.vm.findClass R_Mo = some m.cls := findClass_of_methodNamed Bd.named
  have hlocks := Bd.notSynchronized
  subst hsz
  have hD := hD0.self (sz := s.heap.size)
  clear hD0
  have hA : ∀ q : Nat, s.heap.size ≤ q → va_A [(h, .inr (13, mO r th si le lv pg pn pl rs)), (r 7, .inl (cI, 24, .inl sP)), (r 8, .inl (cZ, 24, .inl sB)), (r 10, .inl (cI, 24, .inl sZ))] s.heap.size q := fun q h => Or.inr h
  have hS : va_S (va_A [(h, .inr (13, mO r th si le lv pg pn pl rs)), (r 7, .inl (cI, 24, .inl sP)), (r 8, .inl (cZ, 24, .inl sB)), (r 10, .inl (cI, 24, .inl sZ))] s.heap.size) s.heap s.heap [] := va_S.rf
  generalize hAe : va_A [(h, .inr (13, mO r th si le lv pg pn pl rs)), (r 7, .inl (cI, 24, .inl sP)), (r 8, .inl (cZ, 24, .inl sB)), (r 10, .inl (cI, 24, .inl sZ))] s.heap.size = A at hD hA hS ⊢
  have hP : va_P D classes [(h, .inr (13, mO r th si le lv pg pn pl rs)), (r 7, .inl (cI, 24, .inl sP)), (r 8, .inl (cZ, 24, .inl sB)), (r 10, .inl (cI, 24, .inl sZ))] s.heap := hP
  have hl := lv_entry ([.ref h, .int v, .int b]) (n := 4) (Nat.le_of_ble_eq_true rfl)
  rw [lg_entry_eq]
  generalize (lg_sl ([.ref h, .int v, .int b]) ++ List.replicate (4 - (lg_sl ([.ref h, .int v, .int b])).length) Slot.unset).toArray = ls at hl ⊢
  have hl : lv_has ls 4 [(0, .ref h), (1, .int v), (2, .int b)] := hl
  refine lv_aload_n hx hb d_Mo_newSlot_0 rfl (lv_at hl 0 rfl) ?_
  refine lv_iconst (v := (-1)) hx hb d_Mo_newSlot_1 (by decide) ?_
  have hPc := hP.sub (ws' := [(h, .inr (13, mO r th si le lv pg pn pl rs)), (r 7, .inl (cI, 24, .inl sP))]) [0, 1] rfl
  have hKc := hK.sub (tys' := [(cI, .int)]) [0] rfl
  refine z_ci (va_runV (As := [.int (-1)]) (rest := []) ⟨hx, hb, hml, hown, hts⟩ (c_Mo_slotOf l D cI h r th si le lv pg pn pl rs sP (-1) ) (z_cV hN wd_1306 wd_67 wd_1303 hd_Mo_slotOf rfl rfl ⟨Nat.le_of_ble_eq_true rfl, Nat.le_of_ble_eq_true rfl⟩ wd_1305 wd_31) (z_preV (va_recv (ci := 13) (q0 := 0) hK hP rfl rfl) hPc hKc hN) rfl rfl hl.1 rfl (lv_room (Nat.le_of_ble_eq_true rfl)) d_Mo_newSlot_2 ⟨Nat.le_of_ble_eq_true rfl, Nat.le_of_ble_eq_true rfl⟩) (fun r2 e2 => ?_)
  subst e2
  refine z_topi (w := nI k) hs ?_
  refine lv_istore_n (lv' := [(3, .int (nI k)), (0, .ref h), (1, .int v), (2, .int b)]) hx hb d_Mo_newSlot_5 rfl hl (by decide) rfl (fun ls hl => ?_)
  refine lv_aload_n hx hb d_Mo_newSlot_6 rfl (lv_at hl 1 rfl) ?_
  refine va_get (D := D) (ci := 13) (v := .ref (r 7)) (C := R_Mo) (T := F_Mo) (N := 54) hx hb hts i_Mo hown hK hP 0 rfl rfl 7 (by decide) (hts _ wd_1095) (fun _ h9 => h9) rfl d_Mo_newSlot_7 ?_
  refine lv_iload_n hx hb d_Mo_newSlot_10 rfl (lv_at hl 0 rfl) ?_
  refine lv_iload_n hx hb d_Mo_newSlot_11 rfl (lv_at hl 2 rfl) ?_
  refine z_iast hx hb hK hP hD hS 1 0 rfl rfl k rfl (by omega) (by omega) d_Mo_newSlot_12 (fun H locs hP hD hS => ?_)
  have hP : va_P D classes [(h, .inr (13, mO r th si le lv pg pn pl rs)), (r 7, .inl (cI, 24, .inl (upd sP k v))), (r 8, .inl (cZ, 24, .inl sB)), (r 10, .inl (cI, 24, .inl sZ))] H := hP
  have hD : va_D A [(h, .inr (13, mO r th si le lv pg pn pl rs)), (r 7, .inl (cI, 24, .inl (upd sP k v))), (r 8, .inl (cZ, 24, .inl sB)), (r 10, .inl (cI, 24, .inl sZ))] := hD
  refine lv_aload_n hx hb d_Mo_newSlot_13 rfl (lv_at hl 1 rfl) ?_
  refine va_get (D := D) (ci := 13) (v := .ref (r 8)) (C := R_Mo) (T := F_Mo) (N := 54) hx hb hts i_Mo hown hK hP 0 rfl rfl 8 (by decide) (hts _ wd_1096) (fun _ h9 => h9) rfl d_Mo_newSlot_14 ?_
  refine lv_iload_n hx hb d_Mo_newSlot_17 rfl (lv_at hl 0 rfl) ?_
  refine lv_iload_n hx hb d_Mo_newSlot_18 rfl (lv_at hl 3 rfl) ?_
  refine z_zast hx hb hK hP hD hS 2 1 rfl rfl k rfl (by omega) (by omega) d_Mo_newSlot_19 (fun H locs hP hD hS => ?_)
  have hP : va_P D classes [(h, .inr (13, mO r th si le lv pg pn pl rs)), (r 7, .inl (cI, 24, .inl (upd sP k v))), (r 8, .inl (cZ, 24, .inl (upd sB k (vp_nar .boolean b)))), (r 10, .inl (cI, 24, .inl sZ))] H := hP
  have hD : va_D A [(h, .inr (13, mO r th si le lv pg pn pl rs)), (r 7, .inl (cI, 24, .inl (upd sP k v))), (r 8, .inl (cZ, 24, .inl (upd sB k (vp_nar .boolean b)))), (r 10, .inl (cI, 24, .inl sZ))] := hD
  refine lv_aload_n hx hb d_Mo_newSlot_20 rfl (lv_at hl 1 rfl) ?_
  refine va_get (D := D) (ci := 13) (v := .ref (r 10)) (C := R_Mo) (T := F_Mo) (N := 54) hx hb hts i_Mo hown hK hP 0 rfl rfl 10 (by decide) (hts _ wd_1098) (fun _ h9 => h9) rfl d_Mo_newSlot_21 ?_
  refine lv_iload_n hx hb d_Mo_newSlot_24 rfl (lv_at hl 0 rfl) ?_
  refine lv_iconst (v := 0) hx hb d_Mo_newSlot_25 (by decide) ?_
  refine z_iast hx hb hK hP hD hS 3 0 rfl rfl k rfl (by omega) (by omega) d_Mo_newSlot_26 (fun H locs hP hD hS => ?_)
  have hP : va_P D classes [(h, .inr (13, mO r th si le lv pg pn pl rs)), (r 7, .inl (cI, 24, .inl (upd sP k v))), (r 8, .inl (cZ, 24, .inl (upd sB k (vp_nar .boolean b)))), (r 10, .inl (cI, 24, .inl (upd sZ k 0)))] H := hP
  have hD : va_D A [(h, .inr (13, mO r th si le lv pg pn pl rs)), (r 7, .inl (cI, 24, .inl (upd sP k v))), (r 8, .inl (cZ, 24, .inl (upd sB k (vp_nar .boolean b)))), (r 10, .inl (cI, 24, .inl (upd sZ k 0)))] := hD
  refine lv_iload_n hx hb d_Mo_newSlot_27 rfl (lv_at hl 0 rfl) ?_
  have hP9 := hP.sub (ws' := [(h, .inr (13, mO r th si le lv pg pn pl rs)), (r 7, .inl (cI, 24, .inl (upd sP k v))), (r 8, .inl (cZ, 24, .inl (upd sB k (vp_nar .boolean b)))), (r 10, .inl (cI, 24, .inl (upd sZ k 0)))]) [0, 1, 2, 3] rfl
  have hD9 := hD.sub (ws' := [(h, .inr (13, mO r th si le lv pg pn pl rs)), (r 7, .inl (cI, 24, .inl (upd sP k v))), (r 8, .inl (cZ, 24, .inl (upd sB k (vp_nar .boolean b)))), (r 10, .inl (cI, 24, .inl (upd sZ k 0)))]) [0, 1, 2, 3] (by decide) rfl
  have hK9 := hK.sub (tys' := [(cI, .int), (cZ, .boolean)]) [0, 1] rfl
  exact W.iret (v := (nI k)) hx hb hr (fun t ht hW => ⟨⟨_, (), rfl, rfl, ⟨by rw [ht]; exact hP9, va_K.moved hW.alike hK9, hD9⟩⟩, hS.F ht⟩) hS.2.2 d_Mo_newSlot_28
set_option maxHeartbeats 4000000 in
set_option maxRecDepth 100000 in
theorem c_Mo_giveUp (l : Launch) (D : va_G) (sz : Nat) (cI : ClassId) (h : Nat) (r : Nat → Nat) (th si le lv pg pn pl rs : Int32) (sP tl : Nat → Int32) (v : Int32)  : Met l y_Mo_giveUp [Cond.code y_Mo_giveUp b_Mo_giveUp 3 none] ({ frames := 1, cells := 0, slots := 0, locals := 22 }) (zM [.ref h, .int v] D [(h, .inr (13, mO r th si le lv pg pn pl rs)), (r 3, .inl (cI, 10, .inl tl)), (r 7, .inl (cI, 24, .inl sP))] [(cI, .int)] sz) (va_Qv (fun (u : (Nat → Int32) × (Nat → Int32)) => u = gvU (sP, tl) v) (fun (u : (Nat → Int32) × (Nat → Int32)) t => zW D (va_A [(h, .inr (13, mO r th si le lv pg pn pl rs)), (r 3, .inl (cI, 10, .inl tl)), (r 7, .inl (cI, 24, .inl sP))] sz) [(h, .inr (13, mO r th si le lv pg pn pl rs)), (r 3, .inl (cI, 10, .inl u.2)), (r 7, .inl (cI, 24, .inl u.1))] [(cI, .int)] t) (va_A [(h, .inr (13, mO r th si le lv pg pn pl rs)), (r 3, .inl (cI, 10, .inl tl)), (r 7, .inl (cI, 24, .inl sP))] sz)) 0 0 (va_A [(h, .inr (13, mO r th si le lv pg pn pl rs)), (r 3, .inl (cI, 10, .inl tl)), (r 7, .inl (cI, 24, .inl sP))] sz) := by
  refine Met.ofW (cc := b_Mo_giveUp) (maxL := 3) (ret := none) (by decide) rfl ?_
  intro p e s m args below meth cd s₁ Bd hml hv
  obtain ⟨rfl, hsz, hP, hK, hN, hD0⟩ := hv
  have hx := Bd.exec
  have hb := Bd.bytes
  have hr := Bd.returns
  have hts := hN.use (a := ([.ref h, .int v]).toArray)
  have hown : s.vm.findClass R_Mo = some m.cls := findClass_of_methodNamed Bd.named
  have hlocks := Bd.notSynchronized
  subst hsz
  have hD := hD0.self (sz := s.heap.size)
  clear hD0
  have hA : ∀ q : Nat, s.heap.size ≤ q → va_A [(h, .inr (13, mO r th si le lv pg pn pl rs)), (r 3, .inl (cI, 10, .inl tl)), (r 7, .inl (cI, 24, .inl sP))] s.heap.size q := fun q h => Or.inr h
  have hS : va_S (va_A [(h, .inr (13, mO r th si le lv pg pn pl rs)), (r 3, .inl (cI, 10, .inl tl)), (r 7, .inl (cI, 24, .inl sP))] s.heap.size) s.heap s.heap [] := va_S.rf
  generalize hAe : va_A [(h, .inr (13, mO r th si le lv pg pn pl rs)), (r 3, .inl (cI, 10, .inl tl)), (r 7, .inl (cI, 24, .inl sP))] s.heap.size = A at hD hA hS ⊢
  have hP : va_P D classes [(h, .inr (13, mO r th si le lv pg pn pl rs)), (r 3, .inl (cI, 10, .inl tl)), (r 7, .inl (cI, 24, .inl sP))] s.heap := hP
  have hl := lv_entry ([.ref h, .int v]) (n := 3) (Nat.le_of_ble_eq_true rfl)
  rw [lg_entry_eq]
  generalize (lg_sl ([.ref h, .int v]) ++ List.replicate (3 - (lg_sl ([.ref h, .int v])).length) Slot.unset).toArray = ls at hl ⊢
  have hl : lv_has ls 3 [(0, .ref h), (1, .int v)] := hl
  refine lv_aload_n hx hb d_Mo_giveUp_0 rfl (lv_at hl 0 rfl) ?_
  refine lv_iload_n hx hb d_Mo_giveUp_1 rfl (lv_at hl 1 rfl) ?_
  have hPc := hP.sub (ws' := [(h, .inr (13, mO r th si le lv pg pn pl rs)), (r 7, .inl (cI, 24, .inl sP))]) [0, 2] rfl
  have hKc := hK.sub (tys' := [(cI, .int)]) [0] rfl
  refine z_ci (va_runV (As := [.int v]) (rest := []) ⟨hx, hb, hml, hown, hts⟩ (c_Mo_slotOf l D cI h r th si le lv pg pn pl rs sP v ) (z_cV hN wd_1306 wd_67 wd_1303 hd_Mo_slotOf rfl rfl ⟨Nat.le_of_ble_eq_true rfl, Nat.le_of_ble_eq_true rfl⟩ wd_1305 wd_31) (z_preV (va_recv (ci := 13) (q0 := 0) hK hP rfl rfl) hPc hKc hN) rfl rfl hl.1 rfl (lv_room (Nat.le_of_ble_eq_true rfl)) d_Mo_giveUp_2 ⟨Nat.le_of_ble_eq_true rfl, Nat.le_of_ble_eq_true rfl⟩) (fun r2 e2 => ?_)
  subst e2
  refine lv_istore_n (lv' := [(2, .int (slG sP v 24)), (0, .ref h), (1, .int v)]) hx hb d_Mo_giveUp_5 rfl hl (by decide) rfl (fun ls hl => ?_)
  refine lv_iload_n hx hb d_Mo_giveUp_6 rfl (lv_at hl 0 rfl) ?_
  refine lv_if_lt (tgt := 28) hx hb d_Mo_giveUp_7 rfl (fun h7 => ?_) (fun h7 => ?_)
  · have hP9 := hP.sub (ws' := [(h, .inr (13, mO r th si le lv pg pn pl rs)), (r 3, .inl (cI, 10, .inl tl)), (r 7, .inl (cI, 24, .inl sP))]) [0, 1, 2] rfl
    have hD9 := hD.sub (ws' := [(h, .inr (13, mO r th si le lv pg pn pl rs)), (r 3, .inl (cI, 10, .inl tl)), (r 7, .inl (cI, 24, .inl sP))]) [0, 1, 2] (by decide) rfl
    have hK9 := hK.sub (tys' := [(cI, .int)]) [0] rfl
    exact W.vret hx hb hr (fun t ht hW => ⟨⟨(sP, tl), rfl, gv_no h7, ⟨by rw [ht]; exact hP9, va_K.moved hW.alike hK9, hD9⟩⟩, hS.F ht⟩) hS.2.2 d_Mo_giveUp_28
  · obtain ⟨k, hk, hke, hku⟩ := gv_yes (tl := tl) h7
    refine lv_aload_n hx hb d_Mo_giveUp_10 rfl (lv_at hl 1 rfl) ?_
    refine va_get (D := D) (ci := 13) (v := .ref (r 7)) (C := R_Mo) (T := F_Mo) (N := 54) hx hb hts i_Mo hown hK hP 0 rfl rfl 7 (by decide) (hts _ wd_1095) (fun _ h9 => h9) rfl d_Mo_giveUp_11 ?_
    refine lv_iload_n hx hb d_Mo_giveUp_14 rfl (lv_at hl 0 rfl) ?_
    refine lv_iconst (v := (-1)) hx hb d_Mo_giveUp_15 (by decide) ?_
    refine z_iast hx hb hK hP hD hS 2 0 rfl rfl k hke (by omega) (by omega) d_Mo_giveUp_16 (fun H locs hP hD hS => ?_)
    have hP : va_P D classes [(h, .inr (13, mO r th si le lv pg pn pl rs)), (r 3, .inl (cI, 10, .inl tl)), (r 7, .inl (cI, 24, .inl (upd sP k (-1))))] H := hP
    have hD : va_D A [(h, .inr (13, mO r th si le lv pg pn pl rs)), (r 3, .inl (cI, 10, .inl tl)), (r 7, .inl (cI, 24, .inl (upd sP k (-1))))] := hD
    refine lv_aload_n hx hb d_Mo_giveUp_17 rfl (lv_at hl 1 rfl) ?_
    refine va_get (D := D) (ci := 13) (v := .ref (r 3)) (C := R_Mo) (T := F_Mo) (N := 54) hx hb hts i_Mo hown hK hP 0 rfl rfl 3 (by decide) (hts _ wd_1091) (fun _ h9 => h9) rfl d_Mo_giveUp_18 ?_
    refine lv_bipush (v := 8) hx hb d_Mo_giveUp_21 (by decide) ?_
    refine lv_dup2_11 hx hb d_Mo_giveUp_23 rfl rfl ?_
    refine z_iald hx hb hK hP 1 0 rfl rfl 8 rfl (by omega) (by omega) d_Mo_giveUp_24 ?_
    refine lv_iconst (v := 1) hx hb d_Mo_giveUp_25 (by decide) ?_
    refine lv_iadd hx hb d_Mo_giveUp_26 ?_
    refine z_iast hx hb hK hP hD hS 1 0 rfl rfl 8 rfl (by omega) (by omega) d_Mo_giveUp_27 (fun H locs hP hD hS => ?_)
    have hP : va_P D classes [(h, .inr (13, mO r th si le lv pg pn pl rs)), (r 3, .inl (cI, 10, .inl (upd tl 8 ((tl 8) + 1)))), (r 7, .inl (cI, 24, .inl (upd sP k (-1))))] H := hP
    have hD : va_D A [(h, .inr (13, mO r th si le lv pg pn pl rs)), (r 3, .inl (cI, 10, .inl (upd tl 8 ((tl 8) + 1)))), (r 7, .inl (cI, 24, .inl (upd sP k (-1))))] := hD
    have hP9 := hP.sub (ws' := [(h, .inr (13, mO r th si le lv pg pn pl rs)), (r 3, .inl (cI, 10, .inl (upd tl 8 ((tl 8) + 1)))), (r 7, .inl (cI, 24, .inl (upd sP k (-1))))]) [0, 1, 2] rfl
    have hD9 := hD.sub (ws' := [(h, .inr (13, mO r th si le lv pg pn pl rs)), (r 3, .inl (cI, 10, .inl (upd tl 8 ((tl 8) + 1)))), (r 7, .inl (cI, 24, .inl (upd sP k (-1))))]) [0, 1, 2] (by decide) rfl
    have hK9 := hK.sub (tys' := [(cI, .int)]) [0] rfl
    exact W.vret hx hb hr (fun t ht hW => ⟨⟨(upd sP k (-1), upd tl 8 (tl 8 + 1)), rfl, hku, ⟨by rw [ht]; exact hP9, va_K.moved hW.alike hK9, hD9⟩⟩, hS.F ht⟩) hS.2.2 d_Mo_giveUp_28
set_option maxHeartbeats 4000000 in
set_option maxRecDepth 100000 in
theorem c_Mo_giveUpOthers (l : Launch) (D : va_G) (sz : Nat) (cI : ClassId) (h : Nat) (r : Nat → Nat) (th si le lv pg pn pl rs : Int32) (sP tl : Nat → Int32) (v : Int32)  : Met l y_Mo_giveUpOthers [Cond.code y_Mo_giveUpOthers b_Mo_giveUpOthers 3 none] ({ frames := 2, cells := 0, slots := 0, locals := 44 }) (zM [.ref h, .int v] D [(h, .inr (13, mO r th si le lv pg pn pl rs)), (r 3, .inl (cI, 10, .inl tl)), (r 7, .inl (cI, 24, .inl sP))] [(cI, .int)] sz) (va_Qv (fun (u : (Nat → Int32) × (Nat → Int32)) => u = goU (sP, tl) v 24) (fun (u : (Nat → Int32) × (Nat → Int32)) t => zW D (va_A [(h, .inr (13, mO r th si le lv pg pn pl rs)), (r 3, .inl (cI, 10, .inl tl)), (r 7, .inl (cI, 24, .inl sP))] sz) [(h, .inr (13, mO r th si le lv pg pn pl rs)), (r 3, .inl (cI, 10, .inl u.2)), (r 7, .inl (cI, 24, .inl u.1))] [(cI, .int)] t) (va_A [(h, .inr (13, mO r th si le lv pg pn pl rs)), (r 3, .inl (cI, 10, .inl tl)), (r 7, .inl (cI, 24, .inl sP))] sz)) 0 0 (va_A [(h, .inr (13, mO r th si le lv pg pn pl rs)), (r 3, .inl (cI, 10, .inl tl)), (r 7, .inl (cI, 24, .inl sP))] sz) := by
  refine Met.ofW (cc := b_Mo_giveUpOthers) (maxL := 3) (ret := none) (by decide) rfl ?_
  intro p e s m args below meth cd s₁ Bd hml hv
  obtain ⟨rfl, hsz, hP, hK, hN, hD0⟩ := hv
  have hx := Bd.exec
  have hb := Bd.bytes
  have hr := Bd.returns
  have hts := hN.use (a := ([.ref h, .int v]).toArray)
  have hown : s.vm.findClass R_Mo = some m.cls := findClass_of_methodNamed Bd.named
  have hlocks := Bd.notSynchronized
  subst hsz
  have hD := hD0.self (sz := s.heap.size)
  clear hD0
  have hA : ∀ q : Nat, s.heap.size ≤ q → va_A [(h, .inr (13, mO r th si le lv pg pn pl rs)), (r 3, .inl (cI, 10, .inl tl)), (r 7, .inl (cI, 24, .inl sP))] s.heap.size q := fun q h => Or.inr h
  have hS : va_S (va_A [(h, .inr (13, mO r th si le lv pg pn pl rs)), (r 3, .inl (cI, 10, .inl tl)), (r 7, .inl (cI, 24, .inl sP))] s.heap.size) s.heap s.heap [] := va_S.rf
  generalize hAe : va_A [(h, .inr (13, mO r th si le lv pg pn pl rs)), (r 3, .inl (cI, 10, .inl tl)), (r 7, .inl (cI, 24, .inl sP))] s.heap.size = A at hD hA hS ⊢
  have hP : va_P D classes [(h, .inr (13, mO r th si le lv pg pn pl rs)), (r 3, .inl (cI, 10, .inl tl)), (r 7, .inl (cI, 24, .inl sP))] s.heap := hP
  have hl := lv_entry ([.ref h, .int v]) (n := 3) (Nat.le_of_ble_eq_true rfl)
  rw [lg_entry_eq]
  generalize (lg_sl ([.ref h, .int v]) ++ List.replicate (3 - (lg_sl ([.ref h, .int v])).length) Slot.unset).toArray = ls at hl ⊢
  have hl : lv_has ls 3 [(0, .ref h), (1, .int v)] := hl
  refine lv_iconst (v := 0) hx hb d_Mo_giveUpOthers_0 (by decide) ?_
  refine lv_istore_n (lv' := [(2, .int 0), (0, .ref h), (1, .int v)]) hx hb d_Mo_giveUpOthers_1 rfl hl (by decide) rfl (fun ls hl => ?_)
  have loop2 : ∀ (N : Nat) (j : Nat) (z : (Nat → Int32) × (Nat → Int32)) (H : Heap) (locs : List Loc) (ls : Array Slot) (hm : 24 - j < N) (hj : j ≤ 24) (hz : z = goU (sP, tl) v j) (hl : lv_has ls 3 [(0, .ref h), (1, .int v), (2, .int (nI j))]) (hP : va_P D classes [(h, .inr (13, mO r th si le lv pg pn pl rs)), (r 3, .inl (cI, 10, .inl z.2)), (r 7, .inl (cI, 24, .inl z.1))] H) (hD : va_D A [(h, .inr (13, mO r th si le lv pg pn pl rs)), (r 3, .inl (cI, 10, .inl z.2)), (r 7, .inl (cI, 24, .inl z.1))]) (hS : va_S A s.heap H locs), W p l e ({ frames := 2, cells := 0, slots := 0, locals := 44 }) s m ([.ref h, .int v]).toArray below meth cd H locs 0 0 (MQ below (va_Qv (fun (u : (Nat → Int32) × (Nat → Int32)) => u = goU (sP, tl) v 24) (fun (u : (Nat → Int32) × (Nat → Int32)) t => zW D (A) [(h, .inr (13, mO r th si le lv pg pn pl rs)), (r 3, .inl (cI, 10, .inl u.2)), (r 7, .inl (cI, 24, .inl u.1))] [(cI, .int)] t) (A)) ([.ref h, .int v]).toArray s 0 0 (A)) (F0 m 2 ls []) := by
    intro N2
    induction N2 with
    | zero => intro j z H locs ls hm hj hz hl hP hD hS; exact absurd hm (Nat.not_lt_zero _)
    | succ N2 ih2 =>
      intro j z H locs ls hm hj hz hl hP hD hS
      refine lv_iload_n hx hb d_Mo_giveUpOthers_2 rfl (lv_at hl 2 rfl) ?_
      refine lv_bipush (v := 24) hx hb d_Mo_giveUpOthers_3 (by decide) ?_
      refine lv_icmp_ge (tgt := 44) hx hb d_Mo_giveUpOthers_5 rfl (fun h5 => ?_) (fun h5 => ?_)
      · have h5 := (nI_leI (a := 24) (by omega) (by omega)).mp h5
        obtain rfl : j = 24 := by omega
        have hP9 := hP.sub (ws' := [(h, .inr (13, mO r th si le lv pg pn pl rs)), (r 3, .inl (cI, 10, .inl z.2)), (r 7, .inl (cI, 24, .inl z.1))]) [0, 1, 2] rfl
        have hD9 := hD.sub (ws' := [(h, .inr (13, mO r th si le lv pg pn pl rs)), (r 3, .inl (cI, 10, .inl z.2)), (r 7, .inl (cI, 24, .inl z.1))]) [0, 1, 2] (by decide) rfl
        have hK9 := hK.sub (tys' := [(cI, .int)]) [0] rfl
        exact W.vret hx hb hr (fun t ht hW => ⟨⟨z, rfl, hz, ⟨by rw [ht]; exact hP9, va_K.moved hW.alike hK9, hD9⟩⟩, hS.F ht⟩) hS.2.2 d_Mo_giveUpOthers_44
      · have h5 := mt (nI_leI (a := 24) (by omega) (by omega)).mpr h5
        refine lv_aload_n hx hb d_Mo_giveUpOthers_8 rfl (lv_at hl 0 rfl) ?_
        refine va_get (D := D) (ci := 13) (v := .ref (r 7)) (C := R_Mo) (T := F_Mo) (N := 54) hx hb hts i_Mo hown hK hP 0 rfl rfl 7 (by decide) (hts _ wd_1095) (fun _ h9 => h9) rfl d_Mo_giveUpOthers_9 ?_
        refine lv_iload_n hx hb d_Mo_giveUpOthers_12 rfl (lv_at hl 2 rfl) ?_
        refine z_iald hx hb hK hP 2 0 rfl rfl j rfl (by omega) (by omega) d_Mo_giveUpOthers_13 ?_
        refine lv_iconst (v := (-1)) hx hb d_Mo_giveUpOthers_14 (by decide) ?_
        refine lv_icmp_eq (tgt := 38) hx hb d_Mo_giveUpOthers_15 rfl (fun h15 => ?_) (fun h15 => ?_)
        · refine lv_iinc (k := 2) (v := nI (j + 1)) (lv' := [(2, .int (nI (j + 1))), (0, .ref h), (1, .int v)]) hx hb d_Mo_giveUpOthers_38 hl rfl (nI_1 j) (by decide) rfl (fun ls hl => ?_)
          refine lv_goto (tgt := 2) hx hb d_Mo_giveUpOthers_41 rfl ?_
          exact ih2 (j + 1) z H locs ls (by omega) (by omega) (by rw [goU, ← hz, if_pos (by first | exact Or.inl h15 | exact Or.inr h25)]) (lv_sub hl [1, 2, 0] rfl) hP hD hS
        · refine lv_aload_n hx hb d_Mo_giveUpOthers_18 rfl (lv_at hl 0 rfl) ?_
          refine va_get (D := D) (ci := 13) (v := .ref (r 7)) (C := R_Mo) (T := F_Mo) (N := 54) hx hb hts i_Mo hown hK hP 0 rfl rfl 7 (by decide) (hts _ wd_1095) (fun _ h9 => h9) rfl d_Mo_giveUpOthers_19 ?_
          refine lv_iload_n hx hb d_Mo_giveUpOthers_22 rfl (lv_at hl 2 rfl) ?_
          refine z_iald hx hb hK hP 2 0 rfl rfl j rfl (by omega) (by omega) d_Mo_giveUpOthers_23 ?_
          refine lv_iload_n hx hb d_Mo_giveUpOthers_24 rfl (lv_at hl 1 rfl) ?_
          refine lv_icmp_eq (tgt := 38) hx hb d_Mo_giveUpOthers_25 rfl (fun h25 => ?_) (fun h25 => ?_)
          · refine lv_iinc (k := 2) (v := nI (j + 1)) (lv' := [(2, .int (nI (j + 1))), (0, .ref h), (1, .int v)]) hx hb d_Mo_giveUpOthers_38 hl rfl (nI_1 j) (by decide) rfl (fun ls hl => ?_)
            refine lv_goto (tgt := 2) hx hb d_Mo_giveUpOthers_41 rfl ?_
            exact ih2 (j + 1) z H locs ls (by omega) (by omega) (by rw [goU, ← hz, if_pos (by first | exact Or.inl h15 | exact Or.inr h25)]) (lv_sub hl [1, 2, 0] rfl) hP hD hS
          · refine lv_aload_n hx hb d_Mo_giveUpOthers_28 rfl (lv_at hl 0 rfl) ?_
            refine lv_aload_n hx hb d_Mo_giveUpOthers_29 rfl (lv_at hl 0 rfl) ?_
            refine va_get (D := D) (ci := 13) (v := .ref (r 7)) (C := R_Mo) (T := F_Mo) (N := 54) hx hb hts i_Mo hown hK hP 0 rfl rfl 7 (by decide) (hts _ wd_1095) (fun _ h9 => h9) rfl d_Mo_giveUpOthers_30 ?_
            refine lv_iload_n hx hb d_Mo_giveUpOthers_33 rfl (lv_at hl 2 rfl) ?_
            refine z_iald hx hb hK hP 2 0 rfl rfl j rfl (by omega) (by omega) d_Mo_giveUpOthers_34 ?_
            have hPc := hP.sub (ws' := [(h, .inr (13, mO r th si le lv pg pn pl rs)), (r 3, .inl (cI, 10, .inl z.2)), (r 7, .inl (cI, 24, .inl z.1))]) [0, 1, 2] rfl
            have hKc := hK.sub (tys' := [(cI, .int)]) [0] rfl
            have hDc := hD.sub (ws' := [(h, .inr (13, mO r th si le lv pg pn pl rs)), (r 3, .inl (cI, 10, .inl z.2)), (r 7, .inl (cI, 24, .inl z.1))]) [0, 1, 2] (by decide) rfl
            have hFc := va_free (wc := [(h, .inr (13, mO r th si le lv pg pn pl rs)), (r 3, .inl (cI, 10, .inl z.2)), (r 7, .inl (cI, 24, .inl z.1))]) hD hS hA [0, 1, 2] rfl
            refine va_callv (va_runV (As := [.int (z.1 j)]) (rest := []) ⟨hx, hb, hml, hown, hts⟩ (c_Mo_giveUp l D H.size cI h r th si le lv pg pn pl rs z.1 z.2 (z.1 j) ) (z_cV hN wd_1302 wd_67 wd_1299 hd_Mo_giveUp rfl rfl ⟨Nat.le_of_ble_eq_true rfl, Nat.le_of_ble_eq_true rfl⟩ wd_1301 wd_30) (z_preVm (va_recv (ci := 13) (q0 := 0) hK hP rfl rfl) hPc hKc hN hDc) rfl rfl hl.1 rfl (lv_room (Nat.le_of_ble_eq_true rfl)) d_Mo_giveUpOthers_35 ⟨Nat.le_of_ble_eq_true rfl, Nat.le_of_ble_eq_true rfl⟩) hS (fun q _ h => hFc q h) hFc (fun z35 t H locs ht hvm e35 hB hz1 hk1 hS => ?_)
            obtain ⟨hP1, hK1, hD1⟩ := hB
            rw [ht] at hP1
            obtain ⟨hP, hD⟩ := va_join (wr := []) (w1 := [(h, .inr (13, mO r th si le lv pg pn pl rs)), (r 3, .inl (cI, 10, .inl z35.2)), (r 7, .inl (cI, 24, .inl z35.1))]) hP hD [0, 1, 2] [] rfl rfl (by decide) (by decide) hk1 hFc hP1 hD1
            clear hk1 hP1 hD1 hFc hPc hDc hz1
            have hP : va_P D classes [(h, .inr (13, mO r th si le lv pg pn pl rs)), (r 3, .inl (cI, 10, .inl z35.2)), (r 7, .inl (cI, 24, .inl z35.1))] H := hP
            have hD : va_D A [(h, .inr (13, mO r th si le lv pg pn pl rs)), (r 3, .inl (cI, 10, .inl z35.2)), (r 7, .inl (cI, 24, .inl z35.1))] := hD
            refine lv_iinc (k := 2) (v := nI (j + 1)) (lv' := [(2, .int (nI (j + 1))), (0, .ref h), (1, .int v)]) hx hb d_Mo_giveUpOthers_38 hl rfl (nI_1 j) (by decide) rfl (fun ls hl => ?_)
            refine lv_goto (tgt := 2) hx hb d_Mo_giveUpOthers_41 rfl ?_
            exact ih2 (j + 1) z35 H locs ls (by omega) (by omega) (by rw [goU, ← hz, if_neg (fun q => q.elim h15 h25)]; exact e35) (lv_sub hl [1, 2, 0] rfl) hP hD hS
  exact loop2 _ 0 (sP, tl) s.heap [] ls (Nat.lt_succ_self _) (Nat.zero_le _) rfl (lv_sub hl [1, 2, 0] rfl) hP hD hS
set_option maxHeartbeats 4000000 in
set_option maxRecDepth 100000 in
theorem c_Mo_streamWith (l : Launch) (D : va_G) (cI : ClassId) (h : Nat) (r : Nat → Nat) (th si le lv pn pl rs : Int32) (ng : Nat) (sc sp : Nat → Int32) (ns : Nat → Nat) (v : Int32) (hng : ng ≤ 4) (hns : ∀ k, k < ng → sc k = nI (ns k) ∧ ns k ≤ 4) : Met l y_Mo_streamWith [Cond.code y_Mo_streamWith b_Mo_streamWith 4 (some .int)] ({ frames := 0, cells := 0, slots := 0, locals := 0 }) (zP [.ref h, .int v] D [(h, .inr (13, mO r th si le lv (nI ng) pn pl rs)), (r 24, .inl (cI, 4, .inl sc)), (r 29, .inl (cI, 16, .inl sp))] [(cI, .int)]) (vp_Si (fun r0 => r0 = skG sp ns v ng ng)) 0 0 (fun _ => False) := by
  refine Met.ofW (cc := b_Mo_streamWith) (maxL := 4) (ret := (some .int)) (by decide) rfl ?_
  intro p e s m args below meth cd s₁ Bd hml hv
  obtain ⟨rfl, hP, hK, hN⟩ := hv
  have hx := Bd.exec
  have hb := Bd.bytes
  have hr := Bd.returns
  have hts := hN.use (a := ([.ref h, .int v]).toArray)
  have hown : s.vm.findClass R_Mo = some m.cls := findClass_of_methodNamed Bd.named
  have hlocks := Bd.notSynchronized
  have hP : va_P D classes [(h, .inr (13, mO r th si le lv (nI ng) pn pl rs)), (r 24, .inl (cI, 4, .inl sc)), (r 29, .inl (cI, 16, .inl sp))] s.heap := hP
  have hl := lv_entry ([.ref h, .int v]) (n := 4) (Nat.le_of_ble_eq_true rfl)
  rw [lg_entry_eq]
  generalize (lg_sl ([.ref h, .int v]) ++ List.replicate (4 - (lg_sl ([.ref h, .int v])).length) Slot.unset).toArray = ls at hl ⊢
  have hl : lv_has ls 4 [(0, .ref h), (1, .int v)] := hl
  refine lv_iconst (v := 0) hx hb d_Mo_streamWith_0 (by decide) ?_
  refine lv_istore_n (lv' := [(2, .int 0), (0, .ref h), (1, .int v)]) hx hb d_Mo_streamWith_1 rfl hl (by decide) rfl (fun ls hl => ?_)
  have loop2 : ∀ (N : Nat) (j : Nat) (ls : Array Slot) (hm : ng - j < N) (hj : j ≤ ng) (hs : skG sp ns v ng (ng - j) = skG sp ns v ng ng) (hl : lv_has ls 4 [(0, .ref h), (1, .int v), (2, .int (nI j))]), W p l e ({ frames := 0, cells := 0, slots := 0, locals := 0 }) s m ([.ref h, .int v]).toArray below meth cd s.heap [] 0 0 (MQ below (vp_Si (fun r0 => r0 = skG sp ns v ng ng)) ([.ref h, .int v]).toArray s 0 0 (fun _ => False)) (F0 m 2 ls []) := by
    intro N2
    induction N2 with
    | zero => intro j ls hm hj hs hl; exact absurd hm (Nat.not_lt_zero _)
    | succ N2 ih2 =>
      intro j ls hm hj hs hl
      refine lv_iload_n hx hb d_Mo_streamWith_2 rfl (lv_at hl 2 rfl) ?_
      refine lv_aload_n hx hb d_Mo_streamWith_3 rfl (lv_at hl 0 rfl) ?_
      refine va_get (D := D) (ci := 13) (v := .int (nI ng)) (C := R_Mo) (T := F_Mo) (N := 54) hx hb hts i_Mo hown hK hP 0 rfl rfl 19 (by decide) (hts _ wd_1107) (fun _ h9 => h9) rfl d_Mo_streamWith_4 ?_
      refine lv_icmp_ge (tgt := 54) hx hb d_Mo_streamWith_7 rfl (fun h7 => ?_) (fun h7 => ?_)
      · have h7 := (nI_leI (by omega) (by omega)).mp h7
        have hj0 : ng - j = 0 := by omega
        refine lv_iconst (v := (-1)) hx hb d_Mo_streamWith_54 (by decide) ?_
        exact W.iret (v := (-1)) hx hb hr (fun t ht hW => ⟨_, rfl, (by rw [hj0] at hs; exact hs), ht⟩) (fun _ h => by cases h) d_Mo_streamWith_55
      · have h7 := mt (nI_leI (by omega) (by omega)).mpr h7
        have hnj := hns j (by omega)
        refine lv_iconst (v := 0) hx hb d_Mo_streamWith_10 (by decide) ?_
        refine lv_istore_n (lv' := [(3, .int 0), (0, .ref h), (1, .int v), (2, .int (nI j))]) hx hb d_Mo_streamWith_11 rfl hl (by decide) rfl (fun ls hl => ?_)
        have loop12 : ∀ (N : Nat) (k : Nat) (ls : Array Slot) (hm : ns j - k < N) (hk : k ≤ ns j) (hq : sjG sp v j (ns j) (ns j - k) = sjG sp v j (ns j) (ns j)) (hl : lv_has ls 4 [(0, .ref h), (1, .int v), (2, .int (nI j)), (3, .int (nI k))]), W p l e ({ frames := 0, cells := 0, slots := 0, locals := 0 }) s m ([.ref h, .int v]).toArray below meth cd s.heap [] 0 0 (MQ below (vp_Si (fun r0 => r0 = skG sp ns v ng ng)) ([.ref h, .int v]).toArray s 0 0 (fun _ => False)) (F0 m 12 ls []) := by
          intro N12
          induction N12 with
          | zero => intro k ls hm hk hq hl; exact absurd hm (Nat.not_lt_zero _)
          | succ N12 ih12 =>
            intro k ls hm hk hq hl
            refine lv_iload_n hx hb d_Mo_streamWith_12 rfl (lv_at hl 3 rfl) ?_
            refine lv_aload_n hx hb d_Mo_streamWith_13 rfl (lv_at hl 0 rfl) ?_
            refine va_get (D := D) (ci := 13) (v := .ref (r 24)) (C := R_Mo) (T := F_Mo) (N := 54) hx hb hts i_Mo hown hK hP 0 rfl rfl 24 (by decide) (hts _ wd_1112) (fun _ h9 => h9) rfl d_Mo_streamWith_14 ?_
            refine lv_iload_n hx hb d_Mo_streamWith_17 rfl (lv_at hl 2 rfl) ?_
            refine z_iald hx hb hK hP 1 0 rfl rfl j rfl (by omega) (by omega) d_Mo_streamWith_18 ?_
            refine z_topi (w := nI (ns j)) hnj.1 ?_
            refine lv_icmp_ge (tgt := 48) hx hb d_Mo_streamWith_19 rfl (fun h19 => ?_) (fun h19 => ?_)
            · have h19 := (nI_leI (by omega) (by omega)).mp h19
              refine lv_iinc (k := 2) (v := nI (j + 1)) (lv' := [(2, .int (nI (j + 1))), (0, .ref h), (1, .int v), (3, .int (nI k))]) hx hb d_Mo_streamWith_48 hl rfl (nI_1 j) (by decide) rfl (fun ls hl => ?_)
              refine lv_goto (tgt := 2) hx hb d_Mo_streamWith_51 rfl ?_
              exact ih2 (j + 1) ls (by omega) (by omega) (by rw [skG_at (by omega), if_pos (by rw [← hq, show ns j - k = 0 by omega]; rfl)] at hs; exact hs) (lv_sub hl [1, 2, 0] rfl)
            · have h19 := mt (nI_leI (by omega) (by omega)).mpr h19
              refine lv_aload_n hx hb d_Mo_streamWith_22 rfl (lv_at hl 0 rfl) ?_
              refine va_get (D := D) (ci := 13) (v := .ref (r 29)) (C := R_Mo) (T := F_Mo) (N := 54) hx hb hts i_Mo hown hK hP 0 rfl rfl 29 (by decide) (hts _ wd_1117) (fun _ h9 => h9) rfl d_Mo_streamWith_23 ?_
              refine lv_iconst (v := 4) hx hb d_Mo_streamWith_26 (by decide) ?_
              refine lv_iload_n hx hb d_Mo_streamWith_27 rfl (lv_at hl 2 rfl) ?_
              refine lv_imul hx hb d_Mo_streamWith_28 ?_
              refine z_topi (w := nI (4 * j)) (pk_mul 4 _) ?_
              refine lv_iload_n hx hb d_Mo_streamWith_29 rfl (lv_at hl 3 rfl) ?_
              refine lv_iadd hx hb d_Mo_streamWith_30 ?_
              refine z_topi (w := nI (4 * j + k)) (nI_add _ _) ?_
              refine z_iald hx hb hK hP 2 0 rfl rfl (4 * j + k) rfl (by omega) (by omega) d_Mo_streamWith_31 ?_
              refine lv_iload_n hx hb d_Mo_streamWith_32 rfl (lv_at hl 1 rfl) ?_
              refine lv_icmp_ne (tgt := 42) hx hb d_Mo_streamWith_33 rfl (fun h33 => ?_) (fun h33 => ?_)
              · refine lv_iinc (k := 3) (v := nI (k + 1)) (lv' := [(3, .int (nI (k + 1))), (0, .ref h), (1, .int v), (2, .int (nI j))]) hx hb d_Mo_streamWith_42 hl rfl (nI_1 k) (by decide) rfl (fun ls hl => ?_)
                refine lv_goto (tgt := 12) hx hb d_Mo_streamWith_45 rfl ?_
                exact ih12 (k + 1) ls (by omega) (by omega) (by rw [sjG_at (by omega), if_neg h33] at hq; exact hq) (lv_sub hl [1, 2, 3, 0] rfl)
              · refine lv_iconst (v := 4) hx hb d_Mo_streamWith_36 (by decide) ?_
                refine lv_iload_n hx hb d_Mo_streamWith_37 rfl (lv_at hl 2 rfl) ?_
                refine lv_imul hx hb d_Mo_streamWith_38 ?_
                refine z_topi (w := nI (4 * j)) (pk_mul 4 _) ?_
                refine lv_iload_n hx hb d_Mo_streamWith_39 rfl (lv_at hl 3 rfl) ?_
                refine lv_iadd hx hb d_Mo_streamWith_40 ?_
                refine z_topi (w := nI (4 * j + k)) (nI_add _ _) ?_
                exact W.iret (v := (nI (4 * j + k))) hx hb hr (fun t ht hW => ⟨_, rfl, (by rw [sjG_at (by omega), if_pos h33] at hq; rw [skG_at (by omega), if_neg (by rw [← hq]; exact nI_neN (by omega)), ← hq] at hs; exact hs), ht⟩) (fun _ h => by cases h) d_Mo_streamWith_41
        exact loop12 _ 0 ls (Nat.lt_succ_self _) (Nat.zero_le _) rfl (lv_sub hl [1, 2, 3, 0] rfl)
  exact loop2 _ 0 ls (Nat.lt_succ_self _) (Nat.zero_le _) rfl (lv_sub hl [1, 2, 0] rfl)
set_option maxHeartbeats 4000000 in
set_option maxRecDepth 100000 in
theorem c_Mo_purpose (l : Launch) (D : va_G) (cI : ClassId) (h : Nat) (r : Nat → Nat) (th si le lv pn pl rs : Int32) (ng : Nat) (pi sc ty sp : Nat → Int32) (ns : Nat → Nat) (v : Int32) (hng : ng ≤ 4) (hns : ∀ k, k < ng → sc k = nI (ns k) ∧ ns k ≤ 4) : Met l y_Mo_purpose [Cond.code y_Mo_purpose b_Mo_purpose 3 (some .int)] ({ frames := 1, cells := 0, slots := 0, locals := 23 }) (zP [.ref h, .int v] D [(h, .inr (13, mO r th si le lv (nI ng) pn pl rs)), (r 21, .inl (cI, 4, .inl pi)), (r 24, .inl (cI, 4, .inl sc)), (r 28, .inl (cI, 16, .inl ty)), (r 29, .inl (cI, 16, .inl sp))] [(cI, .int)]) (vp_Si (fun r0 => r0 = puV ng pi sp ty ns v)) 0 0 (fun _ => False) := by
  refine Met.ofW (cc := b_Mo_purpose) (maxL := 3) (ret := (some .int)) (by decide) rfl ?_
  intro p e s m args below meth cd s₁ Bd hml hv
  obtain ⟨rfl, hP, hK, hN⟩ := hv
  have hx := Bd.exec
  have hb := Bd.bytes
  have hr := Bd.returns
  have hts := hN.use (a := ([.ref h, .int v]).toArray)
  have hown : s.vm.findClass R_Mo = some m.cls := findClass_of_methodNamed Bd.named
  have hlocks := Bd.notSynchronized
  have hP : va_P D classes [(h, .inr (13, mO r th si le lv (nI ng) pn pl rs)), (r 21, .inl (cI, 4, .inl pi)), (r 24, .inl (cI, 4, .inl sc)), (r 28, .inl (cI, 16, .inl ty)), (r 29, .inl (cI, 16, .inl sp))] s.heap := hP
  have hl := lv_entry ([.ref h, .int v]) (n := 3) (Nat.le_of_ble_eq_true rfl)
  rw [lg_entry_eq]
  generalize (lg_sl ([.ref h, .int v]) ++ List.replicate (3 - (lg_sl ([.ref h, .int v])).length) Slot.unset).toArray = ls at hl ⊢
  have hl : lv_has ls 3 [(0, .ref h), (1, .int v)] := hl
  refine lv_iload_n hx hb d_Mo_purpose_0 rfl (lv_at hl 1 rfl) ?_
  refine lv_if_ne (tgt := 6) hx hb d_Mo_purpose_1 rfl (fun h1 => ?_) (fun h1 => ?_)
  · refine lv_iconst (v := 0) hx hb d_Mo_purpose_6 (by decide) ?_
    refine lv_istore_n (lv' := [(2, .int 0), (0, .ref h), (1, .int v)]) hx hb d_Mo_purpose_7 rfl hl (by decide) rfl (fun ls hl => ?_)
    have loop8 : ∀ (N : Nat) (j : Nat) (ls : Array Slot) (hm : ng - j < N) (hj : j ≤ ng) (hs : spG pi v ng (ng - j) = spG pi v ng ng) (hl : lv_has ls 3 [(0, .ref h), (1, .int v), (2, .int (nI j))]), W p l e ({ frames := 1, cells := 0, slots := 0, locals := 23 }) s m ([.ref h, .int v]).toArray below meth cd s.heap [] 0 0 (MQ below (vp_Si (fun r0 => r0 = puV ng pi sp ty ns v)) ([.ref h, .int v]).toArray s 0 0 (fun _ => False)) (F0 m 8 ls []) := by
      intro N8
      induction N8 with
      | zero => intro j ls hm hj hs hl; exact absurd hm (Nat.not_lt_zero _)
      | succ N8 ih8 =>
        intro j ls hm hj hs hl
        refine lv_iload_n hx hb d_Mo_purpose_8 rfl (lv_at hl 2 rfl) ?_
        refine lv_aload_n hx hb d_Mo_purpose_9 rfl (lv_at hl 0 rfl) ?_
        refine va_get (D := D) (ci := 13) (v := .int (nI ng)) (C := R_Mo) (T := F_Mo) (N := 54) hx hb hts i_Mo hown hK hP 0 rfl rfl 19 (by decide) (hts _ wd_1107) (fun _ h9 => h9) rfl d_Mo_purpose_10 ?_
        refine lv_icmp_ge (tgt := 34) hx hb d_Mo_purpose_13 rfl (fun h13 => ?_) (fun h13 => ?_)
        · have h13 := (nI_leI (by omega) (by omega)).mp h13
          have hj0 : ng - j = 0 := by omega
          have hsp : ¬ spG pi v ng ng = true := by rw [← hs, hj0]; exact Bool.false_ne_true
          refine lv_aload_n hx hb d_Mo_purpose_34 rfl (lv_at hl 0 rfl) ?_
          refine lv_iload_n hx hb d_Mo_purpose_35 rfl (lv_at hl 1 rfl) ?_
          have hPc := hP.sub (ws' := [(h, .inr (13, mO r th si le lv (nI ng) pn pl rs)), (r 24, .inl (cI, 4, .inl sc)), (r 29, .inl (cI, 16, .inl sp))]) [0, 2, 4] rfl
          have hKc := hK.sub (tys' := [(cI, .int)]) [0] rfl
          refine z_ci (va_runV (As := [.int v]) (rest := []) ⟨hx, hb, hml, hown, hts⟩ (c_Mo_streamWith l D cI h r th si le lv pn pl rs ng sc sp ns v hng hns) (z_cV hN wd_1314 wd_67 wd_1311 hd_Mo_streamWith rfl rfl ⟨Nat.le_of_ble_eq_true rfl, Nat.le_of_ble_eq_true rfl⟩ wd_1313 wd_33) (z_preV (va_recv (ci := 13) (q0 := 0) hK hP rfl rfl) hPc hKc hN) rfl rfl hl.1 rfl (lv_room (Nat.le_of_ble_eq_true rfl)) d_Mo_purpose_36 ⟨Nat.le_of_ble_eq_true rfl, Nat.le_of_ble_eq_true rfl⟩) (fun r36 e36 => ?_)
          subst e36
          refine lv_istore_n (lv' := [(2, .int (skG sp ns v ng ng)), (0, .ref h), (1, .int v)]) hx hb d_Mo_purpose_39 rfl hl (by decide) rfl (fun ls hl => ?_)
          refine lv_iload_n hx hb d_Mo_purpose_40 rfl (lv_at hl 0 rfl) ?_
          refine lv_if_ge (tgt := 48) hx hb d_Mo_purpose_41 rfl (fun h41 => ?_) (fun h41 => ?_)
          · obtain ⟨k, hk, hke⟩ := pu_yes h41 hng (fun k hk => (hns k hk).2)
            have hkn : ¬ skG sp ns v ng ng = -1 := by rw [hke]; exact nI_neN (by omega)
            refine lv_aload_n hx hb d_Mo_purpose_48 rfl (lv_at hl 1 rfl) ?_
            refine va_get (D := D) (ci := 13) (v := .ref (r 28)) (C := R_Mo) (T := F_Mo) (N := 54) hx hb hts i_Mo hown hK hP 0 rfl rfl 28 (by decide) (hts _ wd_1116) (fun _ h9 => h9) rfl d_Mo_purpose_49 ?_
            refine lv_iload_n hx hb d_Mo_purpose_52 rfl (lv_at hl 0 rfl) ?_
            refine z_iald hx hb hK hP 3 0 rfl rfl k hke (by omega) (by omega) d_Mo_purpose_53 ?_
            refine lv_sipush (v := 134) hx hb d_Mo_purpose_54 (by decide) ?_
            refine lv_icmp_ne (tgt := 64) hx hb d_Mo_purpose_57 rfl (fun h57 => ?_) (fun h57 => ?_)
            · refine lv_iconst (v := 4) hx hb d_Mo_purpose_64 (by decide) ?_
              exact W.iret (v := 4) hx hb hr (fun t ht hW => ⟨_, rfl, (by unfold puV; rw [if_neg h1, if_neg hsp]; first | rw [if_pos h41] | (rw [if_neg hkn, hke, nI_clamp (by omega)]; first | rw [if_pos h57] | rw [if_neg h57])), ht⟩) (fun _ h => by cases h) d_Mo_purpose_65
            · refine lv_iconst (v := 3) hx hb d_Mo_purpose_60 (by decide) ?_
              refine lv_goto (tgt := 65) hx hb d_Mo_purpose_61 rfl ?_
              exact W.iret (v := 3) hx hb hr (fun t ht hW => ⟨_, rfl, (by unfold puV; rw [if_neg h1, if_neg hsp]; first | rw [if_pos h41] | (rw [if_neg hkn, hke, nI_clamp (by omega)]; first | rw [if_pos h57] | rw [if_neg h57])), ht⟩) (fun _ h => by cases h) d_Mo_purpose_65
          · have h41 := pu_no h41 hng (fun k hk => (hns k hk).2)
            refine lv_iconst (v := 0) hx hb d_Mo_purpose_44 (by decide) ?_
            refine lv_goto (tgt := 65) hx hb d_Mo_purpose_45 rfl ?_
            exact W.iret (v := 0) hx hb hr (fun t ht hW => ⟨_, rfl, (by unfold puV; rw [if_neg h1, if_neg hsp]; first | rw [if_pos h41] | (rw [if_neg hkn, hke, nI_clamp (by omega)]; first | rw [if_pos h57] | rw [if_neg h57])), ht⟩) (fun _ h => by cases h) d_Mo_purpose_65
        · have h13 := mt (nI_leI (by omega) (by omega)).mpr h13
          refine lv_aload_n hx hb d_Mo_purpose_16 rfl (lv_at hl 0 rfl) ?_
          refine va_get (D := D) (ci := 13) (v := .ref (r 21)) (C := R_Mo) (T := F_Mo) (N := 54) hx hb hts i_Mo hown hK hP 0 rfl rfl 21 (by decide) (hts _ wd_1109) (fun _ h9 => h9) rfl d_Mo_purpose_17 ?_
          refine lv_iload_n hx hb d_Mo_purpose_20 rfl (lv_at hl 2 rfl) ?_
          refine z_iald hx hb hK hP 1 0 rfl rfl j rfl (by omega) (by omega) d_Mo_purpose_21 ?_
          refine lv_iload_n hx hb d_Mo_purpose_22 rfl (lv_at hl 1 rfl) ?_
          refine lv_icmp_ne (tgt := 28) hx hb d_Mo_purpose_23 rfl (fun h23 => ?_) (fun h23 => ?_)
          · refine lv_iinc (k := 2) (v := nI (j + 1)) (lv' := [(2, .int (nI (j + 1))), (0, .ref h), (1, .int v)]) hx hb d_Mo_purpose_28 hl rfl (nI_1 j) (by decide) rfl (fun ls hl => ?_)
            refine lv_goto (tgt := 8) hx hb d_Mo_purpose_31 rfl ?_
            exact ih8 (j + 1) ls (by omega) (by omega) (by rw [spG_at (by omega), if_neg h23] at hs; exact hs) (lv_sub hl [1, 2, 0] rfl)
          · refine lv_iconst (v := 2) hx hb d_Mo_purpose_26 (by decide) ?_
            exact W.iret (v := 2) hx hb hr (fun t ht hW => ⟨_, rfl, (by rw [spG_at (by omega), if_pos h23] at hs; unfold puV; rw [if_neg h1, if_pos hs.symm]), ht⟩) (fun _ h => by cases h) d_Mo_purpose_27
    exact loop8 _ 0 ls (Nat.lt_succ_self _) (Nat.zero_le _) rfl (lv_sub hl [1, 2, 0] rfl)
  · refine lv_iconst (v := 1) hx hb d_Mo_purpose_4 (by decide) ?_
    exact W.iret (v := 1) hx hb hr (fun t ht hW => ⟨_, rfl, (by unfold puV; rw [if_pos h1]), ht⟩) (fun _ h => by cases h) d_Mo_purpose_5
set_option maxHeartbeats 4000000 in
set_option maxRecDepth 100000 in
theorem c_Mo_bitsOf (l : Launch) (D : va_G) (cI : ClassId) (a ln : Nat) (f : Nat → Int32) (k c : Nat) (hln : ln ≤ 2000) (hkc : k + c ≤ 8 * ln) : Met l y_Mo_bitsOf [Cond.code y_Mo_bitsOf b_Mo_bitsOf 6 (some .long)] ({ frames := 0, cells := 0, slots := 0, locals := 0 }) (zP [.ref a, .int (nI k), .int (nI c)] D [(a, .inl (cI, ln, .inl f))] [(cI, .int)]) (vp_Sl (fun r0 => r0 = mb_l f k c)) 0 0 (fun _ => False) := by
  refine Met.ofW (cc := b_Mo_bitsOf) (maxL := 6) (ret := (some .long)) (by decide) rfl ?_
  intro p e s m args below meth cd s₁ Bd hml hv
  obtain ⟨rfl, hP, hK, hN⟩ := hv
  have hx := Bd.exec
  have hb := Bd.bytes
  have hr := Bd.returns
  have hts := hN.use (a := ([.ref a, .int (nI k), .int (nI c)]).toArray)
  have hown : s.vm.findClass R_Mo = some m.cls := findClass_of_methodNamed Bd.named
  have hlocks := Bd.notSynchronized
  have hP : va_P D classes [(a, .inl (cI, ln, .inl f))] s.heap := hP
  have hl := lv_entry ([.ref a, .int (nI k), .int (nI c)]) (n := 6) (Nat.le_of_ble_eq_true rfl)
  rw [lg_entry_eq]
  generalize (lg_sl ([.ref a, .int (nI k), .int (nI c)]) ++ List.replicate (6 - (lg_sl ([.ref a, .int (nI k), .int (nI c)])).length) Slot.unset).toArray = ls at hl ⊢
  have hl : lv_has ls 6 [(0, .ref a), (1, .int (nI k)), (2, .int (nI c))] := hl
  refine lv_lconst (v := 0) hx hb d_Mo_bitsOf_0 (by decide) ?_
  refine lv_lstore_n (lv' := [(3, .long 0), (0, .ref a), (1, .int (nI k)), (2, .int (nI c))]) hx hb d_Mo_bitsOf_1 rfl hl (by decide) rfl (fun ls hl => ?_)
  refine lv_iload_n hx hb d_Mo_bitsOf_2 rfl (lv_at hl 2 rfl) ?_
  refine lv_istore (lv' := [(5, .int (nI k)), (3, .long 0), (0, .ref a), (1, .int (nI k)), (2, .int (nI c))]) hx hb d_Mo_bitsOf_3 hl (by decide) rfl (fun ls hl => ?_)
  have loop5 : ∀ (N : Nat) (j : Nat) (ls : Array Slot) (hm : c - j < N) (hj : j ≤ c) (hl : lv_has ls 6 [(0, .ref a), (1, .int (nI k)), (2, .int (nI c)), (3, .long (mb_l f k j)), (5, .int (nI (k + j)))]), W p l e ({ frames := 0, cells := 0, slots := 0, locals := 0 }) s m ([.ref a, .int (nI k), .int (nI c)]).toArray below meth cd s.heap [] 0 0 (MQ below (vp_Sl (fun r0 => r0 = mb_l f k c)) ([.ref a, .int (nI k), .int (nI c)]).toArray s 0 0 (fun _ => False)) (F0 m 5 ls []) := by
    intro N5
    induction N5 with
    | zero => intro j ls hm hj hl; exact absurd hm (Nat.not_lt_zero _)
    | succ N5 ih5 =>
      intro j ls hm hj hl
      refine lv_iload hx hb d_Mo_bitsOf_5 (lv_at hl 4 rfl) ?_
      refine lv_iload_n hx hb d_Mo_bitsOf_7 rfl (lv_at hl 1 rfl) ?_
      refine lv_iload_n hx hb d_Mo_bitsOf_8 rfl (lv_at hl 2 rfl) ?_
      refine lv_iadd hx hb d_Mo_bitsOf_9 ?_
      refine z_topi (w := nI (k + c)) (nI_add _ _) ?_
      refine lv_icmp_ge (tgt := 45) hx hb d_Mo_bitsOf_10 rfl (fun h10 => ?_) (fun h10 => ?_)
      · have h10 := (nI_leI (by omega) (by omega)).mp h10
        obtain rfl : c = j := by omega
        refine lv_lload_n hx hb d_Mo_bitsOf_45 rfl (lv_at hl 3 rfl) ?_
        exact W.lret (v := (mb_l f k c)) hx hb hr (fun t ht hW => ⟨_, rfl, rfl, ht⟩) (fun _ h => by cases h) d_Mo_bitsOf_46
      · have h10 := mt (nI_leI (by omega) (by omega)).mpr h10
        refine lv_ldc2 hx hb hown (hts _ wd_1297) d_Mo_bitsOf_13 ?_
        refine lv_lload_n hx hb d_Mo_bitsOf_16 rfl (lv_at hl 3 rfl) ?_
        refine lv_lmul hx hb d_Mo_bitsOf_17 ?_
        refine lv_aload_n hx hb d_Mo_bitsOf_18 rfl (lv_at hl 0 rfl) ?_
        refine lv_iload hx hb d_Mo_bitsOf_19 (lv_at hl 4 rfl) ?_
        refine lv_bipush (v := 8) hx hb d_Mo_bitsOf_21 (by decide) ?_
        refine lv_idiv hx hb d_Mo_bitsOf_23 (by decide) ?_
        refine z_topi (w := nI ((k + j) / 8)) (pk_div (d := 8) (by omega) (by omega) (by omega)) ?_
        refine z_iald hx hb hK hP 0 0 rfl rfl ((k + j) / 8) rfl (by omega) (by omega) d_Mo_bitsOf_24 ?_
        refine lv_bipush (v := 7) hx hb d_Mo_bitsOf_25 (by decide) ?_
        refine lv_iload hx hb d_Mo_bitsOf_27 (lv_at hl 4 rfl) ?_
        refine lv_bipush (v := 8) hx hb d_Mo_bitsOf_29 (by decide) ?_
        refine lv_irem hx hb d_Mo_bitsOf_31 (by decide) ?_
        refine z_topi (w := nI ((k + j) % 8)) (pk_rem (d := 8) (by omega) (by omega) (by omega)) ?_
        refine lv_isub hx hb d_Mo_bitsOf_32 ?_
        refine lv_ishr hx hb d_Mo_bitsOf_33 ?_
        refine lv_iconst (v := 1) hx hb d_Mo_bitsOf_34 (by decide) ?_
        refine lv_iand hx hb d_Mo_bitsOf_35 ?_
        refine lv_i2l (v := (((f ((k + j) / 8)) >>> ((7 - (nI ((k + j) % 8))) &&& 31)) &&& 1).toInt64) hx hb d_Mo_bitsOf_36 rfl ?_
        refine lv_ladd hx hb d_Mo_bitsOf_37 ?_
        refine z_topl (w := mb_l f k (j + 1)) rfl ?_
        refine lv_lstore_n (lv' := [(3, .long (mb_l f k (j + 1))), (0, .ref a), (1, .int (nI k)), (2, .int (nI c)), (5, .int (nI (k + j)))]) hx hb d_Mo_bitsOf_38 rfl hl (by decide) rfl (fun ls hl => ?_)
        refine lv_iinc (k := 4) (v := nI (k + (j + 1))) (lv' := [(5, .int (nI (k + (j + 1)))), (3, .long (mb_l f k (j + 1))), (0, .ref a), (1, .int (nI k)), (2, .int (nI c))]) hx hb d_Mo_bitsOf_39 hl rfl (nI_1 (k + j)) (by decide) rfl (fun ls hl => ?_)
        refine lv_goto (tgt := 5) hx hb d_Mo_bitsOf_42 rfl ?_
        exact ih5 (j + 1) ls (by omega) (by omega) (lv_sub hl [2, 3, 4, 1, 0] rfl)
  exact loop5 _ 0 ls (Nat.lt_succ_self _) (Nat.zero_le _) (lv_sub hl [2, 3, 4, 1, 0] rfl)
