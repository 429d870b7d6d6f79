theorem wd_39 : (Jvm.Cond.selects "StreamSplitterModel" ({ cls := "StreamSplitterModel", name := "moveOrder", desc := "(III)V" } : Jvm.MethodName) ({ cls := "StreamSplitterModel", name := "moveOrder", desc := "(III)V" } : Jvm.MethodName)) ∈ lw_ok := List.mem_filter.mpr ⟨List.mem_of_getElem? (i := 39) (by decide +kernel), rfl⟩
theorem wd_40 : (Jvm.Cond.selects "StreamSplitterModel" ({ cls := "StreamSplitterModel", name := "append", desc := "(IJIZJ)V" } : Jvm.MethodName) ({ cls := "StreamSplitterModel", name := "append", desc := "(IJIZJ)V" } : Jvm.MethodName)) ∈ lw_ok := List.mem_filter.mpr ⟨List.mem_of_getElem? (i := 40) (by decide +kernel), rfl⟩
theorem wd_41 : (Jvm.Cond.selects "StreamSplitterModel" ({ cls := "StreamSplitterModel", name := "setOrder", desc := "(IJIZJ)V" } : Jvm.MethodName) ({ cls := "StreamSplitterModel", name := "setOrder", desc := "(IJIZJ)V" } : Jvm.MethodName)) ∈ lw_ok := List.mem_filter.mpr ⟨List.mem_of_getElem? (i := 41) (by decide +kernel), rfl⟩
theorem wd_1337 : (Jvm.Cond.methodLink "StreamSplitterModel" (237 : Nat) ({ cls := "StreamSplitterModel", name := "moveOrder", desc := "(III)V" } : Jvm.MethodName)) ∈ lw_ok := List.mem_filter.mpr ⟨List.mem_of_getElem? (i := 1337) (by decide +kernel), rfl⟩
theorem wd_1339 : (Jvm.Cond.instanceMethod ({ cls := "StreamSplitterModel", name := "moveOrder", desc := "(III)V" } : Jvm.MethodName)) ∈ lw_ok := List.mem_filter.mpr ⟨List.mem_of_getElem? (i := 1339) (by decide +kernel), rfl⟩
set_option maxRecDepth 100000 in
theorem wd_1340 : (Jvm.Cond.code ({ cls := "StreamSplitterModel", name := "moveOrder", desc := "(III)V" } : Jvm.MethodName) prog_14_method_26_code (4 : Nat) (Option.none : Option Jvm.ClassFile.FieldType)) ∈ lw_ok := List.mem_filter.mpr ⟨List.mem_of_getElem? (i := 1340) (by rfl), rfl⟩
theorem wd_1341 : (Jvm.Cond.methodLink "StreamSplitterModel" (247 : Nat) ({ cls := "StreamSplitterModel", name := "append", desc := "(IJIZJ)V" } : Jvm.MethodName)) ∈ lw_ok := List.mem_filter.mpr ⟨List.mem_of_getElem? (i := 1341) (by decide +kernel), rfl⟩
theorem wd_1343 : (Jvm.Cond.instanceMethod ({ cls := "StreamSplitterModel", name := "append", desc := "(IJIZJ)V" } : Jvm.MethodName)) ∈ lw_ok := List.mem_filter.mpr ⟨List.mem_of_getElem? (i := 1343) (by decide +kernel), rfl⟩
set_option maxRecDepth 100000 in
theorem wd_1344 : (Jvm.Cond.code ({ cls := "StreamSplitterModel", name := "append", desc := "(IJIZJ)V" } : Jvm.MethodName) prog_14_method_28_code (8 : Nat) (Option.none : Option Jvm.ClassFile.FieldType)) ∈ lw_ok := List.mem_filter.mpr ⟨List.mem_of_getElem? (i := 1344) (by rfl), rfl⟩
theorem wd_1345 : (Jvm.Cond.methodLink "StreamSplitterModel" (250 : Nat) ({ cls := "StreamSplitterModel", name := "setOrder", desc := "(IJIZJ)V" } : Jvm.MethodName)) ∈ lw_ok := List.mem_filter.mpr ⟨List.mem_of_getElem? (i := 1345) (by decide +kernel), rfl⟩
theorem wd_1347 : (Jvm.Cond.instanceMethod ({ cls := "StreamSplitterModel", name := "setOrder", desc := "(IJIZJ)V" } : Jvm.MethodName)) ∈ lw_ok := List.mem_filter.mpr ⟨List.mem_of_getElem? (i := 1347) (by decide +kernel), rfl⟩
set_option maxRecDepth 100000 in
theorem wd_1348 : (Jvm.Cond.code ({ cls := "StreamSplitterModel", name := "setOrder", desc := "(IJIZJ)V" } : Jvm.MethodName) prog_14_method_27_code (8 : Nat) (Option.none : Option Jvm.ClassFile.FieldType)) ∈ lw_ok := List.mem_filter.mpr ⟨List.mem_of_getElem? (i := 1348) (by rfl), rfl⟩
theorem hd_Mo_append : y_Mo_append.cls ≠ "java/lang/invoke/MethodHandle" ∧ y_Mo_append.cls ≠ "java/lang/invoke/VarHandle" ∧ (parseMethodDescriptor y_Mo_append.desc).map (fun d => d.parameters.length) = some 5 := by decide +kernel
theorem hd_Mo_moveOrder : y_Mo_moveOrder.cls ≠ "java/lang/invoke/MethodHandle" ∧ y_Mo_moveOrder.cls ≠ "java/lang/invoke/VarHandle" ∧ (parseMethodDescriptor y_Mo_moveOrder.desc).map (fun d => d.parameters.length) = some 3 := by decide +kernel
theorem hd_Mo_setOrder : y_Mo_setOrder.cls ≠ "java/lang/invoke/MethodHandle" ∧ y_Mo_setOrder.cls ≠ "java/lang/invoke/VarHandle" ∧ (parseMethodDescriptor y_Mo_setOrder.desc).map (fun d => d.parameters.length) = some 5 := by decide +kernel
theorem d_Mo_append_0 : decode b_Mo_append 0 = .ok (.aload_n 0, 1) := by decide +kernel
theorem d_Mo_append_1 : decode b_Mo_append 1 = .ok (.getfield 82, 3) := by decide +kernel
theorem d_Mo_append_4 : decode b_Mo_append 4 = .ok (.iload_n 1, 1) := by decide +kernel
theorem d_Mo_append_5 : decode b_Mo_append 5 = .ok (.iaload, 1) := by decide +kernel
theorem d_Mo_append_6 : decode b_Mo_append 6 = .ok (.bipush 6, 2) := by decide +kernel
theorem d_Mo_append_8 : decode b_Mo_append 8 = .ok (.if_icmp .ge 35, 3) := by decide +kernel
theorem d_Mo_append_11 : decode b_Mo_append 11 = .ok (.aload_n 0, 1) := by decide +kernel
theorem d_Mo_append_12 : decode b_Mo_append 12 = .ok (.bipush 6, 2) := by decide +kernel
theorem d_Mo_append_14 : decode b_Mo_append 14 = .ok (.iload_n 1, 1) := by decide +kernel
theorem d_Mo_append_15 : decode b_Mo_append 15 = .ok (.imul, 1) := by decide +kernel
theorem d_Mo_append_16 : decode b_Mo_append 16 = .ok (.aload_n 0, 1) := by decide +kernel
theorem d_Mo_append_17 : decode b_Mo_append 17 = .ok (.getfield 82, 3) := by decide +kernel
theorem d_Mo_append_20 : decode b_Mo_append 20 = .ok (.iload_n 1, 1) := by decide +kernel
theorem d_Mo_append_21 : decode b_Mo_append 21 = .ok (.iaload, 1) := by decide +kernel
theorem d_Mo_append_22 : decode b_Mo_append 22 = .ok (.iadd, 1) := by decide +kernel
theorem d_Mo_append_23 : decode b_Mo_append 23 = .ok (.lload_n 2, 1) := by decide +kernel
theorem d_Mo_append_24 : decode b_Mo_append 24 = .ok (.iload 4, 2) := by decide +kernel
theorem d_Mo_append_26 : decode b_Mo_append 26 = .ok (.iload 5, 2) := by decide +kernel
theorem d_Mo_append_28 : decode b_Mo_append 28 = .ok (.lload 6, 2) := by decide +kernel
theorem d_Mo_append_30 : decode b_Mo_append 30 = .ok (.invokevirtual 250, 3) := by decide +kernel
theorem d_Mo_append_33 : decode b_Mo_append 33 = .ok (.aload_n 0, 1) := by decide +kernel
theorem d_Mo_append_34 : decode b_Mo_append 34 = .ok (.getfield 82, 3) := by decide +kernel
theorem d_Mo_append_37 : decode b_Mo_append 37 = .ok (.iload_n 1, 1) := by decide +kernel
theorem d_Mo_append_38 : decode b_Mo_append 38 = .ok (.dup2, 1) := by decide +kernel
theorem d_Mo_append_39 : decode b_Mo_append 39 = .ok (.iaload, 1) := by decide +kernel
theorem d_Mo_append_40 : decode b_Mo_append 40 = .ok (.iconst 1, 1) := by decide +kernel
theorem d_Mo_append_41 : decode b_Mo_append 41 = .ok (.iadd, 1) := by decide +kernel
theorem d_Mo_append_42 : decode b_Mo_append 42 = .ok (.iastore, 1) := by decide +kernel
theorem d_Mo_append_43 : decode b_Mo_append 43 = .ok (.return_, 1) := by decide +kernel
theorem d_Mo_await0_0 : decode b_Mo_await0 0 = .ok (.iconst 0, 1) := by decide +kernel
theorem d_Mo_await0_1 : decode b_Mo_await0 1 = .ok (.istore 8, 2) := by decide +kernel
theorem d_Mo_await0_3 : decode b_Mo_await0 3 = .ok (.iload 8, 2) := by decide +kernel
theorem d_Mo_await0_5 : decode b_Mo_await0 5 = .ok (.aload_n 0, 1) := by decide +kernel
theorem d_Mo_await0_6 : decode b_Mo_await0 6 = .ok (.getfield 82, 3) := by decide +kernel
theorem d_Mo_await0_9 : decode b_Mo_await0 9 = .ok (.iload_n 1, 1) := by decide +kernel
theorem d_Mo_await0_10 : decode b_Mo_await0 10 = .ok (.iaload, 1) := by decide +kernel
theorem d_Mo_await0_11 : decode b_Mo_await0 11 = .ok (.if_icmp .ge 45, 3) := by decide +kernel
theorem d_Mo_await0_14 : decode b_Mo_await0 14 = .ok (.aload_n 0, 1) := by decide +kernel
theorem d_Mo_await0_15 : decode b_Mo_await0 15 = .ok (.getfield 94, 3) := by decide +kernel
theorem d_Mo_await0_18 : decode b_Mo_await0 18 = .ok (.bipush 6, 2) := by decide +kernel
theorem d_Mo_await0_20 : decode b_Mo_await0 20 = .ok (.iload_n 1, 1) := by decide +kernel
theorem d_Mo_await0_21 : decode b_Mo_await0 21 = .ok (.imul, 1) := by decide +kernel
theorem d_Mo_await0_22 : decode b_Mo_await0 22 = .ok (.iload 8, 2) := by decide +kernel
theorem d_Mo_await0_24 : decode b_Mo_await0 24 = .ok (.iadd, 1) := by decide +kernel
theorem d_Mo_await0_25 : decode b_Mo_await0 25 = .ok (.iaload, 1) := by decide +kernel
theorem d_Mo_await0_26 : decode b_Mo_await0 26 = .ok (.iload 4, 2) := by decide +kernel
theorem d_Mo_await0_28 : decode b_Mo_await0 28 = .ok (.if_icmp .ne 22, 3) := by decide +kernel
theorem d_Mo_await0_31 : decode b_Mo_await0 31 = .ok (.aload_n 0, 1) := by decide +kernel
theorem d_Mo_await0_32 : decode b_Mo_await0 32 = .ok (.bipush 6, 2) := by decide +kernel
theorem d_Mo_await0_34 : decode b_Mo_await0 34 = .ok (.iload_n 1, 1) := by decide +kernel
theorem d_Mo_await0_35 : decode b_Mo_await0 35 = .ok (.imul, 1) := by decide +kernel
theorem d_Mo_await0_36 : decode b_Mo_await0 36 = .ok (.iload 8, 2) := by decide +kernel
theorem d_Mo_await0_38 : decode b_Mo_await0 38 = .ok (.iadd, 1) := by decide +kernel
theorem d_Mo_await0_39 : decode b_Mo_await0 39 = .ok (.lload_n 2, 1) := by decide +kernel
theorem d_Mo_await0_40 : decode b_Mo_await0 40 = .ok (.iload 4, 2) := by decide +kernel
theorem d_Mo_await0_42 : decode b_Mo_await0 42 = .ok (.iload 5, 2) := by decide +kernel
theorem d_Mo_await0_44 : decode b_Mo_await0 44 = .ok (.lload 6, 2) := by decide +kernel
theorem d_Mo_await0_46 : decode b_Mo_await0 46 = .ok (.invokevirtual 250, 3) := by decide +kernel
theorem d_Mo_await0_49 : decode b_Mo_await0 49 = .ok (.return_, 1) := by decide +kernel
theorem d_Mo_await0_50 : decode b_Mo_await0 50 = .ok (.iinc 8 1, 3) := by decide +kernel
theorem d_Mo_await0_53 : decode b_Mo_await0 53 = .ok (.goto (-50), 3) := by decide +kernel
theorem d_Mo_await0_56 : decode b_Mo_await0 56 = .ok (.aload_n 0, 1) := by decide +kernel
theorem d_Mo_await0_57 : decode b_Mo_await0 57 = .ok (.iload_n 1, 1) := by decide +kernel
theorem d_Mo_await0_58 : decode b_Mo_await0 58 = .ok (.lload_n 2, 1) := by decide +kernel
theorem d_Mo_await0_59 : decode b_Mo_await0 59 = .ok (.iload 4, 2) := by decide +kernel
theorem d_Mo_await0_61 : decode b_Mo_await0 61 = .ok (.iload 5, 2) := by decide +kernel
theorem d_Mo_await0_63 : decode b_Mo_await0 63 = .ok (.lload 6, 2) := by decide +kernel
theorem d_Mo_await0_65 : decode b_Mo_await0 65 = .ok (.invokevirtual 247, 3) := by decide +kernel
theorem d_Mo_await0_68 : decode b_Mo_await0 68 = .ok (.return_, 1) := by decide +kernel
theorem d_Mo_moveOrder_0 : decode b_Mo_moveOrder 0 = .ok (.aload_n 0, 1) := by decide +kernel
theorem d_Mo_moveOrder_1 : decode b_Mo_moveOrder 1 = .ok (.getfield 91, 3) := by decide +kernel
theorem d_Mo_moveOrder_4 : decode b_Mo_moveOrder 4 = .ok (.bipush 6, 2) := by decide +kernel
theorem d_Mo_moveOrder_6 : decode b_Mo_moveOrder 6 = .ok (.iload_n 1, 1) := by decide +kernel
theorem d_Mo_moveOrder_7 : decode b_Mo_moveOrder 7 = .ok (.imul, 1) := by decide +kernel
theorem d_Mo_moveOrder_8 : decode b_Mo_moveOrder 8 = .ok (.iload_n 3, 1) := by decide +kernel
theorem d_Mo_moveOrder_9 : decode b_Mo_moveOrder 9 = .ok (.iadd, 1) := by decide +kernel
theorem d_Mo_moveOrder_10 : decode b_Mo_moveOrder 10 = .ok (.aload_n 0, 1) := by decide +kernel
theorem d_Mo_moveOrder_11 : decode b_Mo_moveOrder 11 = .ok (.getfield 91, 3) := by decide +kernel
theorem d_Mo_moveOrder_14 : decode b_Mo_moveOrder 14 = .ok (.bipush 6, 2) := by decide +kernel
theorem d_Mo_moveOrder_16 : decode b_Mo_moveOrder 16 = .ok (.iload_n 1, 1) := by decide +kernel
theorem d_Mo_moveOrder_17 : decode b_Mo_moveOrder 17 = .ok (.imul, 1) := by decide +kernel
theorem d_Mo_moveOrder_18 : decode b_Mo_moveOrder 18 = .ok (.iload_n 2, 1) := by decide +kernel
theorem d_Mo_moveOrder_19 : decode b_Mo_moveOrder 19 = .ok (.iadd, 1) := by decide +kernel
theorem d_Mo_moveOrder_20 : decode b_Mo_moveOrder 20 = .ok (.laload, 1) := by decide +kernel
theorem d_Mo_moveOrder_21 : decode b_Mo_moveOrder 21 = .ok (.lastore, 1) := by decide +kernel
theorem d_Mo_moveOrder_22 : decode b_Mo_moveOrder 22 = .ok (.aload_n 0, 1) := by decide +kernel
theorem d_Mo_moveOrder_23 : decode b_Mo_moveOrder 23 = .ok (.getfield 94, 3) := by decide +kernel
theorem d_Mo_moveOrder_26 : decode b_Mo_moveOrder 26 = .ok (.bipush 6, 2) := by decide +kernel
theorem d_Mo_moveOrder_28 : decode b_Mo_moveOrder 28 = .ok (.iload_n 1, 1) := by decide +kernel
theorem d_Mo_moveOrder_29 : decode b_Mo_moveOrder 29 = .ok (.imul, 1) := by decide +kernel
theorem d_Mo_moveOrder_30 : decode b_Mo_moveOrder 30 = .ok (.iload_n 3, 1) := by decide +kernel
theorem d_Mo_moveOrder_31 : decode b_Mo_moveOrder 31 = .ok (.iadd, 1) := by decide +kernel
theorem d_Mo_moveOrder_32 : decode b_Mo_moveOrder 32 = .ok (.aload_n 0, 1) := by decide +kernel
theorem d_Mo_moveOrder_33 : decode b_Mo_moveOrder 33 = .ok (.getfield 94, 3) := by decide +kernel
theorem d_Mo_moveOrder_36 : decode b_Mo_moveOrder 36 = .ok (.bipush 6, 2) := by decide +kernel
theorem d_Mo_moveOrder_38 : decode b_Mo_moveOrder 38 = .ok (.iload_n 1, 1) := by decide +kernel
theorem d_Mo_moveOrder_39 : decode b_Mo_moveOrder 39 = .ok (.imul, 1) := by decide +kernel
theorem d_Mo_moveOrder_40 : decode b_Mo_moveOrder 40 = .ok (.iload_n 2, 1) := by decide +kernel
theorem d_Mo_moveOrder_41 : decode b_Mo_moveOrder 41 = .ok (.iadd, 1) := by decide +kernel
theorem d_Mo_moveOrder_42 : decode b_Mo_moveOrder 42 = .ok (.iaload, 1) := by decide +kernel
theorem d_Mo_moveOrder_43 : decode b_Mo_moveOrder 43 = .ok (.iastore, 1) := by decide +kernel
theorem d_Mo_moveOrder_44 : decode b_Mo_moveOrder 44 = .ok (.aload_n 0, 1) := by decide +kernel
theorem d_Mo_moveOrder_45 : decode b_Mo_moveOrder 45 = .ok (.getfield 97, 3) := by decide +kernel
theorem d_Mo_moveOrder_48 : decode b_Mo_moveOrder 48 = .ok (.bipush 6, 2) := by decide +kernel
theorem d_Mo_moveOrder_50 : decode b_Mo_moveOrder 50 = .ok (.iload_n 1, 1) := by decide +kernel
theorem d_Mo_moveOrder_51 : decode b_Mo_moveOrder 51 = .ok (.imul, 1) := by decide +kernel
theorem d_Mo_moveOrder_52 : decode b_Mo_moveOrder 52 = .ok (.iload_n 3, 1) := by decide +kernel
theorem d_Mo_moveOrder_53 : decode b_Mo_moveOrder 53 = .ok (.iadd, 1) := by decide +kernel
theorem d_Mo_moveOrder_54 : decode b_Mo_moveOrder 54 = .ok (.aload_n 0, 1) := by decide +kernel
theorem d_Mo_moveOrder_55 : decode b_Mo_moveOrder 55 = .ok (.getfield 97, 3) := by decide +kernel
theorem d_Mo_moveOrder_58 : decode b_Mo_moveOrder 58 = .ok (.bipush 6, 2) := by decide +kernel
theorem d_Mo_moveOrder_60 : decode b_Mo_moveOrder 60 = .ok (.iload_n 1, 1) := by decide +kernel
theorem d_Mo_moveOrder_61 : decode b_Mo_moveOrder 61 = .ok (.imul, 1) := by decide +kernel
theorem d_Mo_moveOrder_62 : decode b_Mo_moveOrder 62 = .ok (.iload_n 2, 1) := by decide +kernel
theorem d_Mo_moveOrder_63 : decode b_Mo_moveOrder 63 = .ok (.iadd, 1) := by decide +kernel
theorem d_Mo_moveOrder_64 : decode b_Mo_moveOrder 64 = .ok (.baload, 1) := by decide +kernel
theorem d_Mo_moveOrder_65 : decode b_Mo_moveOrder 65 = .ok (.bastore, 1) := by decide +kernel
theorem d_Mo_moveOrder_66 : decode b_Mo_moveOrder 66 = .ok (.aload_n 0, 1) := by decide +kernel
theorem d_Mo_moveOrder_67 : decode b_Mo_moveOrder 67 = .ok (.getfield 100, 3) := by decide +kernel
theorem d_Mo_moveOrder_70 : decode b_Mo_moveOrder 70 = .ok (.bipush 6, 2) := by decide +kernel
theorem d_Mo_moveOrder_72 : decode b_Mo_moveOrder 72 = .ok (.iload_n 1, 1) := by decide +kernel
theorem d_Mo_moveOrder_73 : decode b_Mo_moveOrder 73 = .ok (.imul, 1) := by decide +kernel
theorem d_Mo_moveOrder_74 : decode b_Mo_moveOrder 74 = .ok (.iload_n 3, 1) := by decide +kernel
theorem d_Mo_moveOrder_75 : decode b_Mo_moveOrder 75 = .ok (.iadd, 1) := by decide +kernel
theorem d_Mo_moveOrder_76 : decode b_Mo_moveOrder 76 = .ok (.aload_n 0, 1) := by decide +kernel
theorem d_Mo_moveOrder_77 : decode b_Mo_moveOrder 77 = .ok (.getfield 100, 3) := by decide +kernel
theorem d_Mo_moveOrder_80 : decode b_Mo_moveOrder 80 = .ok (.bipush 6, 2) := by decide +kernel
theorem d_Mo_moveOrder_82 : decode b_Mo_moveOrder 82 = .ok (.iload_n 1, 1) := by decide +kernel
theorem d_Mo_moveOrder_83 : decode b_Mo_moveOrder 83 = .ok (.imul, 1) := by decide +kernel
theorem d_Mo_moveOrder_84 : decode b_Mo_moveOrder 84 = .ok (.iload_n 2, 1) := by decide +kernel
theorem d_Mo_moveOrder_85 : decode b_Mo_moveOrder 85 = .ok (.iadd, 1) := by decide +kernel
theorem d_Mo_moveOrder_86 : decode b_Mo_moveOrder 86 = .ok (.laload, 1) := by decide +kernel
theorem d_Mo_moveOrder_87 : decode b_Mo_moveOrder 87 = .ok (.lastore, 1) := by decide +kernel
theorem d_Mo_moveOrder_88 : decode b_Mo_moveOrder 88 = .ok (.return_, 1) := by decide +kernel
theorem d_Mo_obeysOne_0 : decode b_Mo_obeysOne 0 = .ok (.iconst 0, 1) := by decide +kernel
theorem d_Mo_obeysOne_1 : decode b_Mo_obeysOne 1 = .ok (.istore_n 2, 1) := by decide +kernel
theorem d_Mo_obeysOne_2 : decode b_Mo_obeysOne 2 = .ok (.iload_n 2, 1) := by decide +kernel
theorem d_Mo_obeysOne_3 : decode b_Mo_obeysOne 3 = .ok (.aload_n 0, 1) := by decide +kernel
theorem d_Mo_obeysOne_4 : decode b_Mo_obeysOne 4 = .ok (.getfield 82, 3) := by decide +kernel
theorem d_Mo_obeysOne_7 : decode b_Mo_obeysOne 7 = .ok (.iload_n 1, 1) := by decide +kernel
theorem d_Mo_obeysOne_8 : decode b_Mo_obeysOne 8 = .ok (.iaload, 1) := by decide +kernel
theorem d_Mo_obeysOne_9 : decode b_Mo_obeysOne 9 = .ok (.if_icmp .ge 167, 3) := by decide +kernel
theorem d_Mo_obeysOne_12 : decode b_Mo_obeysOne 12 = .ok (.bipush 6, 2) := by decide +kernel
theorem d_Mo_obeysOne_14 : decode b_Mo_obeysOne 14 = .ok (.iload_n 1, 1) := by decide +kernel
theorem d_Mo_obeysOne_15 : decode b_Mo_obeysOne 15 = .ok (.imul, 1) := by decide +kernel
theorem d_Mo_obeysOne_16 : decode b_Mo_obeysOne 16 = .ok (.iload_n 2, 1) := by decide +kernel
theorem d_Mo_obeysOne_17 : decode b_Mo_obeysOne 17 = .ok (.iadd, 1) := by decide +kernel
theorem d_Mo_obeysOne_18 : decode b_Mo_obeysOne 18 = .ok (.istore_n 3, 1) := by decide +kernel
theorem d_Mo_obeysOne_19 : decode b_Mo_obeysOne 19 = .ok (.aload_n 0, 1) := by decide +kernel
theorem d_Mo_obeysOne_20 : decode b_Mo_obeysOne 20 = .ok (.getfield 79, 3) := by decide +kernel
theorem d_Mo_obeysOne_23 : decode b_Mo_obeysOne 23 = .ok (.iload_n 1, 1) := by decide +kernel
theorem d_Mo_obeysOne_24 : decode b_Mo_obeysOne 24 = .ok (.laload, 1) := by decide +kernel
theorem d_Mo_obeysOne_25 : decode b_Mo_obeysOne 25 = .ok (.aload_n 0, 1) := by decide +kernel
theorem d_Mo_obeysOne_26 : decode b_Mo_obeysOne 26 = .ok (.getfield 91, 3) := by decide +kernel
theorem d_Mo_obeysOne_29 : decode b_Mo_obeysOne 29 = .ok (.iload_n 3, 1) := by decide +kernel
theorem d_Mo_obeysOne_30 : decode b_Mo_obeysOne 30 = .ok (.laload, 1) := by decide +kernel
theorem d_Mo_obeysOne_31 : decode b_Mo_obeysOne 31 = .ok (.lsub, 1) := by decide +kernel
theorem d_Mo_obeysOne_32 : decode b_Mo_obeysOne 32 = .ok (.ldc2_w 241, 3) := by decide +kernel
theorem d_Mo_obeysOne_35 : decode b_Mo_obeysOne 35 = .ok (.ladd, 1) := by decide +kernel
theorem d_Mo_obeysOne_36 : decode b_Mo_obeysOne 36 = .ok (.ldc2_w 241, 3) := by decide +kernel
theorem d_Mo_obeysOne_39 : decode b_Mo_obeysOne 39 = .ok (.lrem, 1) := by decide +kernel
theorem d_Mo_obeysOne_40 : decode b_Mo_obeysOne 40 = .ok (.ldc2_w 253, 3) := by decide +kernel
theorem d_Mo_obeysOne_43 : decode b_Mo_obeysOne 43 = .ok (.lcmp, 1) := by decide +kernel
theorem d_Mo_obeysOne_44 : decode b_Mo_obeysOne 44 = .ok (.ifCond .ge 126, 3) := by decide +kernel
theorem d_Mo_obeysOne_47 : decode b_Mo_obeysOne 47 = .ok (.aload_n 0, 1) := by decide +kernel
theorem d_Mo_obeysOne_48 : decode b_Mo_obeysOne 48 = .ok (.getfield 91, 3) := by decide +kernel
theorem d_Mo_obeysOne_51 : decode b_Mo_obeysOne 51 = .ok (.iload_n 3, 1) := by decide +kernel
theorem d_Mo_obeysOne_52 : decode b_Mo_obeysOne 52 = .ok (.laload, 1) := by decide +kernel
theorem d_Mo_obeysOne_53 : decode b_Mo_obeysOne 53 = .ok (.lstore 4, 2) := by decide +kernel
theorem d_Mo_obeysOne_55 : decode b_Mo_obeysOne 55 = .ok (.aload_n 0, 1) := by decide +kernel
theorem d_Mo_obeysOne_56 : decode b_Mo_obeysOne 56 = .ok (.getfield 94, 3) := by decide +kernel
theorem d_Mo_obeysOne_59 : decode b_Mo_obeysOne 59 = .ok (.iload_n 3, 1) := by decide +kernel
theorem d_Mo_obeysOne_60 : decode b_Mo_obeysOne 60 = .ok (.iaload, 1) := by decide +kernel
theorem d_Mo_obeysOne_61 : decode b_Mo_obeysOne 61 = .ok (.istore 6, 2) := by decide +kernel
theorem d_Mo_obeysOne_63 : decode b_Mo_obeysOne 63 = .ok (.aload_n 0, 1) := by decide +kernel
theorem d_Mo_obeysOne_64 : decode b_Mo_obeysOne 64 = .ok (.getfield 97, 3) := by decide +kernel
theorem d_Mo_obeysOne_67 : decode b_Mo_obeysOne 67 = .ok (.iload_n 3, 1) := by decide +kernel
theorem d_Mo_obeysOne_68 : decode b_Mo_obeysOne 68 = .ok (.baload, 1) := by decide +kernel
theorem d_Mo_obeysOne_69 : decode b_Mo_obeysOne 69 = .ok (.istore 7, 2) := by decide +kernel
theorem d_Mo_obeysOne_71 : decode b_Mo_obeysOne 71 = .ok (.aload_n 0, 1) := by decide +kernel
theorem d_Mo_obeysOne_72 : decode b_Mo_obeysOne 72 = .ok (.getfield 100, 3) := by decide +kernel
theorem d_Mo_obeysOne_75 : decode b_Mo_obeysOne 75 = .ok (.iload_n 3, 1) := by decide +kernel
theorem d_Mo_obeysOne_76 : decode b_Mo_obeysOne 76 = .ok (.laload, 1) := by decide +kernel
theorem d_Mo_obeysOne_77 : decode b_Mo_obeysOne 77 = .ok (.lstore 8, 2) := by decide +kernel
theorem d_Mo_obeysOne_79 : decode b_Mo_obeysOne 79 = .ok (.iload_n 2, 1) := by decide +kernel
theorem d_Mo_obeysOne_80 : decode b_Mo_obeysOne 80 = .ok (.istore 10, 2) := by decide +kernel
theorem d_Mo_obeysOne_82 : decode b_Mo_obeysOne 82 = .ok (.iload 10, 2) := by decide +kernel
theorem d_Mo_obeysOne_84 : decode b_Mo_obeysOne 84 = .ok (.iconst 1, 1) := by decide +kernel
theorem d_Mo_obeysOne_85 : decode b_Mo_obeysOne 85 = .ok (.iadd, 1) := by decide +kernel
theorem d_Mo_obeysOne_86 : decode b_Mo_obeysOne 86 = .ok (.aload_n 0, 1) := by decide +kernel
theorem d_Mo_obeysOne_87 : decode b_Mo_obeysOne 87 = .ok (.getfield 82, 3) := by decide +kernel
theorem d_Mo_obeysOne_90 : decode b_Mo_obeysOne 90 = .ok (.iload_n 1, 1) := by decide +kernel
theorem d_Mo_obeysOne_91 : decode b_Mo_obeysOne 91 = .ok (.iaload, 1) := by decide +kernel
theorem d_Mo_obeysOne_92 : decode b_Mo_obeysOne 92 = .ok (.if_icmp .ge 20, 3) := by decide +kernel
theorem d_Mo_obeysOne_95 : decode b_Mo_obeysOne 95 = .ok (.aload_n 0, 1) := by decide +kernel
theorem d_Mo_obeysOne_96 : decode b_Mo_obeysOne 96 = .ok (.iload_n 1, 1) := by decide +kernel
theorem d_Mo_obeysOne_97 : decode b_Mo_obeysOne 97 = .ok (.iload 10, 2) := by decide +kernel
theorem d_Mo_obeysOne_99 : decode b_Mo_obeysOne 99 = .ok (.iconst 1, 1) := by decide +kernel
theorem d_Mo_obeysOne_100 : decode b_Mo_obeysOne 100 = .ok (.iadd, 1) := by decide +kernel
theorem d_Mo_obeysOne_101 : decode b_Mo_obeysOne 101 = .ok (.iload 10, 2) := by decide +kernel
theorem d_Mo_obeysOne_103 : decode b_Mo_obeysOne 103 = .ok (.invokevirtual 237, 3) := by decide +kernel
theorem d_Mo_obeysOne_106 : decode b_Mo_obeysOne 106 = .ok (.iinc 10 1, 3) := by decide +kernel
theorem d_Mo_obeysOne_109 : decode b_Mo_obeysOne 109 = .ok (.goto (-27), 3) := by decide +kernel
theorem d_Mo_obeysOne_112 : decode b_Mo_obeysOne 112 = .ok (.aload_n 0, 1) := by decide +kernel
theorem d_Mo_obeysOne_113 : decode b_Mo_obeysOne 113 = .ok (.getfield 82, 3) := by decide +kernel
theorem d_Mo_obeysOne_116 : decode b_Mo_obeysOne 116 = .ok (.iload_n 1, 1) := by decide +kernel
theorem d_Mo_obeysOne_117 : decode b_Mo_obeysOne 117 = .ok (.dup2, 1) := by decide +kernel
theorem d_Mo_obeysOne_118 : decode b_Mo_obeysOne 118 = .ok (.iaload, 1) := by decide +kernel
theorem d_Mo_obeysOne_119 : decode b_Mo_obeysOne 119 = .ok (.iconst 1, 1) := by decide +kernel
theorem d_Mo_obeysOne_120 : decode b_Mo_obeysOne 120 = .ok (.isub, 1) := by decide +kernel
theorem d_Mo_obeysOne_121 : decode b_Mo_obeysOne 121 = .ok (.iastore, 1) := by decide +kernel
theorem d_Mo_obeysOne_122 : decode b_Mo_obeysOne 122 = .ok (.aload_n 0, 1) := by decide +kernel
theorem d_Mo_obeysOne_123 : decode b_Mo_obeysOne 123 = .ok (.getfield 76, 3) := by decide +kernel
theorem d_Mo_obeysOne_126 : decode b_Mo_obeysOne 126 = .ok (.iload_n 1, 1) := by decide +kernel
theorem d_Mo_obeysOne_127 : decode b_Mo_obeysOne 127 = .ok (.iload 7, 2) := by decide +kernel
theorem d_Mo_obeysOne_129 : decode b_Mo_obeysOne 129 = .ok (.bastore, 1) := by decide +kernel
theorem d_Mo_obeysOne_130 : decode b_Mo_obeysOne 130 = .ok (.lload 8, 2) := by decide +kernel
theorem d_Mo_obeysOne_132 : decode b_Mo_obeysOne 132 = .ok (.ldc2_w 154, 3) := by decide +kernel
theorem d_Mo_obeysOne_135 : decode b_Mo_obeysOne 135 = .ok (.lcmp, 1) := by decide +kernel
theorem d_Mo_obeysOne_136 : decode b_Mo_obeysOne 136 = .ok (.ifCond .eq 32, 3) := by decide +kernel
theorem d_Mo_obeysOne_139 : decode b_Mo_obeysOne 139 = .ok (.aload_n 0, 1) := by decide +kernel
theorem d_Mo_obeysOne_140 : decode b_Mo_obeysOne 140 = .ok (.iload_n 1, 1) := by decide +kernel
theorem d_Mo_obeysOne_141 : decode b_Mo_obeysOne 141 = .ok (.lload 4, 2) := by decide +kernel
theorem d_Mo_obeysOne_143 : decode b_Mo_obeysOne 143 = .ok (.lload 8, 2) := by decide +kernel
theorem d_Mo_obeysOne_145 : decode b_Mo_obeysOne 145 = .ok (.ladd, 1) := by decide +kernel
theorem d_Mo_obeysOne_146 : decode b_Mo_obeysOne 146 = .ok (.ldc2_w 241, 3) := by decide +kernel
theorem d_Mo_obeysOne_149 : decode b_Mo_obeysOne 149 = .ok (.lrem, 1) := by decide +kernel
theorem d_Mo_obeysOne_150 : decode b_Mo_obeysOne 150 = .ok (.iload 6, 2) := by decide +kernel
theorem d_Mo_obeysOne_152 : decode b_Mo_obeysOne 152 = .ok (.iload 7, 2) := by decide +kernel
theorem d_Mo_obeysOne_154 : decode b_Mo_obeysOne 154 = .ok (.ifCond .ne 7, 3) := by decide +kernel
theorem d_Mo_obeysOne_157 : decode b_Mo_obeysOne 157 = .ok (.iconst 1, 1) := by decide +kernel
theorem d_Mo_obeysOne_158 : decode b_Mo_obeysOne 158 = .ok (.goto 4, 3) := by decide +kernel
theorem d_Mo_obeysOne_161 : decode b_Mo_obeysOne 161 = .ok (.iconst 0, 1) := by decide +kernel
theorem d_Mo_obeysOne_162 : decode b_Mo_obeysOne 162 = .ok (.ldc2_w 154, 3) := by decide +kernel
theorem d_Mo_obeysOne_165 : decode b_Mo_obeysOne 165 = .ok (.invokevirtual 247, 3) := by decide +kernel
theorem d_Mo_obeysOne_168 : decode b_Mo_obeysOne 168 = .ok (.iconst 1, 1) := by decide +kernel
theorem d_Mo_obeysOne_169 : decode b_Mo_obeysOne 169 = .ok (.ireturn, 1) := by decide +kernel
theorem d_Mo_obeysOne_170 : decode b_Mo_obeysOne 170 = .ok (.iinc 2 1, 3) := by decide +kernel
theorem d_Mo_obeysOne_173 : decode b_Mo_obeysOne 173 = .ok (.goto (-171), 3) := by decide +kernel
theorem d_Mo_obeysOne_176 : decode b_Mo_obeysOne 176 = .ok (.iconst 0, 1) := by decide +kernel
theorem d_Mo_obeysOne_177 : decode b_Mo_obeysOne 177 = .ok (.ireturn, 1) := by decide +kernel
theorem d_Mo_setOrder_0 : decode b_Mo_setOrder 0 = .ok (.aload_n 0, 1) := by decide +kernel
theorem d_Mo_setOrder_1 : decode b_Mo_setOrder 1 = .ok (.getfield 91, 3) := by decide +kernel
theorem d_Mo_setOrder_4 : decode b_Mo_setOrder 4 = .ok (.iload_n 1, 1) := by decide +kernel
theorem d_Mo_setOrder_5 : decode b_Mo_setOrder 5 = .ok (.lload_n 2, 1) := by decide +kernel
theorem d_Mo_setOrder_6 : decode b_Mo_setOrder 6 = .ok (.lastore, 1) := by decide +kernel
theorem d_Mo_setOrder_7 : decode b_Mo_setOrder 7 = .ok (.aload_n 0, 1) := by decide +kernel
theorem d_Mo_setOrder_8 : decode b_Mo_setOrder 8 = .ok (.getfield 94, 3) := by decide +kernel
theorem d_Mo_setOrder_11 : decode b_Mo_setOrder 11 = .ok (.iload_n 1, 1) := by decide +kernel
theorem d_Mo_setOrder_12 : decode b_Mo_setOrder 12 = .ok (.iload 4, 2) := by decide +kernel
theorem d_Mo_setOrder_14 : decode b_Mo_setOrder 14 = .ok (.iastore, 1) := by decide +kernel
theorem d_Mo_setOrder_15 : decode b_Mo_setOrder 15 = .ok (.aload_n 0, 1) := by decide +kernel
theorem d_Mo_setOrder_16 : decode b_Mo_setOrder 16 = .ok (.getfield 97, 3) := by decide +kernel
theorem d_Mo_setOrder_19 : decode b_Mo_setOrder 19 = .ok (.iload_n 1, 1) := by decide +kernel
theorem d_Mo_setOrder_20 : decode b_Mo_setOrder 20 = .ok (.iload 5, 2) := by decide +kernel
theorem d_Mo_setOrder_22 : decode b_Mo_setOrder 22 = .ok (.bastore, 1) := by decide +kernel
theorem d_Mo_setOrder_23 : decode b_Mo_setOrder 23 = .ok (.aload_n 0, 1) := by decide +kernel
theorem d_Mo_setOrder_24 : decode b_Mo_setOrder 24 = .ok (.getfield 100, 3) := by decide +kernel
theorem d_Mo_setOrder_27 : decode b_Mo_setOrder 27 = .ok (.iload_n 1, 1) := by decide +kernel
theorem d_Mo_setOrder_28 : decode b_Mo_setOrder 28 = .ok (.lload 6, 2) := by decide +kernel
theorem d_Mo_setOrder_30 : decode b_Mo_setOrder 30 = .ok (.lastore, 1) := by decide +kernel
theorem d_Mo_setOrder_31 : decode b_Mo_setOrder 31 = .ok (.return_, 1) := by decide +kernel
/-! The reference's orders -/
abbrev OQ := (Nat → Int64) × (Nat → Int32) × (Nat → Int32) × (Nat → Int64)
def zb (x : Int32) : Int32 := vp_nar .boolean x
def osS (z : OQ) (i : Nat) (t : Int64) (n a : Int32) (l : Int64) : OQ := (vp_updL z.1 i t, upd z.2.1 i n, upd z.2.2.1 i (zb a), vp_updL z.2.2.2 i l)
def omv (z : OQ) (i j : Nat) : OQ := osS z j (z.1 i) (z.2.1 i) (z.2.2.1 i) (z.2.2.2 i)
def apU (z : OQ) (wt : Nat → Int32) (k w : Nat) (t : Int64) (n a : Int32) (l : Int64) : OQ × (Nat → Int32) := if w < 6 then (osS z (6 * k + w) t n a l, upd wt k (nI (w + 1))) else (z, wt)
def onG (on : Nat → Int32) (v : Int32) (k n : Nat) : Nat → Nat
  | 0 => n
  | m + 1 => if on (6 * k + (n - (m + 1))) = v then n - (m + 1) else onG on v k n m
theorem onG_at {on : Nat → Int32} {v : Int32} {k n j : Nat} (h : j < n) : onG on v k n (n - j) = if on (6 * k + j) = v then j else onG on v k n (n - (j + 1)) := by
  rw [show n - j = (n - (j + 1)) + 1 by omega, onG, show n - (n - (j + 1) + 1) = j by omega]
def awU (z : OQ) (wt : Nat → Int32) (k w : Nat) (t : Int64) (n a : Int32) (l : Int64) : OQ × (Nat → Int32) := if onG z.2.1 n k w w < w then (osS z (6 * k + onG z.2.1 n k w w) t n a l, wt) else apU z wt k w t n a l
def dueV (nw t : Int64) : Int64 := ((nw - t) + 8589934592) - ((nw - t) + 8589934592) / 8589934592 * 8589934592
def rndV (x : Int64) : Int64 := x - x / 8589934592 * 8589934592
def shU (z : OQ) (k j : Nat) : Nat → OQ
  | 0 => z
  | m + 1 => omv (shU z k j m) (6 * k + (j + m + 1)) (6 * k + (j + m))
def obY (z : OQ) (wt aw : Nat → Int32) (k w j : Nat) : (OQ × (Nat → Int32)) × (Nat → Int32) :=
  ((if z.2.2.2 (6 * k + j) = -1 then (shU z k j (w - 1 - j), upd wt k (nI (w - 1))) else apU (shU z k j (w - 1 - j)) (upd wt k (nI (w - 1))) k (w - 1) (rndV (z.1 (6 * k + j) + z.2.2.2 (6 * k + j))) (z.2.1 (6 * k + j)) (if z.2.2.1 (6 * k + j) = 0 then 1 else 0) (-1)), upd aw k (zb (z.2.2.1 (6 * k + j))))

set_option maxHeartbeats 4000000 in
set_option maxRecDepth 100000 in
theorem c_Mo_moveOrder (l : Launch) (D : va_G) (sz : Nat) (cI : ClassId) (h : Nat) (r : Nat → Nat) (th si le lv pg pn pl rs : Int32) (cJ cZ : ClassId) (z : OQ) (k a b : Nat) (hk : k < 4) (ha : a < 6) (hb9 : b < 6) : Met l y_Mo_moveOrder [Cond.code y_Mo_moveOrder b_Mo_moveOrder 4 none] ({ frames := 0, cells := 0, slots := 0, locals := 0 }) (zM [.ref h, .int (nI k), .int (nI a), .int (nI b)] D [(h, .inr (13, mO r th si le lv pg pn pl rs)), (r 30, .inl (cJ, 24, .inr (.inl z.1))), (r 31, .inl (cI, 24, .inl z.2.1)), (r 32, .inl (cZ, 24, .inl z.2.2.1)), (r 33, .inl (cJ, 24, .inr (.inl z.2.2.2)))] [(cI, .int), (cJ, .long), (cZ, .boolean)] sz) (va_Qv (fun (u : OQ) => u = omv z (6 * k + a) (6 * k + b)) (fun (u : OQ) t => zW D (va_A [(h, .inr (13, mO r th si le lv pg pn pl rs)), (r 30, .inl (cJ, 24, .inr (.inl z.1))), (r 31, .inl (cI, 24, .inl z.2.1)), (r 32, .inl (cZ, 24, .inl z.2.2.1)), (r 33, .inl (cJ, 24, .inr (.inl z.2.2.2)))] sz) [(h, .inr (13, mO r th si le lv pg pn pl rs)), (r 30, .inl (cJ, 24, .inr (.inl u.1))), (r 31, .inl (cI, 24, .inl u.2.1)), (r 32, .inl (cZ, 24, .inl u.2.2.1)), (r 33, .inl (cJ, 24, .inr (.inl u.2.2.2)))] [(cI, .int), (cJ, .long), (cZ, .boolean)] t) (va_A [(h, .inr (13, mO r th si le lv pg pn pl rs)), (r 30, .inl (cJ, 24, .inr (.inl z.1))), (r 31, .inl (cI, 24, .inl z.2.1)), (r 32, .inl (cZ, 24, .inl z.2.2.1)), (r 33, .inl (cJ, 24, .inr (.inl z.2.2.2)))] sz)) 0 0 (va_A [(h, .inr (13, mO r th si le lv pg pn pl rs)), (r 30, .inl (cJ, 24, .inr (.inl z.1))), (r 31, .inl (cI, 24, .inl z.2.1)), (r 32, .inl (cZ, 24, .inl z.2.2.1)), (r 33, .inl (cJ, 24, .inr (.inl z.2.2.2)))] sz) := by
  refine Met.ofW (cc := b_Mo_moveOrder) (maxL := 4) (ret := none) (by decide) rfl ?_
  intro p e s m args below meth cd s₁ Bd hml hv
  obtain ⟨rfl, hsz, hP, hK, hN, hD0⟩ := hv
  have hx := Bd.exec
  have hb := Bd.bytes
  have hr := Bd.returns
  have hts := hN.use (a := ([.ref h, .int (nI k), .int (nI a), .int (nI b)]).toArray)
  have hown : s.vm.findClass R_Mo = some m.cls := findClass_of_methodNamed Bd.named
  have hlocks := Bd.notSynchronized
  subst hsz
  have hD := hD0.self (sz := s.heap.size)
  clear hD0
  have hA : ∀ q : Nat, s.heap.size ≤ q → va_A [(h, .inr (13, mO r th si le lv pg pn pl rs)), (r 30, .inl (cJ, 24, .inr (.inl z.1))), (r 31, .inl (cI, 24, .inl z.2.1)), (r 32, .inl (cZ, 24, .inl z.2.2.1)), (r 33, .inl (cJ, 24, .inr (.inl z.2.2.2)))] s.heap.size q := fun q h => Or.inr h
  have hS : va_S (va_A [(h, .inr (13, mO r th si le lv pg pn pl rs)), (r 30, .inl (cJ, 24, .inr (.inl z.1))), (r 31, .inl (cI, 24, .inl z.2.1)), (r 32, .inl (cZ, 24, .inl z.2.2.1)), (r 33, .inl (cJ, 24, .inr (.inl z.2.2.2)))] s.heap.size) s.heap s.heap [] := va_S.rf
  generalize hAe : va_A [(h, .inr (13, mO r th si le lv pg pn pl rs)), (r 30, .inl (cJ, 24, .inr (.inl z.1))), (r 31, .inl (cI, 24, .inl z.2.1)), (r 32, .inl (cZ, 24, .inl z.2.2.1)), (r 33, .inl (cJ, 24, .inr (.inl z.2.2.2)))] s.heap.size = A at hD hA hS ⊢
  have hP : va_P D classes [(h, .inr (13, mO r th si le lv pg pn pl rs)), (r 30, .inl (cJ, 24, .inr (.inl z.1))), (r 31, .inl (cI, 24, .inl z.2.1)), (r 32, .inl (cZ, 24, .inl z.2.2.1)), (r 33, .inl (cJ, 24, .inr (.inl z.2.2.2)))] s.heap := hP
  have hl := lv_entry ([.ref h, .int (nI k), .int (nI a), .int (nI b)]) (n := 4) (Nat.le_of_ble_eq_true rfl)
  rw [lg_entry_eq]
  generalize (lg_sl ([.ref h, .int (nI k), .int (nI a), .int (nI b)]) ++ List.replicate (4 - (lg_sl ([.ref h, .int (nI k), .int (nI a), .int (nI b)])).length) Slot.unset).toArray = ls at hl ⊢
  have hl : lv_has ls 4 [(0, .ref h), (1, .int (nI k)), (2, .int (nI a)), (3, .int (nI b))] := hl
  refine lv_aload_n hx hb d_Mo_moveOrder_0 rfl (lv_at hl 0 rfl) ?_
  refine va_get (D := D) (ci := 13) (v := .ref (r 30)) (C := R_Mo) (T := F_Mo) (N := 54) hx hb hts i_Mo hown hK hP 0 rfl rfl 30 (by decide) (hts _ wd_1118) (fun _ h9 => h9) rfl d_Mo_moveOrder_1 ?_
  refine lv_bipush (v := 6) hx hb d_Mo_moveOrder_4 (by decide) ?_
  refine lv_iload_n hx hb d_Mo_moveOrder_6 rfl (lv_at hl 1 rfl) ?_
  refine lv_imul hx hb d_Mo_moveOrder_7 ?_
  refine z_topi (w := nI (6 * k)) (pk_mul 6 _) ?_
  refine lv_iload_n hx hb d_Mo_moveOrder_8 rfl (lv_at hl 3 rfl) ?_
  refine lv_iadd hx hb d_Mo_moveOrder_9 ?_
  refine z_topi (w := nI (6 * k + b)) (nI_add _ _) ?_
  refine lv_aload_n hx hb d_Mo_moveOrder_10 rfl (lv_at hl 0 rfl) ?_
  refine va_get (D := D) (ci := 13) (v := .ref (r 30)) (C := R_Mo) (T := F_Mo) (N := 54) hx hb hts i_Mo hown hK hP 0 rfl rfl 30 (by decide) (hts _ wd_1118) (fun _ h9 => h9) rfl d_Mo_moveOrder_11 ?_
  refine lv_bipush (v := 6) hx hb d_Mo_moveOrder_14 (by decide) ?_
  refine lv_iload_n hx hb d_Mo_moveOrder_16 rfl (lv_at hl 1 rfl) ?_
  refine lv_imul hx hb d_Mo_moveOrder_17 ?_
  refine z_topi (w := nI (6 * k)) (pk_mul 6 _) ?_
  refine lv_iload_n hx hb d_Mo_moveOrder_18 rfl (lv_at hl 2 rfl) ?_
  refine lv_iadd hx hb d_Mo_moveOrder_19 ?_
  refine z_topi (w := nI (6 * k + a)) (nI_add _ _) ?_
  refine z_lald hx hb hK hP 1 1 rfl rfl (6 * k + a) rfl (by omega) (by omega) d_Mo_moveOrder_20 ?_
  refine z_last hx hb hK hP hD hS 1 1 rfl rfl (6 * k + b) rfl (by omega) (by omega) d_Mo_moveOrder_21 (fun H locs hP hD hS => ?_)
  have hP : va_P D classes [(h, .inr (13, mO r th si le lv pg pn pl rs)), (r 30, .inl (cJ, 24, .inr (.inl (vp_updL z.1 (6 * k + b) (z.1 (6 * k + a)))))), (r 31, .inl (cI, 24, .inl z.2.1)), (r 32, .inl (cZ, 24, .inl z.2.2.1)), (r 33, .inl (cJ, 24, .inr (.inl z.2.2.2)))] H := hP
  have hD : va_D A [(h, .inr (13, mO r th si le lv pg pn pl rs)), (r 30, .inl (cJ, 24, .inr (.inl (vp_updL z.1 (6 * k + b) (z.1 (6 * k + a)))))), (r 31, .inl (cI, 24, .inl z.2.1)), (r 32, .inl (cZ, 24, .inl z.2.2.1)), (r 33, .inl (cJ, 24, .inr (.inl z.2.2.2)))] := hD
  refine lv_aload_n hx hb d_Mo_moveOrder_22 rfl (lv_at hl 0 rfl) ?_
  refine va_get (D := D) (ci := 13) (v := .ref (r 31)) (C := R_Mo) (T := F_Mo) (N := 54) hx hb hts i_Mo hown hK hP 0 rfl rfl 31 (by decide) (hts _ wd_1119) (fun _ h9 => h9) rfl d_Mo_moveOrder_23 ?_
  refine lv_bipush (v := 6) hx hb d_Mo_moveOrder_26 (by decide) ?_
  refine lv_iload_n hx hb d_Mo_moveOrder_28 rfl (lv_at hl 1 rfl) ?_
  refine lv_imul hx hb d_Mo_moveOrder_29 ?_
  refine z_topi (w := nI (6 * k)) (pk_mul 6 _) ?_
  refine lv_iload_n hx hb d_Mo_moveOrder_30 rfl (lv_at hl 3 rfl) ?_
  refine lv_iadd hx hb d_Mo_moveOrder_31 ?_
  refine z_topi (w := nI (6 * k + b)) (nI_add _ _) ?_
  refine lv_aload_n hx hb d_Mo_moveOrder_32 rfl (lv_at hl 0 rfl) ?_
  refine va_get (D := D) (ci := 13) (v := .ref (r 31)) (C := R_Mo) (T := F_Mo) (N := 54) hx hb hts i_Mo hown hK hP 0 rfl rfl 31 (by decide) (hts _ wd_1119) (fun _ h9 => h9) rfl d_Mo_moveOrder_33 ?_
  refine lv_bipush (v := 6) hx hb d_Mo_moveOrder_36 (by decide) ?_
  refine lv_iload_n hx hb d_Mo_moveOrder_38 rfl (lv_at hl 1 rfl) ?_
  refine lv_imul hx hb d_Mo_moveOrder_39 ?_
  refine z_topi (w := nI (6 * k)) (pk_mul 6 _) ?_
  refine lv_iload_n hx hb d_Mo_moveOrder_40 rfl (lv_at hl 2 rfl) ?_
  refine lv_iadd hx hb d_Mo_moveOrder_41 ?_
  refine z_topi (w := nI (6 * k + a)) (nI_add _ _) ?_
  refine z_iald hx hb hK hP 2 0 rfl rfl (6 * k + a) rfl (by omega) (by omega) d_Mo_moveOrder_42 ?_
  refine z_iast hx hb hK hP hD hS 2 0 rfl rfl (6 * k + b) rfl (by omega) (by omega) d_Mo_moveOrder_43 (fun H locs hP hD hS => ?_)
  have hP : va_P D classes [(h, .inr (13, mO r th si le lv pg pn pl rs)), (r 30, .inl (cJ, 24, .inr (.inl (vp_updL z.1 (6 * k + b) (z.1 (6 * k + a)))))), (r 31, .inl (cI, 24, .inl (upd z.2.1 (6 * k + b) (z.2.1 (6 * k + a))))), (r 32, .inl (cZ, 24, .inl z.2.2.1)), (r 33, .inl (cJ, 24, .inr (.inl z.2.2.2)))] H := hP
  have hD : va_D A [(h, .inr (13, mO r th si le lv pg pn pl rs)), (r 30, .inl (cJ, 24, .inr (.inl (vp_updL z.1 (6 * k + b) (z.1 (6 * k + a)))))), (r 31, .inl (cI, 24, .inl (upd z.2.1 (6 * k + b) (z.2.1 (6 * k + a))))), (r 32, .inl (cZ, 24, .inl z.2.2.1)), (r 33, .inl (cJ, 24, .inr (.inl z.2.2.2)))] := hD
  refine lv_aload_n hx hb d_Mo_moveOrder_44 rfl (lv_at hl 0 rfl) ?_
  refine va_get (D := D) (ci := 13) (v := .ref (r 32)) (C := R_Mo) (T := F_Mo) (N := 54) hx hb hts i_Mo hown hK hP 0 rfl rfl 32 (by decide) (hts _ wd_1120) (fun _ h9 => h9) rfl d_Mo_moveOrder_45 ?_
  refine lv_bipush (v := 6) hx hb d_Mo_moveOrder_48 (by decide) ?_
  refine lv_iload_n hx hb d_Mo_moveOrder_50 rfl (lv_at hl 1 rfl) ?_
  refine lv_imul hx hb d_Mo_moveOrder_51 ?_
  refine z_topi (w := nI (6 * k)) (pk_mul 6 _) ?_
  refine lv_iload_n hx hb d_Mo_moveOrder_52 rfl (lv_at hl 3 rfl) ?_
  refine lv_iadd hx hb d_Mo_moveOrder_53 ?_
  refine z_topi (w := nI (6 * k + b)) (nI_add _ _) ?_
  refine lv_aload_n hx hb d_Mo_moveOrder_54 rfl (lv_at hl 0 rfl) ?_
  refine va_get (D := D) (ci := 13) (v := .ref (r 32)) (C := R_Mo) (T := F_Mo) (N := 54) hx hb hts i_Mo hown hK hP 0 rfl rfl 32 (by decide) (hts _ wd_1120) (fun _ h9 => h9) rfl d_Mo_moveOrder_55 ?_
  refine lv_bipush (v := 6) hx hb d_Mo_moveOrder_58 (by decide) ?_
  refine lv_iload_n hx hb d_Mo_moveOrder_60 rfl (lv_at hl 1 rfl) ?_
  refine lv_imul hx hb d_Mo_moveOrder_61 ?_
  refine z_topi (w := nI (6 * k)) (pk_mul 6 _) ?_
  refine lv_iload_n hx hb d_Mo_moveOrder_62 rfl (lv_at hl 2 rfl) ?_
  refine lv_iadd hx hb d_Mo_moveOrder_63 ?_
  refine z_topi (w := nI (6 * k + a)) (nI_add _ _) ?_
  refine z_zald hx hb hK hP 3 2 rfl rfl (6 * k + a) rfl (by omega) (by omega) d_Mo_moveOrder_64 ?_
  refine z_zast hx hb hK hP hD hS 3 2 rfl rfl (6 * k + b) rfl (by omega) (by omega) d_Mo_moveOrder_65 (fun H locs hP hD hS => ?_)
  have hP : va_P D classes [(h, .inr (13, mO r th si le lv pg pn pl rs)), (r 30, .inl (cJ, 24, .inr (.inl (vp_updL z.1 (6 * k + b) (z.1 (6 * k + a)))))), (r 31, .inl (cI, 24, .inl (upd z.2.1 (6 * k + b) (z.2.1 (6 * k + a))))), (r 32, .inl (cZ, 24, .inl (upd z.2.2.1 (6 * k + b) (vp_nar .boolean (z.2.2.1 (6 * k + a)))))), (r 33, .inl (cJ, 24, .inr (.inl z.2.2.2)))] H := hP
  have hD : va_D A [(h, .inr (13, mO r th si le lv pg pn pl rs)), (r 30, .inl (cJ, 24, .inr (.inl (vp_updL z.1 (6 * k + b) (z.1 (6 * k + a)))))), (r 31, .inl (cI, 24, .inl (upd z.2.1 (6 * k + b) (z.2.1 (6 * k + a))))), (r 32, .inl (cZ, 24, .inl (upd z.2.2.1 (6 * k + b) (vp_nar .boolean (z.2.2.1 (6 * k + a)))))), (r 33, .inl (cJ, 24, .inr (.inl z.2.2.2)))] := hD
  refine lv_aload_n hx hb d_Mo_moveOrder_66 rfl (lv_at hl 0 rfl) ?_
  refine va_get (D := D) (ci := 13) (v := .ref (r 33)) (C := R_Mo) (T := F_Mo) (N := 54) hx hb hts i_Mo hown hK hP 0 rfl rfl 33 (by decide) (hts _ wd_1121) (fun _ h9 => h9) rfl d_Mo_moveOrder_67 ?_
  refine lv_bipush (v := 6) hx hb d_Mo_moveOrder_70 (by decide) ?_
  refine lv_iload_n hx hb d_Mo_moveOrder_72 rfl (lv_at hl 1 rfl) ?_
  refine lv_imul hx hb d_Mo_moveOrder_73 ?_
  refine z_topi (w := nI (6 * k)) (pk_mul 6 _) ?_
  refine lv_iload_n hx hb d_Mo_moveOrder_74 rfl (lv_at hl 3 rfl) ?_
  refine lv_iadd hx hb d_Mo_moveOrder_75 ?_
  refine z_topi (w := nI (6 * k + b)) (nI_add _ _) ?_
  refine lv_aload_n hx hb d_Mo_moveOrder_76 rfl (lv_at hl 0 rfl) ?_
  refine va_get (D := D) (ci := 13) (v := .ref (r 33)) (C := R_Mo) (T := F_Mo) (N := 54) hx hb hts i_Mo hown hK hP 0 rfl rfl 33 (by decide) (hts _ wd_1121) (fun _ h9 => h9) rfl d_Mo_moveOrder_77 ?_
  refine lv_bipush (v := 6) hx hb d_Mo_moveOrder_80 (by decide) ?_
  refine lv_iload_n hx hb d_Mo_moveOrder_82 rfl (lv_at hl 1 rfl) ?_
  refine lv_imul hx hb d_Mo_moveOrder_83 ?_
  refine z_topi (w := nI (6 * k)) (pk_mul 6 _) ?_
  refine lv_iload_n hx hb d_Mo_moveOrder_84 rfl (lv_at hl 2 rfl) ?_
  refine lv_iadd hx hb d_Mo_moveOrder_85 ?_
  refine z_topi (w := nI (6 * k + a)) (nI_add _ _) ?_
  refine z_lald hx hb hK hP 4 1 rfl rfl (6 * k + a) rfl (by omega) (by omega) d_Mo_moveOrder_86 ?_
  refine z_last hx hb hK hP hD hS 4 1 rfl rfl (6 * k + b) rfl (by omega) (by omega) d_Mo_moveOrder_87 (fun H locs hP hD hS => ?_)
  have hP : va_P D classes [(h, .inr (13, mO r th si le lv pg pn pl rs)), (r 30, .inl (cJ, 24, .inr (.inl (vp_updL z.1 (6 * k + b) (z.1 (6 * k + a)))))), (r 31, .inl (cI, 24, .inl (upd z.2.1 (6 * k + b) (z.2.1 (6 * k + a))))), (r 32, .inl (cZ, 24, .inl (upd z.2.2.1 (6 * k + b) (vp_nar .boolean (z.2.2.1 (6 * k + a)))))), (r 33, .inl (cJ, 24, .inr (.inl (vp_updL z.2.2.2 (6 * k + b) (z.2.2.2 (6 * k + a))))))] H := hP
  have hD : va_D A [(h, .inr (13, mO r th si le lv pg pn pl rs)), (r 30, .inl (cJ, 24, .inr (.inl (vp_updL z.1 (6 * k + b) (z.1 (6 * k + a)))))), (r 31, .inl (cI, 24, .inl (upd z.2.1 (6 * k + b) (z.2.1 (6 * k + a))))), (r 32, .inl (cZ, 24, .inl (upd z.2.2.1 (6 * k + b) (vp_nar .boolean (z.2.2.1 (6 * k + a)))))), (r 33, .inl (cJ, 24, .inr (.inl (vp_updL z.2.2.2 (6 * k + b) (z.2.2.2 (6 * k + a))))))] := hD
  have hP9 := hP.sub (ws' := [(h, .inr (13, mO r th si le lv pg pn pl rs)), (r 30, .inl (cJ, 24, .inr (.inl (vp_updL z.1 (6 * k + b) (z.1 (6 * k + a)))))), (r 31, .inl (cI, 24, .inl (upd z.2.1 (6 * k + b) (z.2.1 (6 * k + a))))), (r 32, .inl (cZ, 24, .inl (upd z.2.2.1 (6 * k + b) (vp_nar .boolean (z.2.2.1 (6 * k + a)))))), (r 33, .inl (cJ, 24, .inr (.inl (vp_updL z.2.2.2 (6 * k + b) (z.2.2.2 (6 * k + a))))))]) [0, 1, 2, 3, 4] rfl
  have hD9 := hD.sub (ws' := [(h, .inr (13, mO r th si le lv pg pn pl rs)), (r 30, .inl (cJ, 24, .inr (.inl (vp_updL z.1 (6 * k + b) (z.1 (6 * k + a)))))), (r 31, .inl (cI, 24, .inl (upd z.2.1 (6 * k + b) (z.2.1 (6 * k + a))))), (r 32, .inl (cZ, 24, .inl (upd z.2.2.1 (6 * k + b) (vp_nar .boolean (z.2.2.1 (6 * k + a)))))), (r 33, .inl (cJ, 24, .inr (.inl (vp_updL z.2.2.2 (6 * k + b) (z.2.2.2 (6 * k + a))))))]) [0, 1, 2, 3, 4] (by decide) rfl
  have hK9 := hK.sub (tys' := [(cI, .int), (cJ, .long), (cZ, .boolean)]) [0, 1, 2] rfl
  exact W.vret hx hb hr (fun t ht hW => ⟨⟨omv z (6 * k + a) (6 * k + b), rfl, rfl, ⟨by rw [ht]; exact hP9, va_K.moved hW.alike hK9, hD9⟩⟩, hS.F ht⟩) hS.2.2 d_Mo_moveOrder_88
set_option maxHeartbeats 4000000 in
set_option maxRecDepth 100000 in
theorem c_Mo_setOrder (l : Launch) (D : va_G) (sz : Nat) (cI : ClassId) (h : Nat) (r : Nat → Nat) (th si le lv pg pn pl rs : Int32) (cJ cZ : ClassId) (z : OQ) (k : Nat) (t0 : Int64) (nm a0 : Int32) (l0 : Int64) (hk : k < 24) : Met l y_Mo_setOrder [Cond.code y_Mo_setOrder b_Mo_setOrder 8 none] ({ frames := 0, cells := 0, slots := 0, locals := 0 }) (zM [.ref h, .int (nI k), .long t0, .int nm, .int a0, .long l0] D [(h, .inr (13, mO r th si le lv pg pn pl rs)), (r 30, .inl (cJ, 24, .inr (.inl z.1))), (r 31, .inl (cI, 24, .inl z.2.1)), (r 32, .inl (cZ, 24, .inl z.2.2.1)), (r 33, .inl (cJ, 24, .inr (.inl z.2.2.2)))] [(cI, .int), (cJ, .long), (cZ, .boolean)] sz) (va_Qv (fun (u : OQ) => u = osS z k t0 nm a0 l0) (fun (u : OQ) t => zW D (va_A [(h, .inr (13, mO r th si le lv pg pn pl rs)), (r 30, .inl (cJ, 24, .inr (.inl z.1))), (r 31, .inl (cI, 24, .inl z.2.1)), (r 32, .inl (cZ, 24, .inl z.2.2.1)), (r 33, .inl (cJ, 24, .inr (.inl z.2.2.2)))] sz) [(h, .inr (13, mO r th si le lv pg pn pl rs)), (r 30, .inl (cJ, 24, .inr (.inl u.1))), (r 31, .inl (cI, 24, .inl u.2.1)), (r 32, .inl (cZ, 24, .inl u.2.2.1)), (r 33, .inl (cJ, 24, .inr (.inl u.2.2.2)))] [(cI, .int), (cJ, .long), (cZ, .boolean)] t) (va_A [(h, .inr (13, mO r th si le lv pg pn pl rs)), (r 30, .inl (cJ, 24, .inr (.inl z.1))), (r 31, .inl (cI, 24, .inl z.2.1)), (r 32, .inl (cZ, 24, .inl z.2.2.1)), (r 33, .inl (cJ, 24, .inr (.inl z.2.2.2)))] sz)) 0 0 (va_A [(h, .inr (13, mO r th si le lv pg pn pl rs)), (r 30, .inl (cJ, 24, .inr (.inl z.1))), (r 31, .inl (cI, 24, .inl z.2.1)), (r 32, .inl (cZ, 24, .inl z.2.2.1)), (r 33, .inl (cJ, 24, .inr (.inl z.2.2.2)))] sz) := by
  refine Met.ofW (cc := b_Mo_setOrder) (maxL := 8) (ret := none) (by decide) rfl ?_
  intro p e s m args below meth cd s₁ Bd hml hv
  obtain ⟨rfl, hsz, hP, hK, hN, hD0⟩ := hv
  have hx := Bd.exec
  have hb := Bd.bytes
  have hr := Bd.returns
  have hts := hN.use (a := ([.ref h, .int (nI k), .long t0, .int nm, .int a0, .long l0]).toArray)
  have hown : s.vm.findClass R_Mo = some m.cls := findClass_of_methodNamed Bd.named
  have hlocks := Bd.notSynchronized
  subst hsz
  have hD := hD0.self (sz := s.heap.size)
  clear hD0
  have hA : ∀ q : Nat, s.heap.size ≤ q → va_A [(h, .inr (13, mO r th si le lv pg pn pl rs)), (r 30, .inl (cJ, 24, .inr (.inl z.1))), (r 31, .inl (cI, 24, .inl z.2.1)), (r 32, .inl (cZ, 24, .inl z.2.2.1)), (r 33, .inl (cJ, 24, .inr (.inl z.2.2.2)))] s.heap.size q := fun q h => Or.inr h
  have hS : va_S (va_A [(h, .inr (13, mO r th si le lv pg pn pl rs)), (r 30, .inl (cJ, 24, .inr (.inl z.1))), (r 31, .inl (cI, 24, .inl z.2.1)), (r 32, .inl (cZ, 24, .inl z.2.2.1)), (r 33, .inl (cJ, 24, .inr (.inl z.2.2.2)))] s.heap.size) s.heap s.heap [] := va_S.rf
  generalize hAe : va_A [(h, .inr (13, mO r th si le lv pg pn pl rs)), (r 30, .inl (cJ, 24, .inr (.inl z.1))), (r 31, .inl (cI, 24, .inl z.2.1)), (r 32, .inl (cZ, 24, .inl z.2.2.1)), (r 33, .inl (cJ, 24, .inr (.inl z.2.2.2)))] s.heap.size = A at hD hA hS ⊢
  have hP : va_P D classes [(h, .inr (13, mO r th si le lv pg pn pl rs)), (r 30, .inl (cJ, 24, .inr (.inl z.1))), (r 31, .inl (cI, 24, .inl z.2.1)), (r 32, .inl (cZ, 24, .inl z.2.2.1)), (r 33, .inl (cJ, 24, .inr (.inl z.2.2.2)))] s.heap := hP
  have hl := lv_entry ([.ref h, .int (nI k), .long t0, .int nm, .int a0, .long l0]) (n := 8) (Nat.le_of_ble_eq_true rfl)
  rw [lg_entry_eq]
  generalize (lg_sl ([.ref h, .int (nI k), .long t0, .int nm, .int a0, .long l0]) ++ List.replicate (8 - (lg_sl ([.ref h, .int (nI k), .long t0, .int nm, .int a0, .long l0])).length) Slot.unset).toArray = ls at hl ⊢
  have hl : lv_has ls 8 [(0, .ref h), (1, .int (nI k)), (2, .long t0), (4, .int nm), (5, .int a0), (6, .long l0)] := hl
  refine lv_aload_n hx hb d_Mo_setOrder_0 rfl (lv_at hl 0 rfl) ?_
  refine va_get (D := D) (ci := 13) (v := .ref (r 30)) (C := R_Mo) (T := F_Mo) (N := 54) hx hb hts i_Mo hown hK hP 0 rfl rfl 30 (by decide) (hts _ wd_1118) (fun _ h9 => h9) rfl d_Mo_setOrder_1 ?_
  refine lv_iload_n hx hb d_Mo_setOrder_4 rfl (lv_at hl 1 rfl) ?_
  refine lv_lload_n hx hb d_Mo_setOrder_5 rfl (lv_at hl 2 rfl) ?_
  refine z_last hx hb hK hP hD hS 1 1 rfl rfl k rfl (by omega) (by omega) d_Mo_setOrder_6 (fun H locs hP hD hS => ?_)
  have hP : va_P D classes [(h, .inr (13, mO r th si le lv pg pn pl rs)), (r 30, .inl (cJ, 24, .inr (.inl (vp_updL z.1 k t0)))), (r 31, .inl (cI, 24, .inl z.2.1)), (r 32, .inl (cZ, 24, .inl z.2.2.1)), (r 33, .inl (cJ, 24, .inr (.inl z.2.2.2)))] H := hP
  have hD : va_D A [(h, .inr (13, mO r th si le lv pg pn pl rs)), (r 30, .inl (cJ, 24, .inr (.inl (vp_updL z.1 k t0)))), (r 31, .inl (cI, 24, .inl z.2.1)), (r 32, .inl (cZ, 24, .inl z.2.2.1)), (r 33, .inl (cJ, 24, .inr (.inl z.2.2.2)))] := hD
  refine lv_aload_n hx hb d_Mo_setOrder_7 rfl (lv_at hl 0 rfl) ?_
  refine va_get (D := D) (ci := 13) (v := .ref (r 31)) (C := R_Mo) (T := F_Mo) (N := 54) hx hb hts i_Mo hown hK hP 0 rfl rfl 31 (by decide) (hts _ wd_1119) (fun _ h9 => h9) rfl d_Mo_setOrder_8 ?_
  refine lv_iload_n hx hb d_Mo_setOrder_11 rfl (lv_at hl 1 rfl) ?_
  refine lv_iload hx hb d_Mo_setOrder_12 (lv_at hl 3 rfl) ?_
  refine z_iast hx hb hK hP hD hS 2 0 rfl rfl k rfl (by omega) (by omega) d_Mo_setOrder_14 (fun H locs hP hD hS => ?_)
  have hP : va_P D classes [(h, .inr (13, mO r th si le lv pg pn pl rs)), (r 30, .inl (cJ, 24, .inr (.inl (vp_updL z.1 k t0)))), (r 31, .inl (cI, 24, .inl (upd z.2.1 k nm))), (r 32, .inl (cZ, 24, .inl z.2.2.1)), (r 33, .inl (cJ, 24, .inr (.inl z.2.2.2)))] H := hP
  have hD : va_D A [(h, .inr (13, mO r th si le lv pg pn pl rs)), (r 30, .inl (cJ, 24, .inr (.inl (vp_updL z.1 k t0)))), (r 31, .inl (cI, 24, .inl (upd z.2.1 k nm))), (r 32, .inl (cZ, 24, .inl z.2.2.1)), (r 33, .inl (cJ, 24, .inr (.inl z.2.2.2)))] := hD
  refine lv_aload_n hx hb d_Mo_setOrder_15 rfl (lv_at hl 0 rfl) ?_
  refine va_get (D := D) (ci := 13) (v := .ref (r 32)) (C := R_Mo) (T := F_Mo) (N := 54) hx hb hts i_Mo hown hK hP 0 rfl rfl 32 (by decide) (hts _ wd_1120) (fun _ h9 => h9) rfl d_Mo_setOrder_16 ?_
  refine lv_iload_n hx hb d_Mo_setOrder_19 rfl (lv_at hl 1 rfl) ?_
  refine lv_iload hx hb d_Mo_setOrder_20 (lv_at hl 4 rfl) ?_
  refine z_zast hx hb hK hP hD hS 3 2 rfl rfl k rfl (by omega) (by omega) d_Mo_setOrder_22 (fun H locs hP hD hS => ?_)
  have hP : va_P D classes [(h, .inr (13, mO r th si le lv pg pn pl rs)), (r 30, .inl (cJ, 24, .inr (.inl (vp_updL z.1 k t0)))), (r 31, .inl (cI, 24, .inl (upd z.2.1 k nm))), (r 32, .inl (cZ, 24, .inl (upd z.2.2.1 k (vp_nar .boolean a0)))), (r 33, .inl (cJ, 24, .inr (.inl z.2.2.2)))] H := hP
  have hD : va_D A [(h, .inr (13, mO r th si le lv pg pn pl rs)), (r 30, .inl (cJ, 24, .inr (.inl (vp_updL z.1 k t0)))), (r 31, .inl (cI, 24, .inl (upd z.2.1 k nm))), (r 32, .inl (cZ, 24, .inl (upd z.2.2.1 k (vp_nar .boolean a0)))), (r 33, .inl (cJ, 24, .inr (.inl z.2.2.2)))] := hD
  refine lv_aload_n hx hb d_Mo_setOrder_23 rfl (lv_at hl 0 rfl) ?_
  refine va_get (D := D) (ci := 13) (v := .ref (r 33)) (C := R_Mo) (T := F_Mo) (N := 54) hx hb hts i_Mo hown hK hP 0 rfl rfl 33 (by decide) (hts _ wd_1121) (fun _ h9 => h9) rfl d_Mo_setOrder_24 ?_
  refine lv_iload_n hx hb d_Mo_setOrder_27 rfl (lv_at hl 1 rfl) ?_
  refine lv_lload hx hb d_Mo_setOrder_28 (lv_at hl 5 rfl) ?_
  refine z_last hx hb hK hP hD hS 4 1 rfl rfl k rfl (by omega) (by omega) d_Mo_setOrder_30 (fun H locs hP hD hS => ?_)
  have hP : va_P D classes [(h, .inr (13, mO r th si le lv pg pn pl rs)), (r 30, .inl (cJ, 24, .inr (.inl (vp_updL z.1 k t0)))), (r 31, .inl (cI, 24, .inl (upd z.2.1 k nm))), (r 32, .inl (cZ, 24, .inl (upd z.2.2.1 k (vp_nar .boolean a0)))), (r 33, .inl (cJ, 24, .inr (.inl (vp_updL z.2.2.2 k l0))))] H := hP
  have hD : va_D A [(h, .inr (13, mO r th si le lv pg pn pl rs)), (r 30, .inl (cJ, 24, .inr (.inl (vp_updL z.1 k t0)))), (r 31, .inl (cI, 24, .inl (upd z.2.1 k nm))), (r 32, .inl (cZ, 24, .inl (upd z.2.2.1 k (vp_nar .boolean a0)))), (r 33, .inl (cJ, 24, .inr (.inl (vp_updL z.2.2.2 k l0))))] := hD
  have hP9 := hP.sub (ws' := [(h, .inr (13, mO r th si le lv pg pn pl rs)), (r 30, .inl (cJ, 24, .inr (.inl (vp_updL z.1 k t0)))), (r 31, .inl (cI, 24, .inl (upd z.2.1 k nm))), (r 32, .inl (cZ, 24, .inl (upd z.2.2.1 k (vp_nar .boolean a0)))), (r 33, .inl (cJ, 24, .inr (.inl (vp_updL z.2.2.2 k l0))))]) [0, 1, 2, 3, 4] rfl
  have hD9 := hD.sub (ws' := [(h, .inr (13, mO r th si le lv pg pn pl rs)), (r 30, .inl (cJ, 24, .inr (.inl (vp_updL z.1 k t0)))), (r 31, .inl (cI, 24, .inl (upd z.2.1 k nm))), (r 32, .inl (cZ, 24, .inl (upd z.2.2.1 k (vp_nar .boolean a0)))), (r 33, .inl (cJ, 24, .inr (.inl (vp_updL z.2.2.2 k l0))))]) [0, 1, 2, 3, 4] (by decide) rfl
  have hK9 := hK.sub (tys' := [(cI, .int), (cJ, .long), (cZ, .boolean)]) [0, 1, 2] rfl
  exact W.vret hx hb hr (fun t ht hW => ⟨⟨osS z k t0 nm a0 l0, rfl, rfl, ⟨by rw [ht]; exact hP9, va_K.moved hW.alike hK9, hD9⟩⟩, hS.F ht⟩) hS.2.2 d_Mo_setOrder_31
set_option maxHeartbeats 4000000 in
set_option maxRecDepth 100000 in
theorem c_Mo_append (l : Launch) (D : va_G) (sz : Nat) (cI : ClassId) (h : Nat) (r : Nat → Nat) (th si le lv pg pn pl rs : Int32) (cJ cZ : ClassId) (z : OQ) (wt : Nat → Int32) (k w : Nat) (t0 : Int64) (nm a0 : Int32) (l0 : Int64) (hk : k < 4) (hw : wt k = nI w) (hw6 : w ≤ 6) : Met l y_Mo_append [Cond.code y_Mo_append b_Mo_append 8 none] ({ frames := 1, cells := 0, slots := 0, locals := 27 }) (zM [.ref h, .int (nI k), .long t0, .int nm, .int a0, .long l0] D [(h, .inr (13, mO r th si le lv pg pn pl rs)), (r 27, .inl (cI, 4, .inl wt)), (r 30, .inl (cJ, 24, .inr (.inl z.1))), (r 31, .inl (cI, 24, .inl z.2.1)), (r 32, .inl (cZ, 24, .inl z.2.2.1)), (r 33, .inl (cJ, 24, .inr (.inl z.2.2.2)))] [(cI, .int), (cJ, .long), (cZ, .boolean)] sz) (va_Qv (fun (u : OQ × (Nat → Int32)) => u = apU z wt k w t0 nm a0 l0) (fun (u : OQ × (Nat → Int32)) t => zW D (va_A [(h, .inr (13, mO r th si le lv pg pn pl rs)), (r 27, .inl (cI, 4, .inl wt)), (r 30, .inl (cJ, 24, .inr (.inl z.1))), (r 31, .inl (cI, 24, .inl z.2.1)), (r 32, .inl (cZ, 24, .inl z.2.2.1)), (r 33, .inl (cJ, 24, .inr (.inl z.2.2.2)))] sz) [(h, .inr (13, mO r th si le lv pg pn pl rs)), (r 27, .inl (cI, 4, .inl u.2)), (r 30, .inl (cJ, 24, .inr (.inl u.1.1))), (r 31, .inl (cI, 24, .inl u.1.2.1)), (r 32, .inl (cZ, 24, .inl u.1.2.2.1)), (r 33, .inl (cJ, 24, .inr (.inl u.1.2.2.2)))] [(cI, .int), (cJ, .long), (cZ, .boolean)] t) (va_A [(h, .inr (13, mO r th si le lv pg pn pl rs)), (r 27, .inl (cI, 4, .inl wt)), (r 30, .inl (cJ, 24, .inr (.inl z.1))), (r 31, .inl (cI, 24, .inl z.2.1)), (r 32, .inl (cZ, 24, .inl z.2.2.1)), (r 33, .inl (cJ, 24, .inr (.inl z.2.2.2)))] sz)) 0 0 (va_A [(h, .inr (13, mO r th si le lv pg pn pl rs)), (r 27, .inl (cI, 4, .inl wt)), (r 30, .inl (cJ, 24, .inr (.inl z.1))), (r 31, .inl (cI, 24, .inl z.2.1)), (r 32, .inl (cZ, 24, .inl z.2.2.1)), (r 33, .inl (cJ, 24, .inr (.inl z.2.2.2)))] sz) := by
  refine Met.ofW (cc := b_Mo_append) (maxL := 8) (ret := none) (by decide) rfl ?_
  intro p e s m args below meth cd s₁ Bd hml hv
  obtain ⟨rfl, hsz, hP, hK, hN, hD0⟩ := hv
  have hx := Bd.exec
  have hb := Bd.bytes
  have hr := Bd.returns
  have hts := hN.use (a := ([.ref h, .int (nI k), .long t0, .int nm, .int a0, .long l0]).toArray)
  have hown : s.vm.findClass R_Mo = some m.cls := findClass_of_methodNamed Bd.named
  have hlocks := Bd.notSynchronized
  subst hsz
  have hD := hD0.self (sz := s.heap.size)
  clear hD0
  have hA : ∀ q : Nat, s.heap.size ≤ q → va_A [(h, .inr (13, mO r th si le lv pg pn pl rs)), (r 27, .inl (cI, 4, .inl wt)), (r 30, .inl (cJ, 24, .inr (.inl z.1))), (r 31, .inl (cI, 24, .inl z.2.1)), (r 32, .inl (cZ, 24, .inl z.2.2.1)), (r 33, .inl (cJ, 24, .inr (.inl z.2.2.2)))] s.heap.size q := fun q h => Or.inr h
  have hS : va_S (va_A [(h, .inr (13, mO r th si le lv pg pn pl rs)), (r 27, .inl (cI, 4, .inl wt)), (r 30, .inl (cJ, 24, .inr (.inl z.1))), (r 31, .inl (cI, 24, .inl z.2.1)), (r 32, .inl (cZ, 24, .inl z.2.2.1)), (r 33, .inl (cJ, 24, .inr (.inl z.2.2.2)))] s.heap.size) s.heap s.heap [] := va_S.rf
  generalize hAe : va_A [(h, .inr (13, mO r th si le lv pg pn pl rs)), (r 27, .inl (cI, 4, .inl wt)), (r 30, .inl (cJ, 24, .inr (.inl z.1))), (r 31, .inl (cI, 24, .inl z.2.1)), (r 32, .inl (cZ, 24, .inl z.2.2.1)), (r 33, .inl (cJ, 24, .inr (.inl z.2.2.2)))] s.heap.size = A at hD hA hS ⊢
  have hP : va_P D classes [(h, .inr (13, mO r th si le lv pg pn pl rs)), (r 27, .inl (cI, 4, .inl wt)), (r 30, .inl (cJ, 24, .inr (.inl z.1))), (r 31, .inl (cI, 24, .inl z.2.1)), (r 32, .inl (cZ, 24, .inl z.2.2.1)), (r 33, .inl (cJ, 24, .inr (.inl z.2.2.2)))] s.heap := hP
  have hl := lv_entry ([.ref h, .int (nI k), .long t0, .int nm, .int a0, .long l0]) (n := 8) (Nat.le_of_ble_eq_true rfl)
  rw [lg_entry_eq]
  generalize (lg_sl ([.ref h, .int (nI k), .long t0, .int nm, .int a0, .long l0]) ++ List.replicate (8 - (lg_sl ([.ref h, .int (nI k), .long t0, .int nm, .int a0, .long l0])).length) Slot.unset).toArray = ls at hl ⊢
  have hl : lv_has ls 8 [(0, .ref h), (1, .int (nI k)), (2, .long t0), (4, .int nm), (5, .int a0), (6, .long l0)] := hl
  refine lv_aload_n hx hb d_Mo_append_0 rfl (lv_at hl 0 rfl) ?_
  refine va_get (D := D) (ci := 13) (v := .ref (r 27)) (C := R_Mo) (T := F_Mo) (N := 54) hx hb hts i_Mo hown hK hP 0 rfl rfl 27 (by decide) (hts _ wd_1115) (fun _ h9 => h9) rfl d_Mo_append_1 ?_
  refine lv_iload_n hx hb d_Mo_append_4 rfl (lv_at hl 1 rfl) ?_
  refine z_iald hx hb hK hP 1 0 rfl rfl k rfl (by omega) (by omega) d_Mo_append_5 ?_
  refine z_topi (w := nI w) hw ?_
  refine lv_bipush (v := 6) hx hb d_Mo_append_6 (by decide) ?_
  refine lv_icmp_ge (tgt := 43) hx hb d_Mo_append_8 rfl (fun h8 => ?_) (fun h8 => ?_)
  · have h8 := (nI_leI (a := 6) (by omega) (by omega)).mp h8
    have hP9 := hP.sub (ws' := [(h, .inr (13, mO r th si le lv pg pn pl rs)), (r 27, .inl (cI, 4, .inl wt)), (r 30, .inl (cJ, 24, .inr (.inl z.1))), (r 31, .inl (cI, 24, .inl z.2.1)), (r 32, .inl (cZ, 24, .inl z.2.2.1)), (r 33, .inl (cJ, 24, .inr (.inl z.2.2.2)))]) [0, 1, 2, 3, 4, 5] rfl
    have hD9 := hD.sub (ws' := [(h, .inr (13, mO r th si le lv pg pn pl rs)), (r 27, .inl (cI, 4, .inl wt)), (r 30, .inl (cJ, 24, .inr (.inl z.1))), (r 31, .inl (cI, 24, .inl z.2.1)), (r 32, .inl (cZ, 24, .inl z.2.2.1)), (r 33, .inl (cJ, 24, .inr (.inl z.2.2.2)))]) [0, 1, 2, 3, 4, 5] (by decide) rfl
    have hK9 := hK.sub (tys' := [(cI, .int), (cJ, .long), (cZ, .boolean)]) [0, 1, 2] rfl
    exact W.vret hx hb hr (fun t ht hW => ⟨⟨(z, wt), rfl, (by unfold apU; rw [if_neg (by omega)]), ⟨by rw [ht]; exact hP9, va_K.moved hW.alike hK9, hD9⟩⟩, hS.F ht⟩) hS.2.2 d_Mo_append_43
  · have h8 := mt (nI_leI (a := 6) (by omega) (by omega)).mpr h8
    refine lv_aload_n hx hb d_Mo_append_11 rfl (lv_at hl 0 rfl) ?_
    refine lv_bipush (v := 6) hx hb d_Mo_append_12 (by decide) ?_
    refine lv_iload_n hx hb d_Mo_append_14 rfl (lv_at hl 1 rfl) ?_
    refine lv_imul hx hb d_Mo_append_15 ?_
    refine z_topi (w := nI (6 * k)) (pk_mul 6 _) ?_
    refine lv_aload_n hx hb d_Mo_append_16 rfl (lv_at hl 0 rfl) ?_
    refine va_get (D := D) (ci := 13) (v := .ref (r 27)) (C := R_Mo) (T := F_Mo) (N := 54) hx hb hts i_Mo hown hK hP 0 rfl rfl 27 (by decide) (hts _ wd_1115) (fun _ h9 => h9) rfl d_Mo_append_17 ?_
    refine lv_iload_n hx hb d_Mo_append_20 rfl (lv_at hl 1 rfl) ?_
    refine z_iald hx hb hK hP 1 0 rfl rfl k rfl (by omega) (by omega) d_Mo_append_21 ?_
    refine z_topi (w := nI w) hw ?_
    refine lv_iadd hx hb d_Mo_append_22 ?_
    refine z_topi (w := nI (6 * k + w)) (nI_add _ _) ?_
    refine lv_lload_n hx hb d_Mo_append_23 rfl (lv_at hl 2 rfl) ?_
    refine lv_iload hx hb d_Mo_append_24 (lv_at hl 3 rfl) ?_
    refine lv_iload hx hb d_Mo_append_26 (lv_at hl 4 rfl) ?_
    refine lv_lload hx hb d_Mo_append_28 (lv_at hl 5 rfl) ?_
    have hPc := hP.sub (ws' := [(h, .inr (13, mO r th si le lv pg pn pl rs)), (r 30, .inl (cJ, 24, .inr (.inl z.1))), (r 31, .inl (cI, 24, .inl z.2.1)), (r 32, .inl (cZ, 24, .inl z.2.2.1)), (r 33, .inl (cJ, 24, .inr (.inl z.2.2.2)))]) [0, 2, 3, 4, 5] rfl
    have hKc := hK.sub (tys' := [(cI, .int), (cJ, .long), (cZ, .boolean)]) [0, 1, 2] rfl
    have hDc := hD.sub (ws' := [(h, .inr (13, mO r th si le lv pg pn pl rs)), (r 30, .inl (cJ, 24, .inr (.inl z.1))), (r 31, .inl (cI, 24, .inl z.2.1)), (r 32, .inl (cZ, 24, .inl z.2.2.1)), (r 33, .inl (cJ, 24, .inr (.inl z.2.2.2)))]) [0, 2, 3, 4, 5] (by decide) rfl
    have hFc := va_free (wc := [(h, .inr (13, mO r th si le lv pg pn pl rs)), (r 30, .inl (cJ, 24, .inr (.inl z.1))), (r 31, .inl (cI, 24, .inl z.2.1)), (r 32, .inl (cZ, 24, .inl z.2.2.1)), (r 33, .inl (cJ, 24, .inr (.inl z.2.2.2)))]) hD hS hA [0, 2, 3, 4, 5] rfl
    refine va_callv (va_runV (As := [.int (nI (6 * k + w)), .long t0, .int nm, .int a0, .long l0]) (rest := []) ⟨hx, hb, hml, hown, hts⟩ (c_Mo_setOrder l D s.heap.size cI h r th si le lv pg pn pl rs cJ cZ z (6 * k + w) t0 nm a0 l0 (by omega)) (z_cV hN wd_1348 wd_67 wd_1345 hd_Mo_setOrder rfl rfl ⟨Nat.le_of_ble_eq_true rfl, Nat.le_of_ble_eq_true rfl⟩ wd_1347 wd_41) (z_preVm (va_recv (ci := 13) (q0 := 0) hK hP rfl rfl) hPc hKc hN hDc) rfl rfl hl.1 rfl (lv_room (Nat.le_of_ble_eq_true rfl)) d_Mo_append_30 ⟨Nat.le_of_ble_eq_true rfl, Nat.le_of_ble_eq_true rfl⟩) hS (fun q _ h => hFc q h) hFc (fun z1 t H locs ht hvm e30 hB hz1 hk1 hS => ?_)
    obtain ⟨hP1, hK1, hD1⟩ := hB
    rw [ht] at hP1
    obtain ⟨hP, hD⟩ := va_join (wr := [(r 27, .inl (cI, 4, .inl wt))]) (w1 := [(h, .inr (13, mO r th si le lv pg pn pl rs)), (r 30, .inl (cJ, 24, .inr (.inl z1.1))), (r 31, .inl (cI, 24, .inl z1.2.1)), (r 32, .inl (cZ, 24, .inl z1.2.2.1)), (r 33, .inl (cJ, 24, .inr (.inl z1.2.2.2)))]) hP hD [0, 2, 3, 4, 5] [1] rfl rfl (by decide) (by decide) hk1 hFc hP1 hD1
    clear hk1 hP1 hD1 hFc hPc hDc hz1
    have hP : va_P D classes [(r 27, .inl (cI, 4, .inl wt)), (h, .inr (13, mO r th si le lv pg pn pl rs)), (r 30, .inl (cJ, 24, .inr (.inl z1.1))), (r 31, .inl (cI, 24, .inl z1.2.1)), (r 32, .inl (cZ, 24, .inl z1.2.2.1)), (r 33, .inl (cJ, 24, .inr (.inl z1.2.2.2)))] H := hP
    have hD : va_D A [(r 27, .inl (cI, 4, .inl wt)), (h, .inr (13, mO r th si le lv pg pn pl rs)), (r 30, .inl (cJ, 24, .inr (.inl z1.1))), (r 31, .inl (cI, 24, .inl z1.2.1)), (r 32, .inl (cZ, 24, .inl z1.2.2.1)), (r 33, .inl (cJ, 24, .inr (.inl z1.2.2.2)))] := hD
    refine lv_aload_n hx hb d_Mo_append_33 rfl (lv_at hl 0 rfl) ?_
    refine va_get (D := D) (ci := 13) (v := .ref (r 27)) (C := R_Mo) (T := F_Mo) (N := 54) hx hb hts i_Mo hown hK hP 1 rfl rfl 27 (by decide) (hts _ wd_1115) (fun _ h9 => h9) rfl d_Mo_append_34 ?_
    refine lv_iload_n hx hb d_Mo_append_37 rfl (lv_at hl 1 rfl) ?_
    refine lv_dup2_11 hx hb d_Mo_append_38 rfl rfl ?_
    refine z_iald hx hb hK hP 0 0 rfl rfl k rfl (by omega) (by omega) d_Mo_append_39 ?_
    refine z_topi (w := nI w) hw ?_
    refine lv_iconst (v := 1) hx hb d_Mo_append_40 (by decide) ?_
    refine lv_iadd hx hb d_Mo_append_41 ?_
    refine z_topi (w := nI (w + 1)) (nI_1 w) ?_
    refine z_iast hx hb hK hP hD hS 0 0 rfl rfl k rfl (by omega) (by omega) d_Mo_append_42 (fun H locs hP hD hS => ?_)
    have hP : va_P D classes [(r 27, .inl (cI, 4, .inl (upd wt k (nI (w + 1))))), (h, .inr (13, mO r th si le lv pg pn pl rs)), (r 30, .inl (cJ, 24, .inr (.inl z1.1))), (r 31, .inl (cI, 24, .inl z1.2.1)), (r 32, .inl (cZ, 24, .inl z1.2.2.1)), (r 33, .inl (cJ, 24, .inr (.inl z1.2.2.2)))] H := hP
    have hD : va_D A [(r 27, .inl (cI, 4, .inl (upd wt k (nI (w + 1))))), (h, .inr (13, mO r th si le lv pg pn pl rs)), (r 30, .inl (cJ, 24, .inr (.inl z1.1))), (r 31, .inl (cI, 24, .inl z1.2.1)), (r 32, .inl (cZ, 24, .inl z1.2.2.1)), (r 33, .inl (cJ, 24, .inr (.inl z1.2.2.2)))] := hD
    have hP9 := hP.sub (ws' := [(h, .inr (13, mO r th si le lv pg pn pl rs)), (r 27, .inl (cI, 4, .inl (upd wt k (nI (w + 1))))), (r 30, .inl (cJ, 24, .inr (.inl z1.1))), (r 31, .inl (cI, 24, .inl z1.2.1)), (r 32, .inl (cZ, 24, .inl z1.2.2.1)), (r 33, .inl (cJ, 24, .inr (.inl z1.2.2.2)))]) [1, 0, 2, 3, 4, 5] rfl
    have hD9 := hD.sub (ws' := [(h, .inr (13, mO r th si le lv pg pn pl rs)), (r 27, .inl (cI, 4, .inl (upd wt k (nI (w + 1))))), (r 30, .inl (cJ, 24, .inr (.inl z1.1))), (r 31, .inl (cI, 24, .inl z1.2.1)), (r 32, .inl (cZ, 24, .inl z1.2.2.1)), (r 33, .inl (cJ, 24, .inr (.inl z1.2.2.2)))]) [1, 0, 2, 3, 4, 5] (by decide) rfl
    have hK9 := hK.sub (tys' := [(cI, .int), (cJ, .long), (cZ, .boolean)]) [0, 1, 2] rfl
    exact W.vret hx hb hr (fun t ht hW => ⟨⟨(z1, upd wt k (nI (w + 1))), rfl, (by unfold apU; rw [if_pos (by omega), e30]), ⟨by rw [ht]; exact hP9, va_K.moved hW.alike hK9, hD9⟩⟩, hS.F ht⟩) hS.2.2 d_Mo_append_43
set_option maxHeartbeats 4000000 in
set_option maxRecDepth 100000 in
theorem c_Mo_await0 (l : Launch) (D : va_G) (sz : Nat) (cI : ClassId) (h : Nat) (r : Nat → Nat) (th si le lv pg pn pl rs : Int32) (cJ cZ : ClassId) (z : OQ) (wt : Nat → Int32) (k w : Nat) (t0 : Int64) (nm a0 : Int32) (l0 : Int64) (hk : k < 4) (hw : wt k = nI w) (hw6 : w ≤ 6) : Met l y_Mo_await0 [Cond.code y_Mo_await0 b_Mo_await0 9 none] ({ frames := 2, cells := 0, slots := 0, locals := 54 }) (zM [.ref h, .int (nI k), .long t0, .int nm, .int a0, .long l0] D [(h, .inr (13, mO r th si le lv pg pn pl rs)), (r 27, .inl (cI, 4, .inl wt)), (r 30, .inl (cJ, 24, .inr (.inl z.1))), (r 31, .inl (cI, 24, .inl z.2.1)), (r 32, .inl (cZ, 24, .inl z.2.2.1)), (r 33, .inl (cJ, 24, .inr (.inl z.2.2.2)))] [(cI, .int), (cJ, .long), (cZ, .boolean)] sz) (va_Qv (fun (u : OQ × (Nat → Int32)) => u = awU z wt k w t0 nm a0 l0) (fun (u : OQ × (Nat → Int32)) t => zW D (va_A [(h, .inr (13, mO r th si le lv pg pn pl rs)), (r 27, .inl (cI, 4, .inl wt)), (r 30, .inl (cJ, 24, .inr (.inl z.1))), (r 31, .inl (cI, 24, .inl z.2.1)), (r 32, .inl (cZ, 24, .inl z.2.2.1)), (r 33, .inl (cJ, 24, .inr (.inl z.2.2.2)))] sz) [(h, .inr (13, mO r th si le lv pg pn pl rs)), (r 27, .inl (cI, 4, .inl u.2)), (r 30, .inl (cJ, 24, .inr (.inl u.1.1))), (r 31, .inl (cI, 24, .inl u.1.2.1)), (r 32, .inl (cZ, 24, .inl u.1.2.2.1)), (r 33, .inl (cJ, 24, .inr (.inl u.1.2.2.2)))] [(cI, .int), (cJ, .long), (cZ, .boolean)] t) (va_A [(h, .inr (13, mO r th si le lv pg pn pl rs)), (r 27, .inl (cI, 4, .inl wt)), (r 30, .inl (cJ, 24, .inr (.inl z.1))), (r 31, .inl (cI, 24, .inl z.2.1)), (r 32, .inl (cZ, 24, .inl z.2.2.1)), (r 33, .inl (cJ, 24, .inr (.inl z.2.2.2)))] sz)) 0 0 (va_A [(h, .inr (13, mO r th si le lv pg pn pl rs)), (r 27, .inl (cI, 4, .inl wt)), (r 30, .inl (cJ, 24, .inr (.inl z.1))), (r 31, .inl (cI, 24, .inl z.2.1)), (r 32, .inl (cZ, 24, .inl z.2.2.1)), (r 33, .inl (cJ, 24, .inr (.inl z.2.2.2)))] sz) := by
  refine Met.ofW (cc := b_Mo_await0) (maxL := 9) (ret := none) (by decide) rfl ?_
  intro p e s m args below meth cd s₁ Bd hml hv
  obtain ⟨rfl, hsz, hP, hK, hN, hD0⟩ := hv
  have hx := Bd.exec
  have hb := Bd.bytes
  have hr := Bd.returns
  have hts := hN.use (a := ([.ref h, .int (nI k), .long t0, .int nm, .int a0, .long l0]).toArray)
  have hown : s.vm.findClass R_Mo = some m.cls := findClass_of_methodNamed Bd.named
  have hlocks := Bd.notSynchronized
  subst hsz
  have hD := hD0.self (sz := s.heap.size)
  clear hD0
  have hA : ∀ q : Nat, s.heap.size ≤ q → va_A [(h, .inr (13, mO r th si le lv pg pn pl rs)), (r 27, .inl (cI, 4, .inl wt)), (r 30, .inl (cJ, 24, .inr (.inl z.1))), (r 31, .inl (cI, 24, .inl z.2.1)), (r 32, .inl (cZ, 24, .inl z.2.2.1)), (r 33, .inl (cJ, 24, .inr (.inl z.2.2.2)))] s.heap.size q := fun q h => Or.inr h
  have hS : va_S (va_A [(h, .inr (13, mO r th si le lv pg pn pl rs)), (r 27, .inl (cI, 4, .inl wt)), (r 30, .inl (cJ, 24, .inr (.inl z.1))), (r 31, .inl (cI, 24, .inl z.2.1)), (r 32, .inl (cZ, 24, .inl z.2.2.1)), (r 33, .inl (cJ, 24, .inr (.inl z.2.2.2)))] s.heap.size) s.heap s.heap [] := va_S.rf
  generalize hAe : va_A [(h, .inr (13, mO r th si le lv pg pn pl rs)), (r 27, .inl (cI, 4, .inl wt)), (r 30, .inl (cJ, 24, .inr (.inl z.1))), (r 31, .inl (cI, 24, .inl z.2.1)), (r 32, .inl (cZ, 24, .inl z.2.2.1)), (r 33, .inl (cJ, 24, .inr (.inl z.2.2.2)))] s.heap.size = A at hD hA hS ⊢
  have hP : va_P D classes [(h, .inr (13, mO r th si le lv pg pn pl rs)), (r 27, .inl (cI, 4, .inl wt)), (r 30, .inl (cJ, 24, .inr (.inl z.1))), (r 31, .inl (cI, 24, .inl z.2.1)), (r 32, .inl (cZ, 24, .inl z.2.2.1)), (r 33, .inl (cJ, 24, .inr (.inl z.2.2.2)))] s.heap := hP
  have hl := lv_entry ([.ref h, .int (nI k), .long t0, .int nm, .int a0, .long l0]) (n := 9) (Nat.le_of_ble_eq_true rfl)
  rw [lg_entry_eq]
  generalize (lg_sl ([.ref h, .int (nI k), .long t0, .int nm, .int a0, .long l0]) ++ List.replicate (9 - (lg_sl ([.ref h, .int (nI k), .long t0, .int nm, .int a0, .long l0])).length) Slot.unset).toArray = ls at hl ⊢
  have hl : lv_has ls 9 [(0, .ref h), (1, .int (nI k)), (2, .long t0), (4, .int nm), (5, .int a0), (6, .long l0)] := hl
  refine lv_iconst (v := 0) hx hb d_Mo_await0_0 (by decide) ?_
  refine lv_istore (lv' := [(8, .int 0), (0, .ref h), (1, .int (nI k)), (2, .long t0), (4, .int nm), (5, .int a0), (6, .long l0)]) hx hb d_Mo_await0_1 hl (by decide) rfl (fun ls hl => ?_)
  have loop3 : ∀ (N : Nat) (j : Nat) (H : Heap) (locs : List Loc) (ls : Array Slot) (hm : w - j < N) (hj : j ≤ w) (hs : onG z.2.1 nm k w (w - j) = onG z.2.1 nm k w w) (hl : lv_has ls 9 [(0, .ref h), (1, .int (nI k)), (2, .long t0), (4, .int nm), (5, .int a0), (6, .long l0), (8, .int (nI j))]) (hP : va_P D classes [(h, .inr (13, mO r th si le lv pg pn pl rs)), (r 27, .inl (cI, 4, .inl wt)), (r 30, .inl (cJ, 24, .inr (.inl z.1))), (r 31, .inl (cI, 24, .inl z.2.1)), (r 32, .inl (cZ, 24, .inl z.2.2.1)), (r 33, .inl (cJ, 24, .inr (.inl z.2.2.2)))] H) (hD : va_D A [(h, .inr (13, mO r th si le lv pg pn pl rs)), (r 27, .inl (cI, 4, .inl wt)), (r 30, .inl (cJ, 24, .inr (.inl z.1))), (r 31, .inl (cI, 24, .inl z.2.1)), (r 32, .inl (cZ, 24, .inl z.2.2.1)), (r 33, .inl (cJ, 24, .inr (.inl z.2.2.2)))]) (hS : va_S A s.heap H locs), W p l e ({ frames := 2, cells := 0, slots := 0, locals := 54 }) s m ([.ref h, .int (nI k), .long t0, .int nm, .int a0, .long l0]).toArray below meth cd H locs 0 0 (MQ below (va_Qv (fun (u : OQ × (Nat → Int32)) => u = awU z wt k w t0 nm a0 l0) (fun (u : OQ × (Nat → Int32)) t => zW D (A) [(h, .inr (13, mO r th si le lv pg pn pl rs)), (r 27, .inl (cI, 4, .inl u.2)), (r 30, .inl (cJ, 24, .inr (.inl u.1.1))), (r 31, .inl (cI, 24, .inl u.1.2.1)), (r 32, .inl (cZ, 24, .inl u.1.2.2.1)), (r 33, .inl (cJ, 24, .inr (.inl u.1.2.2.2)))] [(cI, .int), (cJ, .long), (cZ, .boolean)] t) (A)) ([.ref h, .int (nI k), .long t0, .int nm, .int a0, .long l0]).toArray s 0 0 (A)) (F0 m 3 ls []) := by
    intro N3
    induction N3 with
    | zero => intro j H locs ls hm hj hs hl hP hD hS; exact absurd hm (Nat.not_lt_zero _)
    | succ N3 ih3 =>
      intro j H locs ls hm hj hs hl hP hD hS
      refine lv_iload hx hb d_Mo_await0_3 (lv_at hl 6 rfl) ?_
      refine lv_aload_n hx hb d_Mo_await0_5 rfl (lv_at hl 0 rfl) ?_
      refine va_get (D := D) (ci := 13) (v := .ref (r 27)) (C := R_Mo) (T := F_Mo) (N := 54) hx hb hts i_Mo hown hK hP 0 rfl rfl 27 (by decide) (hts _ wd_1115) (fun _ h9 => h9) rfl d_Mo_await0_6 ?_
      refine lv_iload_n hx hb d_Mo_await0_9 rfl (lv_at hl 1 rfl) ?_
      refine z_iald hx hb hK hP 1 0 rfl rfl k rfl (by omega) (by omega) d_Mo_await0_10 ?_
      refine z_topi (w := nI w) hw ?_
      refine lv_icmp_ge (tgt := 56) hx hb d_Mo_await0_11 rfl (fun h11 => ?_) (fun h11 => ?_)
      · have h11 := (nI_leI (by omega) (by omega)).mp h11
        have hj0 : w - j = 0 := by omega
        have hno : ¬ onG z.2.1 nm k w w < w := by rw [← hs, hj0]; exact Nat.lt_irrefl _
        refine lv_aload_n hx hb d_Mo_await0_56 rfl (lv_at hl 0 rfl) ?_
        refine lv_iload_n hx hb d_Mo_await0_57 rfl (lv_at hl 1 rfl) ?_
        refine lv_lload_n hx hb d_Mo_await0_58 rfl (lv_at hl 2 rfl) ?_
        refine lv_iload hx hb d_Mo_await0_59 (lv_at hl 3 rfl) ?_
        refine lv_iload hx hb d_Mo_await0_61 (lv_at hl 4 rfl) ?_
        refine lv_lload hx hb d_Mo_await0_63 (lv_at hl 5 rfl) ?_
        have hPc := hP.sub (ws' := [(h, .inr (13, mO r th si le lv pg pn pl rs)), (r 27, .inl (cI, 4, .inl wt)), (r 30, .inl (cJ, 24, .inr (.inl z.1))), (r 31, .inl (cI, 24, .inl z.2.1)), (r 32, .inl (cZ, 24, .inl z.2.2.1)), (r 33, .inl (cJ, 24, .inr (.inl z.2.2.2)))]) [0, 1, 2, 3, 4, 5] rfl
        have hKc := hK.sub (tys' := [(cI, .int), (cJ, .long), (cZ, .boolean)]) [0, 1, 2] rfl
        have hDc := hD.sub (ws' := [(h, .inr (13, mO r th si le lv pg pn pl rs)), (r 27, .inl (cI, 4, .inl wt)), (r 30, .inl (cJ, 24, .inr (.inl z.1))), (r 31, .inl (cI, 24, .inl z.2.1)), (r 32, .inl (cZ, 24, .inl z.2.2.1)), (r 33, .inl (cJ, 24, .inr (.inl z.2.2.2)))]) [0, 1, 2, 3, 4, 5] (by decide) rfl
        have hFc := va_free (wc := [(h, .inr (13, mO r th si le lv pg pn pl rs)), (r 27, .inl (cI, 4, .inl wt)), (r 30, .inl (cJ, 24, .inr (.inl z.1))), (r 31, .inl (cI, 24, .inl z.2.1)), (r 32, .inl (cZ, 24, .inl z.2.2.1)), (r 33, .inl (cJ, 24, .inr (.inl z.2.2.2)))]) hD hS hA [0, 1, 2, 3, 4, 5] rfl
        refine va_callv (va_runV (As := [.int (nI k), .long t0, .int nm, .int a0, .long l0]) (rest := []) ⟨hx, hb, hml, hown, hts⟩ (c_Mo_append l D H.size cI h r th si le lv pg pn pl rs cJ cZ z wt k w t0 nm a0 l0 hk hw hw6) (z_cV hN wd_1344 wd_67 wd_1341 hd_Mo_append rfl rfl ⟨Nat.le_of_ble_eq_true rfl, Nat.le_of_ble_eq_true rfl⟩ wd_1343 wd_40) (z_preVm (va_recv (ci := 13) (q0 := 0) hK hP rfl rfl) hPc hKc hN hDc) rfl rfl hl.1 rfl (lv_room (Nat.le_of_ble_eq_true rfl)) d_Mo_await0_65 ⟨Nat.le_of_ble_eq_true rfl, Nat.le_of_ble_eq_true rfl⟩) hS (fun q _ h => hFc q h) hFc (fun y65 t H locs ht hvm e65 hB hz1 hk1 hS => ?_)
        obtain ⟨hP1, hK1, hD1⟩ := hB
        rw [ht] at hP1
        obtain ⟨hP, hD⟩ := va_join (wr := []) (w1 := [(h, .inr (13, mO r th si le lv pg pn pl rs)), (r 27, .inl (cI, 4, .inl y65.2)), (r 30, .inl (cJ, 24, .inr (.inl y65.1.1))), (r 31, .inl (cI, 24, .inl y65.1.2.1)), (r 32, .inl (cZ, 24, .inl y65.1.2.2.1)), (r 33, .inl (cJ, 24, .inr (.inl y65.1.2.2.2)))]) hP hD [0, 1, 2, 3, 4, 5] [] rfl rfl (by decide) (by decide) hk1 hFc hP1 hD1
        clear hk1 hP1 hD1 hFc hPc hDc hz1
        have hP : va_P D classes [(h, .inr (13, mO r th si le lv pg pn pl rs)), (r 27, .inl (cI, 4, .inl y65.2)), (r 30, .inl (cJ, 24, .inr (.inl y65.1.1))), (r 31, .inl (cI, 24, .inl y65.1.2.1)), (r 32, .inl (cZ, 24, .inl y65.1.2.2.1)), (r 33, .inl (cJ, 24, .inr (.inl y65.1.2.2.2)))] H := hP
        have hD : va_D A [(h, .inr (13, mO r th si le lv pg pn pl rs)), (r 27, .inl (cI, 4, .inl y65.2)), (r 30, .inl (cJ, 24, .inr (.inl y65.1.1))), (r 31, .inl (cI, 24, .inl y65.1.2.1)), (r 32, .inl (cZ, 24, .inl y65.1.2.2.1)), (r 33, .inl (cJ, 24, .inr (.inl y65.1.2.2.2)))] := hD
        have hP9 := hP.sub (ws' := [(h, .inr (13, mO r th si le lv pg pn pl rs)), (r 27, .inl (cI, 4, .inl y65.2)), (r 30, .inl (cJ, 24, .inr (.inl y65.1.1))), (r 31, .inl (cI, 24, .inl y65.1.2.1)), (r 32, .inl (cZ, 24, .inl y65.1.2.2.1)), (r 33, .inl (cJ, 24, .inr (.inl y65.1.2.2.2)))]) [0, 1, 2, 3, 4, 5] rfl
        have hD9 := hD.sub (ws' := [(h, .inr (13, mO r th si le lv pg pn pl rs)), (r 27, .inl (cI, 4, .inl y65.2)), (r 30, .inl (cJ, 24, .inr (.inl y65.1.1))), (r 31, .inl (cI, 24, .inl y65.1.2.1)), (r 32, .inl (cZ, 24, .inl y65.1.2.2.1)), (r 33, .inl (cJ, 24, .inr (.inl y65.1.2.2.2)))]) [0, 1, 2, 3, 4, 5] (by decide) rfl
        have hK9 := hK.sub (tys' := [(cI, .int), (cJ, .long), (cZ, .boolean)]) [0, 1, 2] rfl
        exact W.vret hx hb hr (fun t ht hW => ⟨⟨y65, rfl, (by unfold awU; rw [if_neg hno]; exact e65), ⟨by rw [ht]; exact hP9, va_K.moved hW.alike hK9, hD9⟩⟩, hS.F ht⟩) hS.2.2 d_Mo_await0_68
      · have h11 := mt (nI_leI (by omega) (by omega)).mpr h11
        refine lv_aload_n hx hb d_Mo_await0_14 rfl (lv_at hl 0 rfl) ?_
        refine va_get (D := D) (ci := 13) (v := .ref (r 31)) (C := R_Mo) (T := F_Mo) (N := 54) hx hb hts i_Mo hown hK hP 0 rfl rfl 31 (by decide) (hts _ wd_1119) (fun _ h9 => h9) rfl d_Mo_await0_15 ?_
        refine lv_bipush (v := 6) hx hb d_Mo_await0_18 (by decide) ?_
        refine lv_iload_n hx hb d_Mo_await0_20 rfl (lv_at hl 1 rfl) ?_
        refine lv_imul hx hb d_Mo_await0_21 ?_
        refine z_topi (w := nI (6 * k)) (pk_mul 6 _) ?_
        refine lv_iload hx hb d_Mo_await0_22 (lv_at hl 6 rfl) ?_
        refine lv_iadd hx hb d_Mo_await0_24 ?_
        refine z_topi (w := nI (6 * k + j)) (nI_add _ _) ?_
        refine z_iald hx hb hK hP 3 0 rfl rfl (6 * k + j) rfl (by omega) (by omega) d_Mo_await0_25 ?_
        refine lv_iload hx hb d_Mo_await0_26 (lv_at hl 3 rfl) ?_
        refine lv_icmp_ne (tgt := 50) hx hb d_Mo_await0_28 rfl (fun h28 => ?_) (fun h28 => ?_)
        · refine lv_iinc (k := 6) (v := nI (j + 1)) (lv' := [(8, .int (nI (j + 1))), (0, .ref h), (1, .int (nI k)), (2, .long t0), (4, .int nm), (5, .int a0), (6, .long l0)]) hx hb d_Mo_await0_50 hl rfl (nI_1 j) (by decide) rfl (fun ls hl => ?_)
          refine lv_goto (tgt := 3) hx hb d_Mo_await0_53 rfl ?_
          exact ih3 (j + 1) H locs ls (by omega) (by omega) (by rw [onG_at (by omega), if_neg h28] at hs; exact hs) (lv_sub hl [1, 2, 3, 4, 5, 6, 0] rfl) hP hD hS
        · have hs : j = onG z.2.1 nm k w w := by rw [onG_at (by omega), if_pos h28] at hs; exact hs
          refine lv_aload_n hx hb d_Mo_await0_31 rfl (lv_at hl 0 rfl) ?_
          refine lv_bipush (v := 6) hx hb d_Mo_await0_32 (by decide) ?_
          refine lv_iload_n hx hb d_Mo_await0_34 rfl (lv_at hl 1 rfl) ?_
          refine lv_imul hx hb d_Mo_await0_35 ?_
          refine z_topi (w := nI (6 * k)) (pk_mul 6 _) ?_
          refine lv_iload hx hb d_Mo_await0_36 (lv_at hl 6 rfl) ?_
          refine lv_iadd hx hb d_Mo_await0_38 ?_
          refine z_topi (w := nI (6 * k + j)) (nI_add _ _) ?_
          refine lv_lload_n hx hb d_Mo_await0_39 rfl (lv_at hl 2 rfl) ?_
          refine lv_iload hx hb d_Mo_await0_40 (lv_at hl 3 rfl) ?_
          refine lv_iload hx hb d_Mo_await0_42 (lv_at hl 4 rfl) ?_
          refine lv_lload hx hb d_Mo_await0_44 (lv_at hl 5 rfl) ?_
          have hPc := hP.sub (ws' := [(h, .inr (13, mO r th si le lv pg pn pl rs)), (r 30, .inl (cJ, 24, .inr (.inl z.1))), (r 31, .inl (cI, 24, .inl z.2.1)), (r 32, .inl (cZ, 24, .inl z.2.2.1)), (r 33, .inl (cJ, 24, .inr (.inl z.2.2.2)))]) [0, 2, 3, 4, 5] rfl
          have hKc := hK.sub (tys' := [(cI, .int), (cJ, .long), (cZ, .boolean)]) [0, 1, 2] rfl
          have hDc := hD.sub (ws' := [(h, .inr (13, mO r th si le lv pg pn pl rs)), (r 30, .inl (cJ, 24, .inr (.inl z.1))), (r 31, .inl (cI, 24, .inl z.2.1)), (r 32, .inl (cZ, 24, .inl z.2.2.1)), (r 33, .inl (cJ, 24, .inr (.inl z.2.2.2)))]) [0, 2, 3, 4, 5] (by decide) rfl
          have hFc := va_free (wc := [(h, .inr (13, mO r th si le lv pg pn pl rs)), (r 30, .inl (cJ, 24, .inr (.inl z.1))), (r 31, .inl (cI, 24, .inl z.2.1)), (r 32, .inl (cZ, 24, .inl z.2.2.1)), (r 33, .inl (cJ, 24, .inr (.inl z.2.2.2)))]) hD hS hA [0, 2, 3, 4, 5] rfl
          refine va_callv (va_runV (As := [.int (nI (6 * k + j)), .long t0, .int nm, .int a0, .long l0]) (rest := []) ⟨hx, hb, hml, hown, hts⟩ (c_Mo_setOrder l D H.size cI h r th si le lv pg pn pl rs cJ cZ z (6 * k + j) t0 nm a0 l0 (by omega)) (z_cV hN wd_1348 wd_67 wd_1345 hd_Mo_setOrder rfl rfl ⟨Nat.le_of_ble_eq_true rfl, Nat.le_of_ble_eq_true rfl⟩ wd_1347 wd_41) (z_preVm (va_recv (ci := 13) (q0 := 0) hK hP rfl rfl) hPc hKc hN hDc) rfl rfl hl.1 rfl (lv_room (Nat.le_of_ble_eq_true rfl)) d_Mo_await0_46 ⟨Nat.le_of_ble_eq_true rfl, Nat.le_of_ble_eq_true rfl⟩) hS (fun q _ h => hFc q h) hFc (fun z1 t H locs ht hvm e46 hB hz1 hk1 hS => ?_)
          obtain ⟨hP1, hK1, hD1⟩ := hB
          rw [ht] at hP1
          obtain ⟨hP, hD⟩ := va_join (wr := [(r 27, .inl (cI, 4, .inl wt))]) (w1 := [(h, .inr (13, mO r th si le lv pg pn pl rs)), (r 30, .inl (cJ, 24, .inr (.inl z1.1))), (r 31, .inl (cI, 24, .inl z1.2.1)), (r 32, .inl (cZ, 24, .inl z1.2.2.1)), (r 33, .inl (cJ, 24, .inr (.inl z1.2.2.2)))]) hP hD [0, 2, 3, 4, 5] [1] rfl rfl (by decide) (by decide) hk1 hFc hP1 hD1
          clear hk1 hP1 hD1 hFc hPc hDc hz1
          have hP : va_P D classes [(r 27, .inl (cI, 4, .inl wt)), (h, .inr (13, mO r th si le lv pg pn pl rs)), (r 30, .inl (cJ, 24, .inr (.inl z1.1))), (r 31, .inl (cI, 24, .inl z1.2.1)), (r 32, .inl (cZ, 24, .inl z1.2.2.1)), (r 33, .inl (cJ, 24, .inr (.inl z1.2.2.2)))] H := hP
          have hD : va_D A [(r 27, .inl (cI, 4, .inl wt)), (h, .inr (13, mO r th si le lv pg pn pl rs)), (r 30, .inl (cJ, 24, .inr (.inl z1.1))), (r 31, .inl (cI, 24, .inl z1.2.1)), (r 32, .inl (cZ, 24, .inl z1.2.2.1)), (r 33, .inl (cJ, 24, .inr (.inl z1.2.2.2)))] := hD
          have hP9 := hP.sub (ws' := [(h, .inr (13, mO r th si le lv pg pn pl rs)), (r 27, .inl (cI, 4, .inl wt)), (r 30, .inl (cJ, 24, .inr (.inl z1.1))), (r 31, .inl (cI, 24, .inl z1.2.1)), (r 32, .inl (cZ, 24, .inl z1.2.2.1)), (r 33, .inl (cJ, 24, .inr (.inl z1.2.2.2)))]) [1, 0, 2, 3, 4, 5] rfl
          have hD9 := hD.sub (ws' := [(h, .inr (13, mO r th si le lv pg pn pl rs)), (r 27, .inl (cI, 4, .inl wt)), (r 30, .inl (cJ, 24, .inr (.inl z1.1))), (r 31, .inl (cI, 24, .inl z1.2.1)), (r 32, .inl (cZ, 24, .inl z1.2.2.1)), (r 33, .inl (cJ, 24, .inr (.inl z1.2.2.2)))]) [1, 0, 2, 3, 4, 5] (by decide) rfl
          have hK9 := hK.sub (tys' := [(cI, .int), (cJ, .long), (cZ, .boolean)]) [0, 1, 2] rfl
          exact W.vret hx hb hr (fun t ht hW => ⟨⟨(z1, wt), rfl, (by unfold awU; rw [← hs, if_pos (by omega), e46]), ⟨by rw [ht]; exact hP9, va_K.moved hW.alike hK9, hD9⟩⟩, hS.F ht⟩) hS.2.2 d_Mo_await0_49
  exact loop3 _ 0 s.heap [] ls (Nat.lt_succ_self _) (Nat.zero_le _) rfl (lv_sub hl [1, 2, 3, 4, 5, 6, 0] rfl) hP hD hS
set_option maxHeartbeats 4000000 in
set_option maxRecDepth 100000 in
theorem c_Mo_obeysOne (l : Launch) (D : va_G) (sz : Nat) (cI : ClassId) (h : Nat) (r : Nat → Nat) (th si le lv pg pn pl rs : Int32) (cJ cZ : ClassId) (z : OQ) (wt aw : Nat → Int32) (nw : Nat → Int64) (k w : Nat) (hk : k < 4) (hw : wt k = nI w) (hw6 : w ≤ 6) : Met l y_Mo_obeysOne [Cond.code y_Mo_obeysOne b_Mo_obeysOne 11 (some .boolean)] ({ frames := 2, cells := 0, slots := 0, locals := 54 }) (zM [.ref h, .int (nI k)] D [(h, .inr (13, mO r th si le lv pg pn pl rs)), (r 25, .inl (cZ, 4, .inl aw)), (r 26, .inl (cJ, 4, .inr (.inl nw))), (r 27, .inl (cI, 4, .inl wt)), (r 30, .inl (cJ, 24, .inr (.inl z.1))), (r 31, .inl (cI, 24, .inl z.2.1)), (r 32, .inl (cZ, 24, .inl z.2.2.1)), (r 33, .inl (cJ, 24, .inr (.inl z.2.2.2)))] [(cI, .int), (cJ, .long), (cZ, .boolean)] sz) (va_Qi (fun r0 (u : (OQ × (Nat → Int32)) × (Nat → Int32)) => (r0 = 0 ∧ u = ((z, wt), aw) ∧ ∀ x, x < w → ¬ dueV (nw k) (z.1 (6 * k + x)) < 4294967296) ∨ (∃ j9, j9 < w ∧ (∀ x, x < j9 → ¬ dueV (nw k) (z.1 (6 * k + x)) < 4294967296) ∧ dueV (nw k) (z.1 (6 * k + j9)) < 4294967296 ∧ r0 = 1 ∧ u = obY z wt aw k w j9)) (fun (u : (OQ × (Nat → Int32)) × (Nat → Int32)) t => zW D (va_A [(h, .inr (13, mO r th si le lv pg pn pl rs)), (r 25, .inl (cZ, 4, .inl aw)), (r 26, .inl (cJ, 4, .inr (.inl nw))), (r 27, .inl (cI, 4, .inl wt)), (r 30, .inl (cJ, 24, .inr (.inl z.1))), (r 31, .inl (cI, 24, .inl z.2.1)), (r 32, .inl (cZ, 24, .inl z.2.2.1)), (r 33, .inl (cJ, 24, .inr (.inl z.2.2.2)))] sz) [(h, .inr (13, mO r th si le lv pg pn pl rs)), (r 25, .inl (cZ, 4, .inl u.2)), (r 26, .inl (cJ, 4, .inr (.inl nw))), (r 27, .inl (cI, 4, .inl u.1.2)), (r 30, .inl (cJ, 24, .inr (.inl u.1.1.1))), (r 31, .inl (cI, 24, .inl u.1.1.2.1)), (r 32, .inl (cZ, 24, .inl u.1.1.2.2.1)), (r 33, .inl (cJ, 24, .inr (.inl u.1.1.2.2.2)))] [(cI, .int), (cJ, .long), (cZ, .boolean)] t) (va_A [(h, .inr (13, mO r th si le lv pg pn pl rs)), (r 25, .inl (cZ, 4, .inl aw)), (r 26, .inl (cJ, 4, .inr (.inl nw))), (r 27, .inl (cI, 4, .inl wt)), (r 30, .inl (cJ, 24, .inr (.inl z.1))), (r 31, .inl (cI, 24, .inl z.2.1)), (r 32, .inl (cZ, 24, .inl z.2.2.1)), (r 33, .inl (cJ, 24, .inr (.inl z.2.2.2)))] sz)) 0 0 (va_A [(h, .inr (13, mO r th si le lv pg pn pl rs)), (r 25, .inl (cZ, 4, .inl aw)), (r 26, .inl (cJ, 4, .inr (.inl nw))), (r 27, .inl (cI, 4, .inl wt)), (r 30, .inl (cJ, 24, .inr (.inl z.1))), (r 31, .inl (cI, 24, .inl z.2.1)), (r 32, .inl (cZ, 24, .inl z.2.2.1)), (r 33, .inl (cJ, 24, .inr (.inl z.2.2.2)))] sz) := by
  refine Met.ofW (cc := b_Mo_obeysOne) (maxL := 11) (ret := (some .boolean)) (by decide) rfl ?_
  intro p e s m args below meth cd s₁ Bd hml hv
  obtain ⟨rfl, hsz, hP, hK, hN, hD0⟩ := hv
  have hx := Bd.exec
  have hb := Bd.bytes
  have hr := Bd.returns
  have hts := hN.use (a := ([.ref h, .int (nI k)]).toArray)
  have hown : s.vm.findClass R_Mo = some m.cls := findClass_of_methodNamed Bd.named
  have hlocks := Bd.notSynchronized
  subst hsz
  have hD := hD0.self (sz := s.heap.size)
  clear hD0
  have hA : ∀ q : Nat, s.heap.size ≤ q → va_A [(h, .inr (13, mO r th si le lv pg pn pl rs)), (r 25, .inl (cZ, 4, .inl aw)), (r 26, .inl (cJ, 4, .inr (.inl nw))), (r 27, .inl (cI, 4, .inl wt)), (r 30, .inl (cJ, 24, .inr (.inl z.1))), (r 31, .inl (cI, 24, .inl z.2.1)), (r 32, .inl (cZ, 24, .inl z.2.2.1)), (r 33, .inl (cJ, 24, .inr (.inl z.2.2.2)))] s.heap.size q := fun q h => Or.inr h
  have hS : va_S (va_A [(h, .inr (13, mO r th si le lv pg pn pl rs)), (r 25, .inl (cZ, 4, .inl aw)), (r 26, .inl (cJ, 4, .inr (.inl nw))), (r 27, .inl (cI, 4, .inl wt)), (r 30, .inl (cJ, 24, .inr (.inl z.1))), (r 31, .inl (cI, 24, .inl z.2.1)), (r 32, .inl (cZ, 24, .inl z.2.2.1)), (r 33, .inl (cJ, 24, .inr (.inl z.2.2.2)))] s.heap.size) s.heap s.heap [] := va_S.rf
  generalize hAe : va_A [(h, .inr (13, mO r th si le lv pg pn pl rs)), (r 25, .inl (cZ, 4, .inl aw)), (r 26, .inl (cJ, 4, .inr (.inl nw))), (r 27, .inl (cI, 4, .inl wt)), (r 30, .inl (cJ, 24, .inr (.inl z.1))), (r 31, .inl (cI, 24, .inl z.2.1)), (r 32, .inl (cZ, 24, .inl z.2.2.1)), (r 33, .inl (cJ, 24, .inr (.inl z.2.2.2)))] s.heap.size = A at hD hA hS ⊢
  have hP : va_P D classes [(h, .inr (13, mO r th si le lv pg pn pl rs)), (r 25, .inl (cZ, 4, .inl aw)), (r 26, .inl (cJ, 4, .inr (.inl nw))), (r 27, .inl (cI, 4, .inl wt)), (r 30, .inl (cJ, 24, .inr (.inl z.1))), (r 31, .inl (cI, 24, .inl z.2.1)), (r 32, .inl (cZ, 24, .inl z.2.2.1)), (r 33, .inl (cJ, 24, .inr (.inl z.2.2.2)))] s.heap := hP
  have hl := lv_entry ([.ref h, .int (nI k)]) (n := 11) (Nat.le_of_ble_eq_true rfl)
  rw [lg_entry_eq]
  generalize (lg_sl ([.ref h, .int (nI k)]) ++ List.replicate (11 - (lg_sl ([.ref h, .int (nI k)])).length) Slot.unset).toArray = ls at hl ⊢
  have hl : lv_has ls 11 [(0, .ref h), (1, .int (nI k))] := hl
  refine lv_iconst (v := 0) hx hb d_Mo_obeysOne_0 (by decide) ?_
  refine lv_istore_n (lv' := [(2, .int 0), (0, .ref h), (1, .int (nI k))]) hx hb d_Mo_obeysOne_1 rfl hl (by decide) rfl (fun ls hl => ?_)
  have loop2 : ∀ (N : Nat) (j : Nat) (H : Heap) (locs : List Loc) (ls : Array Slot) (hm : w - j < N) (hj : j ≤ w) (hnd : ∀ x, x < j → ¬ dueV (nw k) (z.1 (6 * k + x)) < 4294967296) (hl : lv_has ls 11 [(0, .ref h), (1, .int (nI k)), (2, .int (nI j))]) (hP : va_P D classes [(h, .inr (13, mO r th si le lv pg pn pl rs)), (r 25, .inl (cZ, 4, .inl aw)), (r 26, .inl (cJ, 4, .inr (.inl nw))), (r 27, .inl (cI, 4, .inl wt)), (r 30, .inl (cJ, 24, .inr (.inl z.1))), (r 31, .inl (cI, 24, .inl z.2.1)), (r 32, .inl (cZ, 24, .inl z.2.2.1)), (r 33, .inl (cJ, 24, .inr (.inl z.2.2.2)))] H) (hD : va_D A [(h, .inr (13, mO r th si le lv pg pn pl rs)), (r 25, .inl (cZ, 4, .inl aw)), (r 26, .inl (cJ, 4, .inr (.inl nw))), (r 27, .inl (cI, 4, .inl wt)), (r 30, .inl (cJ, 24, .inr (.inl z.1))), (r 31, .inl (cI, 24, .inl z.2.1)), (r 32, .inl (cZ, 24, .inl z.2.2.1)), (r 33, .inl (cJ, 24, .inr (.inl z.2.2.2)))]) (hS : va_S A s.heap H locs), W p l e ({ frames := 2, cells := 0, slots := 0, locals := 54 }) s m ([.ref h, .int (nI k)]).toArray below meth cd H locs 0 0 (MQ below (va_Qi (fun r0 (u : (OQ × (Nat → Int32)) × (Nat → Int32)) => (r0 = 0 ∧ u = ((z, wt), aw) ∧ ∀ x, x < w → ¬ dueV (nw k) (z.1 (6 * k + x)) < 4294967296) ∨ (∃ j9, j9 < w ∧ (∀ x, x < j9 → ¬ dueV (nw k) (z.1 (6 * k + x)) < 4294967296) ∧ dueV (nw k) (z.1 (6 * k + j9)) < 4294967296 ∧ r0 = 1 ∧ u = obY z wt aw k w j9)) (fun (u : (OQ × (Nat → Int32)) × (Nat → Int32)) t => zW D (A) [(h, .inr (13, mO r th si le lv pg pn pl rs)), (r 25, .inl (cZ, 4, .inl u.2)), (r 26, .inl (cJ, 4, .inr (.inl nw))), (r 27, .inl (cI, 4, .inl u.1.2)), (r 30, .inl (cJ, 24, .inr (.inl u.1.1.1))), (r 31, .inl (cI, 24, .inl u.1.1.2.1)), (r 32, .inl (cZ, 24, .inl u.1.1.2.2.1)), (r 33, .inl (cJ, 24, .inr (.inl u.1.1.2.2.2)))] [(cI, .int), (cJ, .long), (cZ, .boolean)] t) (A)) ([.ref h, .int (nI k)]).toArray s 0 0 (A)) (F0 m 2 ls []) := by
    intro N2
    induction N2 with
    | zero => intro j H locs ls hm hj hnd hl hP hD hS; exact absurd hm (Nat.not_lt_zero _)
    | succ N2 ih2 =>
      intro j H locs ls hm hj hnd hl hP hD hS
      refine lv_iload_n hx hb d_Mo_obeysOne_2 rfl (lv_at hl 2 rfl) ?_
      refine lv_aload_n hx hb d_Mo_obeysOne_3 rfl (lv_at hl 0 rfl) ?_
      refine va_get (D := D) (ci := 13) (v := .ref (r 27)) (C := R_Mo) (T := F_Mo) (N := 54) hx hb hts i_Mo hown hK hP 0 rfl rfl 27 (by decide) (hts _ wd_1115) (fun _ h9 => h9) rfl d_Mo_obeysOne_4 ?_
      refine lv_iload_n hx hb d_Mo_obeysOne_7 rfl (lv_at hl 1 rfl) ?_
      refine z_iald hx hb hK hP 3 0 rfl rfl k rfl (by omega) (by omega) d_Mo_obeysOne_8 ?_
      refine z_topi (w := nI w) hw ?_
      refine lv_icmp_ge (tgt := 176) hx hb d_Mo_obeysOne_9 rfl (fun h9 => ?_) (fun h9 => ?_)
      · have h9 := (nI_leI (by omega) (by omega)).mp h9
        refine lv_iconst (v := 0) hx hb d_Mo_obeysOne_176 (by decide) ?_
        have hP9 := hP.sub (ws' := [(h, .inr (13, mO r th si le lv pg pn pl rs)), (r 25, .inl (cZ, 4, .inl aw)), (r 26, .inl (cJ, 4, .inr (.inl nw))), (r 27, .inl (cI, 4, .inl wt)), (r 30, .inl (cJ, 24, .inr (.inl z.1))), (r 31, .inl (cI, 24, .inl z.2.1)), (r 32, .inl (cZ, 24, .inl z.2.2.1)), (r 33, .inl (cJ, 24, .inr (.inl z.2.2.2)))]) [0, 1, 2, 3, 4, 5, 6, 7] rfl
        have hD9 := hD.sub (ws' := [(h, .inr (13, mO r th si le lv pg pn pl rs)), (r 25, .inl (cZ, 4, .inl aw)), (r 26, .inl (cJ, 4, .inr (.inl nw))), (r 27, .inl (cI, 4, .inl wt)), (r 30, .inl (cJ, 24, .inr (.inl z.1))), (r 31, .inl (cI, 24, .inl z.2.1)), (r 32, .inl (cZ, 24, .inl z.2.2.1)), (r 33, .inl (cJ, 24, .inr (.inl z.2.2.2)))]) [0, 1, 2, 3, 4, 5, 6, 7] (by decide) rfl
        have hK9 := hK.sub (tys' := [(cI, .int), (cJ, .long), (cZ, .boolean)]) [0, 1, 2] rfl
        exact W.zret (v := 0) hx hb hr rfl (fun t ht hW => ⟨⟨_, ((z, wt), aw), rfl, Or.inl ⟨rfl, rfl, fun x hx => hnd x (by omega)⟩, ⟨by rw [ht]; exact hP9, va_K.moved hW.alike hK9, hD9⟩⟩, hS.F ht⟩) hS.2.2 d_Mo_obeysOne_177
      · have h9 := mt (nI_leI (by omega) (by omega)).mpr h9
        refine lv_bipush (v := 6) hx hb d_Mo_obeysOne_12 (by decide) ?_
        refine lv_iload_n hx hb d_Mo_obeysOne_14 rfl (lv_at hl 1 rfl) ?_
        refine lv_imul hx hb d_Mo_obeysOne_15 ?_
        refine z_topi (w := nI (6 * k)) (pk_mul 6 _) ?_
        refine lv_iload_n hx hb d_Mo_obeysOne_16 rfl (lv_at hl 2 rfl) ?_
        refine lv_iadd hx hb d_Mo_obeysOne_17 ?_
        refine z_topi (w := nI (6 * k + j)) (nI_add _ _) ?_
        refine lv_istore_n (lv' := [(3, .int (nI (6 * k + j))), (0, .ref h), (1, .int (nI k)), (2, .int (nI j))]) hx hb d_Mo_obeysOne_18 rfl hl (by decide) rfl (fun ls hl => ?_)
        refine lv_aload_n hx hb d_Mo_obeysOne_19 rfl (lv_at hl 1 rfl) ?_
        refine va_get (D := D) (ci := 13) (v := .ref (r 26)) (C := R_Mo) (T := F_Mo) (N := 54) hx hb hts i_Mo hown hK hP 0 rfl rfl 26 (by decide) (hts _ wd_1114) (fun _ h9 => h9) rfl d_Mo_obeysOne_20 ?_
        refine lv_iload_n hx hb d_Mo_obeysOne_23 rfl (lv_at hl 2 rfl) ?_
        refine z_lald hx hb hK hP 2 1 rfl rfl k rfl (by omega) (by omega) d_Mo_obeysOne_24 ?_
        refine lv_aload_n hx hb d_Mo_obeysOne_25 rfl (lv_at hl 1 rfl) ?_
        refine va_get (D := D) (ci := 13) (v := .ref (r 30)) (C := R_Mo) (T := F_Mo) (N := 54) hx hb hts i_Mo hown hK hP 0 rfl rfl 30 (by decide) (hts _ wd_1118) (fun _ h9 => h9) rfl d_Mo_obeysOne_26 ?_
        refine lv_iload_n hx hb d_Mo_obeysOne_29 rfl (lv_at hl 0 rfl) ?_
        refine z_lald hx hb hK hP 4 1 rfl rfl (6 * k + j) rfl (by omega) (by omega) d_Mo_obeysOne_30 ?_
        refine lv_lsub hx hb d_Mo_obeysOne_31 ?_
        refine lv_ldc2 hx hb hown (hts _ wd_1335) d_Mo_obeysOne_32 ?_
        refine lv_ladd hx hb d_Mo_obeysOne_35 ?_
        refine lv_ldc2 hx hb hown (hts _ wd_1335) d_Mo_obeysOne_36 ?_
        refine lv_lrem hx hb d_Mo_obeysOne_39 (by decide) ?_
        refine z_topl (w := dueV (nw k) (z.1 (6 * k + j))) rfl ?_
        refine lv_ldc2 hx hb hown (hts _ wd_1336) d_Mo_obeysOne_40 ?_
        refine W.lcmp hx hb d_Mo_obeysOne_43 ?_
        refine lv_if_ge (tgt := 170) hx hb d_Mo_obeysOne_44 rfl (fun h44 => ?_) (fun h44 => ?_)
        · have h44 : ¬ dueV (nw k) (z.1 (6 * k + j)) < 4294967296 := Int64.not_lt.mpr ((lg_cmp_ge _ _).mp h44)
          refine lv_iinc (k := 3) (v := nI (j + 1)) (lv' := [(2, .int (nI (j + 1))), (3, .int (nI (6 * k + j))), (0, .ref h), (1, .int (nI k))]) hx hb d_Mo_obeysOne_170 hl rfl (nI_1 j) (by decide) rfl (fun ls hl => ?_)
          refine lv_goto (tgt := 2) hx hb d_Mo_obeysOne_173 rfl ?_
          exact ih2 (j + 1) H locs ls (by omega) (by omega) (fun x hx => if c9 : x = j then by rw [c9]; exact h44 else hnd x (by omega)) (lv_sub hl [2, 3, 0] rfl) hP hD hS
        · have h44 : dueV (nw k) (z.1 (6 * k + j)) < 4294967296 := Int64.not_le.mp (mt (lg_cmp_ge _ _).mpr h44)
          refine lv_aload_n hx hb d_Mo_obeysOne_47 rfl (lv_at hl 1 rfl) ?_
          refine va_get (D := D) (ci := 13) (v := .ref (r 30)) (C := R_Mo) (T := F_Mo) (N := 54) hx hb hts i_Mo hown hK hP 0 rfl rfl 30 (by decide) (hts _ wd_1118) (fun _ h9 => h9) rfl d_Mo_obeysOne_48 ?_
          refine lv_iload_n hx hb d_Mo_obeysOne_51 rfl (lv_at hl 0 rfl) ?_
          refine z_lald hx hb hK hP 4 1 rfl rfl (6 * k + j) rfl (by omega) (by omega) d_Mo_obeysOne_52 ?_
          refine lv_lstore (lv' := [(4, .long (z.1 (6 * k + j))), (3, .int (nI (6 * k + j))), (0, .ref h), (1, .int (nI k)), (2, .int (nI j))]) hx hb d_Mo_obeysOne_53 hl (by decide) rfl (fun ls hl => ?_)
          refine lv_aload_n hx hb d_Mo_obeysOne_55 rfl (lv_at hl 2 rfl) ?_
          refine va_get (D := D) (ci := 13) (v := .ref (r 31)) (C := R_Mo) (T := F_Mo) (N := 54) hx hb hts i_Mo hown hK hP 0 rfl rfl 31 (by decide) (hts _ wd_1119) (fun _ h9 => h9) rfl d_Mo_obeysOne_56 ?_
          refine lv_iload_n hx hb d_Mo_obeysOne_59 rfl (lv_at hl 1 rfl) ?_
          refine z_iald hx hb hK hP 5 0 rfl rfl (6 * k + j) rfl (by omega) (by omega) d_Mo_obeysOne_60 ?_
          refine lv_istore (lv' := [(6, .int (z.2.1 (6 * k + j))), (4, .long (z.1 (6 * k + j))), (3, .int (nI (6 * k + j))), (0, .ref h), (1, .int (nI k)), (2, .int (nI j))]) hx hb d_Mo_obeysOne_61 hl (by decide) rfl (fun ls hl => ?_)
          refine lv_aload_n hx hb d_Mo_obeysOne_63 rfl (lv_at hl 3 rfl) ?_
          refine va_get (D := D) (ci := 13) (v := .ref (r 32)) (C := R_Mo) (T := F_Mo) (N := 54) hx hb hts i_Mo hown hK hP 0 rfl rfl 32 (by decide) (hts _ wd_1120) (fun _ h9 => h9) rfl d_Mo_obeysOne_64 ?_
          refine lv_iload_n hx hb d_Mo_obeysOne_67 rfl (lv_at hl 2 rfl) ?_
          refine z_zald hx hb hK hP 6 2 rfl rfl (6 * k + j) rfl (by omega) (by omega) d_Mo_obeysOne_68 ?_
          refine lv_istore (lv' := [(7, .int (z.2.2.1 (6 * k + j))), (6, .int (z.2.1 (6 * k + j))), (4, .long (z.1 (6 * k + j))), (3, .int (nI (6 * k + j))), (0, .ref h), (1, .int (nI k)), (2, .int (nI j))]) hx hb d_Mo_obeysOne_69 hl (by decide) rfl (fun ls hl => ?_)
          refine lv_aload_n hx hb d_Mo_obeysOne_71 rfl (lv_at hl 4 rfl) ?_
          refine va_get (D := D) (ci := 13) (v := .ref (r 33)) (C := R_Mo) (T := F_Mo) (N := 54) hx hb hts i_Mo hown hK hP 0 rfl rfl 33 (by decide) (hts _ wd_1121) (fun _ h9 => h9) rfl d_Mo_obeysOne_72 ?_
          refine lv_iload_n hx hb d_Mo_obeysOne_75 rfl (lv_at hl 3 rfl) ?_
          refine z_lald hx hb hK hP 7 1 rfl rfl (6 * k + j) rfl (by omega) (by omega) d_Mo_obeysOne_76 ?_
          refine lv_lstore (lv' := [(8, .long (z.2.2.2 (6 * k + j))), (7, .int (z.2.2.1 (6 * k + j))), (6, .int (z.2.1 (6 * k + j))), (4, .long (z.1 (6 * k + j))), (3, .int (nI (6 * k + j))), (0, .ref h), (1, .int (nI k)), (2, .int (nI j))]) hx hb d_Mo_obeysOne_77 hl (by decide) rfl (fun ls hl => ?_)
          refine lv_iload_n hx hb d_Mo_obeysOne_79 rfl (lv_at hl 7 rfl) ?_
          refine lv_istore (lv' := [(10, .int (nI j)), (8, .long (z.2.2.2 (6 * k + j))), (7, .int (z.2.2.1 (6 * k + j))), (6, .int (z.2.1 (6 * k + j))), (4, .long (z.1 (6 * k + j))), (3, .int (nI (6 * k + j))), (0, .ref h), (1, .int (nI k)), (2, .int (nI j))]) hx hb d_Mo_obeysOne_80 hl (by decide) rfl (fun ls hl => ?_)
          have loop82 : ∀ (N : Nat) (i : Nat) (z2 : OQ) (H : Heap) (locs : List Loc) (ls : Array Slot) (hm : w - i < N) (hi : j + i + 1 ≤ w) (hz2 : z2 = shU z k j i) (hl : lv_has ls 11 [(0, .ref h), (1, .int (nI k)), (4, .long (z.1 (6 * k + j))), (6, .int (z.2.1 (6 * k + j))), (7, .int (z.2.2.1 (6 * k + j))), (8, .long (z.2.2.2 (6 * k + j))), (10, .int (nI (j + i)))]) (hP : va_P D classes [(h, .inr (13, mO r th si le lv pg pn pl rs)), (r 25, .inl (cZ, 4, .inl aw)), (r 26, .inl (cJ, 4, .inr (.inl nw))), (r 27, .inl (cI, 4, .inl wt)), (r 30, .inl (cJ, 24, .inr (.inl z2.1))), (r 31, .inl (cI, 24, .inl z2.2.1)), (r 32, .inl (cZ, 24, .inl z2.2.2.1)), (r 33, .inl (cJ, 24, .inr (.inl z2.2.2.2)))] H) (hD : va_D A [(h, .inr (13, mO r th si le lv pg pn pl rs)), (r 25, .inl (cZ, 4, .inl aw)), (r 26, .inl (cJ, 4, .inr (.inl nw))), (r 27, .inl (cI, 4, .inl wt)), (r 30, .inl (cJ, 24, .inr (.inl z2.1))), (r 31, .inl (cI, 24, .inl z2.2.1)), (r 32, .inl (cZ, 24, .inl z2.2.2.1)), (r 33, .inl (cJ, 24, .inr (.inl z2.2.2.2)))]) (hS : va_S A s.heap H locs), W p l e ({ frames := 2, cells := 0, slots := 0, locals := 54 }) s m ([.ref h, .int (nI k)]).toArray below meth cd H locs 0 0 (MQ below (va_Qi (fun r0 (u : (OQ × (Nat → Int32)) × (Nat → Int32)) => (r0 = 0 ∧ u = ((z, wt), aw) ∧ ∀ x, x < w → ¬ dueV (nw k) (z.1 (6 * k + x)) < 4294967296) ∨ (∃ j9, j9 < w ∧ (∀ x, x < j9 → ¬ dueV (nw k) (z.1 (6 * k + x)) < 4294967296) ∧ dueV (nw k) (z.1 (6 * k + j9)) < 4294967296 ∧ r0 = 1 ∧ u = obY z wt aw k w j9)) (fun (u : (OQ × (Nat → Int32)) × (Nat → Int32)) t => zW D (A) [(h, .inr (13, mO r th si le lv pg pn pl rs)), (r 25, .inl (cZ, 4, .inl u.2)), (r 26, .inl (cJ, 4, .inr (.inl nw))), (r 27, .inl (cI, 4, .inl u.1.2)), (r 30, .inl (cJ, 24, .inr (.inl u.1.1.1))), (r 31, .inl (cI, 24, .inl u.1.1.2.1)), (r 32, .inl (cZ, 24, .inl u.1.1.2.2.1)), (r 33, .inl (cJ, 24, .inr (.inl u.1.1.2.2.2)))] [(cI, .int), (cJ, .long), (cZ, .boolean)] t) (A)) ([.ref h, .int (nI k)]).toArray s 0 0 (A)) (F0 m 82 ls []) := by
            intro N82
            induction N82 with
            | zero => intro i z2 H locs ls hm hi hz2 hl hP hD hS; exact absurd hm (Nat.not_lt_zero _)
            | succ N82 ih82 =>
              intro i z2 H locs ls hm hi hz2 hl hP hD hS
              refine lv_iload hx hb d_Mo_obeysOne_82 (lv_at hl 6 rfl) ?_
              refine lv_iconst (v := 1) hx hb d_Mo_obeysOne_84 (by decide) ?_
              refine lv_iadd hx hb d_Mo_obeysOne_85 ?_
              refine z_topi (w := nI (j + i + 1)) (nI_1 _) ?_
              refine lv_aload_n hx hb d_Mo_obeysOne_86 rfl (lv_at hl 0 rfl) ?_
              refine va_get (D := D) (ci := 13) (v := .ref (r 27)) (C := R_Mo) (T := F_Mo) (N := 54) hx hb hts i_Mo hown hK hP 0 rfl rfl 27 (by decide) (hts _ wd_1115) (fun _ h9 => h9) rfl d_Mo_obeysOne_87 ?_
              refine lv_iload_n hx hb d_Mo_obeysOne_90 rfl (lv_at hl 1 rfl) ?_
              refine z_iald hx hb hK hP 3 0 rfl rfl k rfl (by omega) (by omega) d_Mo_obeysOne_91 ?_
              refine z_topi (w := nI w) hw ?_
              refine lv_icmp_ge (tgt := 112) hx hb d_Mo_obeysOne_92 rfl (fun h92 => ?_) (fun h92 => ?_)
              · have h92 := (nI_leI (by omega) (by omega)).mp h92
                rw [show i = w - 1 - j by omega] at hz2
                refine lv_aload_n hx hb d_Mo_obeysOne_112 rfl (lv_at hl 0 rfl) ?_
                refine va_get (D := D) (ci := 13) (v := .ref (r 27)) (C := R_Mo) (T := F_Mo) (N := 54) hx hb hts i_Mo hown hK hP 0 rfl rfl 27 (by decide) (hts _ wd_1115) (fun _ h9 => h9) rfl d_Mo_obeysOne_113 ?_
                refine lv_iload_n hx hb d_Mo_obeysOne_116 rfl (lv_at hl 1 rfl) ?_
                refine lv_dup2_11 hx hb d_Mo_obeysOne_117 rfl rfl ?_
                refine z_iald hx hb hK hP 3 0 rfl rfl k rfl (by omega) (by omega) d_Mo_obeysOne_118 ?_
                refine z_topi (w := nI w) hw ?_
                refine lv_iconst (v := 1) hx hb d_Mo_obeysOne_119 (by decide) ?_
                refine lv_isub hx hb d_Mo_obeysOne_120 ?_
                refine z_topi (w := nI (w - 1)) (pk_sub (b := 1) (by omega)) ?_
                refine z_iast hx hb hK hP hD hS 3 0 rfl rfl k rfl (by omega) (by omega) d_Mo_obeysOne_121 (fun H locs hP hD hS => ?_)
                have hP : va_P D classes [(h, .inr (13, mO r th si le lv pg pn pl rs)), (r 25, .inl (cZ, 4, .inl aw)), (r 26, .inl (cJ, 4, .inr (.inl nw))), (r 27, .inl (cI, 4, .inl (upd wt k (nI (w - 1))))), (r 30, .inl (cJ, 24, .inr (.inl z2.1))), (r 31, .inl (cI, 24, .inl z2.2.1)), (r 32, .inl (cZ, 24, .inl z2.2.2.1)), (r 33, .inl (cJ, 24, .inr (.inl z2.2.2.2)))] H := hP
                have hD : va_D A [(h, .inr (13, mO r th si le lv pg pn pl rs)), (r 25, .inl (cZ, 4, .inl aw)), (r 26, .inl (cJ, 4, .inr (.inl nw))), (r 27, .inl (cI, 4, .inl (upd wt k (nI (w - 1))))), (r 30, .inl (cJ, 24, .inr (.inl z2.1))), (r 31, .inl (cI, 24, .inl z2.2.1)), (r 32, .inl (cZ, 24, .inl z2.2.2.1)), (r 33, .inl (cJ, 24, .inr (.inl z2.2.2.2)))] := hD
                refine lv_aload_n hx hb d_Mo_obeysOne_122 rfl (lv_at hl 0 rfl) ?_
                refine va_get (D := D) (ci := 13) (v := .ref (r 25)) (C := R_Mo) (T := F_Mo) (N := 54) hx hb hts i_Mo hown hK hP 0 rfl rfl 25 (by decide) (hts _ wd_1113) (fun _ h9 => h9) rfl d_Mo_obeysOne_123 ?_
                refine lv_iload_n hx hb d_Mo_obeysOne_126 rfl (lv_at hl 1 rfl) ?_
                refine lv_iload hx hb d_Mo_obeysOne_127 (lv_at hl 4 rfl) ?_
                refine z_zast hx hb hK hP hD hS 1 2 rfl rfl k rfl (by omega) (by omega) d_Mo_obeysOne_129 (fun H locs hP hD hS => ?_)
                have hP : va_P D classes [(h, .inr (13, mO r th si le lv pg pn pl rs)), (r 25, .inl (cZ, 4, .inl (upd aw k (vp_nar .boolean (z.2.2.1 (6 * k + j)))))), (r 26, .inl (cJ, 4, .inr (.inl nw))), (r 27, .inl (cI, 4, .inl (upd wt k (nI (w - 1))))), (r 30, .inl (cJ, 24, .inr (.inl z2.1))), (r 31, .inl (cI, 24, .inl z2.2.1)), (r 32, .inl (cZ, 24, .inl z2.2.2.1)), (r 33, .inl (cJ, 24, .inr (.inl z2.2.2.2)))] H := hP
                have hD : va_D A [(h, .inr (13, mO r th si le lv pg pn pl rs)), (r 25, .inl (cZ, 4, .inl (upd aw k (vp_nar .boolean (z.2.2.1 (6 * k + j)))))), (r 26, .inl (cJ, 4, .inr (.inl nw))), (r 27, .inl (cI, 4, .inl (upd wt k (nI (w - 1))))), (r 30, .inl (cJ, 24, .inr (.inl z2.1))), (r 31, .inl (cI, 24, .inl z2.2.1)), (r 32, .inl (cZ, 24, .inl z2.2.2.1)), (r 33, .inl (cJ, 24, .inr (.inl z2.2.2.2)))] := hD
                refine lv_lload hx hb d_Mo_obeysOne_130 (lv_at hl 5 rfl) ?_
                refine lv_ldc2 hx hb hown (hts _ wd_1087) d_Mo_obeysOne_132 ?_
                refine W.lcmp hx hb d_Mo_obeysOne_135 ?_
                refine lv_if_eq (tgt := 168) hx hb d_Mo_obeysOne_136 rfl (fun h136 => ?_) (fun h136 => ?_)
                · have h136 := (lg_cmp_eq _ _).mp h136
                  refine lv_iconst (v := 1) hx hb d_Mo_obeysOne_168 (by decide) ?_
                  have hP9 := hP.sub (ws' := [(h, .inr (13, mO r th si le lv pg pn pl rs)), (r 25, .inl (cZ, 4, .inl (upd aw k (vp_nar .boolean (z.2.2.1 (6 * k + j)))))), (r 26, .inl (cJ, 4, .inr (.inl nw))), (r 27, .inl (cI, 4, .inl (upd wt k (nI (w - 1))))), (r 30, .inl (cJ, 24, .inr (.inl z2.1))), (r 31, .inl (cI, 24, .inl z2.2.1)), (r 32, .inl (cZ, 24, .inl z2.2.2.1)), (r 33, .inl (cJ, 24, .inr (.inl z2.2.2.2)))]) [0, 1, 2, 3, 4, 5, 6, 7] rfl
                  have hD9 := hD.sub (ws' := [(h, .inr (13, mO r th si le lv pg pn pl rs)), (r 25, .inl (cZ, 4, .inl (upd aw k (vp_nar .boolean (z.2.2.1 (6 * k + j)))))), (r 26, .inl (cJ, 4, .inr (.inl nw))), (r 27, .inl (cI, 4, .inl (upd wt k (nI (w - 1))))), (r 30, .inl (cJ, 24, .inr (.inl z2.1))), (r 31, .inl (cI, 24, .inl z2.2.1)), (r 32, .inl (cZ, 24, .inl z2.2.2.1)), (r 33, .inl (cJ, 24, .inr (.inl z2.2.2.2)))]) [0, 1, 2, 3, 4, 5, 6, 7] (by decide) rfl
                  have hK9 := hK.sub (tys' := [(cI, .int), (cJ, .long), (cZ, .boolean)]) [0, 1, 2] rfl
                  exact W.zret (v := 1) hx hb hr rfl (fun t ht hW => ⟨⟨_, ((z2, upd wt k (nI (w - 1))), upd aw k (zb (z.2.2.1 (6 * k + j)))), rfl, Or.inr ⟨j, by omega, hnd, h44, rfl, by unfold obY; rw [if_pos h136, ← hz2]⟩, ⟨by rw [ht]; exact hP9, va_K.moved hW.alike hK9, hD9⟩⟩, hS.F ht⟩) hS.2.2 d_Mo_obeysOne_169
                · have h136 := mt (lg_cmp_eq _ _).mpr h136
                  refine lv_aload_n hx hb d_Mo_obeysOne_139 rfl (lv_at hl 0 rfl) ?_
                  refine lv_iload_n hx hb d_Mo_obeysOne_140 rfl (lv_at hl 1 rfl) ?_
                  refine lv_lload hx hb d_Mo_obeysOne_141 (lv_at hl 2 rfl) ?_
                  refine lv_lload hx hb d_Mo_obeysOne_143 (lv_at hl 5 rfl) ?_
                  refine lv_ladd hx hb d_Mo_obeysOne_145 ?_
                  refine lv_ldc2 hx hb hown (hts _ wd_1335) d_Mo_obeysOne_146 ?_
                  refine lv_lrem hx hb d_Mo_obeysOne_149 (by decide) ?_
                  refine z_topl (w := rndV (z.1 (6 * k + j) + z.2.2.2 (6 * k + j))) rfl ?_
                  refine lv_iload hx hb d_Mo_obeysOne_150 (lv_at hl 3 rfl) ?_
                  refine lv_iload hx hb d_Mo_obeysOne_152 (lv_at hl 4 rfl) ?_
                  suffices key154 : W p l e ({ frames := 2, cells := 0, slots := 0, locals := 54 }) s m ([.ref h, .int (nI k)]).toArray below meth cd H locs 0 0 (MQ below (va_Qi (fun r0 (u : (OQ × (Nat → Int32)) × (Nat → Int32)) => (r0 = 0 ∧ u = ((z, wt), aw) ∧ ∀ x, x < w → ¬ dueV (nw k) (z.1 (6 * k + x)) < 4294967296) ∨ (∃ j9, j9 < w ∧ (∀ x, x < j9 → ¬ dueV (nw k) (z.1 (6 * k + x)) < 4294967296) ∧ dueV (nw k) (z.1 (6 * k + j9)) < 4294967296 ∧ r0 = 1 ∧ u = obY z wt aw k w j9)) (fun (u : (OQ × (Nat → Int32)) × (Nat → Int32)) t => zW D (A) [(h, .inr (13, mO r th si le lv pg pn pl rs)), (r 25, .inl (cZ, 4, .inl u.2)), (r 26, .inl (cJ, 4, .inr (.inl nw))), (r 27, .inl (cI, 4, .inl u.1.2)), (r 30, .inl (cJ, 24, .inr (.inl u.1.1.1))), (r 31, .inl (cI, 24, .inl u.1.1.2.1)), (r 32, .inl (cZ, 24, .inl u.1.1.2.2.1)), (r 33, .inl (cJ, 24, .inr (.inl u.1.1.2.2.2)))] [(cI, .int), (cJ, .long), (cZ, .boolean)] t) (A)) ([.ref h, .int (nI k)]).toArray s 0 0 (A)) (F0 m 162 ls [.int (if z.2.2.1 (6 * k + j) = 0 then 1 else 0), .int (z.2.1 (6 * k + j)), .long (rndV (z.1 (6 * k + j) + z.2.2.2 (6 * k + j))), .int (nI k), .ref h]) by
                    refine lv_if_ne (tgt := 161) hx hb d_Mo_obeysOne_154 rfl (fun h154 => ?_) (fun h154 => ?_)
                    · refine lv_iconst (v := 0) hx hb d_Mo_obeysOne_161 (by decide) ?_
                      refine z_topi (w := (if z.2.2.1 (6 * k + j) = 0 then 1 else 0)) ((if_neg h154).symm) ?_
                      exact key154
                    · refine lv_iconst (v := 1) hx hb d_Mo_obeysOne_157 (by decide) ?_
                      refine lv_goto (tgt := 162) hx hb d_Mo_obeysOne_158 rfl ?_
                      refine z_topi (w := (if z.2.2.1 (6 * k + j) = 0 then 1 else 0)) ((if_pos h154).symm) ?_
                      exact key154
                  refine lv_ldc2 hx hb hown (hts _ wd_1087) d_Mo_obeysOne_162 ?_
                  have hPc := hP.sub (ws' := [(h, .inr (13, mO r th si le lv pg pn pl rs)), (r 27, .inl (cI, 4, .inl (upd wt k (nI (w - 1))))), (r 30, .inl (cJ, 24, .inr (.inl z2.1))), (r 31, .inl (cI, 24, .inl z2.2.1)), (r 32, .inl (cZ, 24, .inl z2.2.2.1)), (r 33, .inl (cJ, 24, .inr (.inl z2.2.2.2)))]) [0, 3, 4, 5, 6, 7] rfl
                  have hKc := hK.sub (tys' := [(cI, .int), (cJ, .long), (cZ, .boolean)]) [0, 1, 2] rfl
                  have hDc := hD.sub (ws' := [(h, .inr (13, mO r th si le lv pg pn pl rs)), (r 27, .inl (cI, 4, .inl (upd wt k (nI (w - 1))))), (r 30, .inl (cJ, 24, .inr (.inl z2.1))), (r 31, .inl (cI, 24, .inl z2.2.1)), (r 32, .inl (cZ, 24, .inl z2.2.2.1)), (r 33, .inl (cJ, 24, .inr (.inl z2.2.2.2)))]) [0, 3, 4, 5, 6, 7] (by decide) rfl
                  have hFc := va_free (wc := [(h, .inr (13, mO r th si le lv pg pn pl rs)), (r 27, .inl (cI, 4, .inl (upd wt k (nI (w - 1))))), (r 30, .inl (cJ, 24, .inr (.inl z2.1))), (r 31, .inl (cI, 24, .inl z2.2.1)), (r 32, .inl (cZ, 24, .inl z2.2.2.1)), (r 33, .inl (cJ, 24, .inr (.inl z2.2.2.2)))]) hD hS hA [0, 3, 4, 5, 6, 7] rfl
                  refine va_callv (va_runV (As := [.int (nI k), .long (rndV (z.1 (6 * k + j) + z.2.2.2 (6 * k + j))), .int (z.2.1 (6 * k + j)), .int (if z.2.2.1 (6 * k + j) = 0 then 1 else 0), .long (-1)]) (rest := []) ⟨hx, hb, hml, hown, hts⟩ (c_Mo_append l D H.size cI h r th si le lv pg pn pl rs cJ cZ z2 (upd wt k (nI (w - 1))) k (w - 1) (rndV (z.1 (6 * k + j) + z.2.2.2 (6 * k + j))) (z.2.1 (6 * k + j)) (if z.2.2.1 (6 * k + j) = 0 then 1 else 0) (-1) hk pk_us (by omega)) (z_cV hN wd_1344 wd_67 wd_1341 hd_Mo_append rfl rfl ⟨Nat.le_of_ble_eq_true rfl, Nat.le_of_ble_eq_true rfl⟩ wd_1343 wd_40) (z_preVm (va_recv (ci := 13) (q0 := 0) hK hP rfl rfl) hPc hKc hN hDc) rfl rfl hl.1 rfl (lv_room (Nat.le_of_ble_eq_true rfl)) d_Mo_obeysOne_165 ⟨Nat.le_of_ble_eq_true rfl, Nat.le_of_ble_eq_true rfl⟩) hS (fun q _ h => hFc q h) hFc (fun y165 t H locs ht hvm e165 hB hz1 hk1 hS => ?_)
                  obtain ⟨hP1, hK1, hD1⟩ := hB
                  rw [ht] at hP1
                  obtain ⟨hP, hD⟩ := va_join (wr := [(r 25, .inl (cZ, 4, .inl (upd aw k (vp_nar .boolean (z.2.2.1 (6 * k + j)))))), (r 26, .inl (cJ, 4, .inr (.inl nw)))]) (w1 := [(h, .inr (13, mO r th si le lv pg pn pl rs)), (r 27, .inl (cI, 4, .inl y165.2)), (r 30, .inl (cJ, 24, .inr (.inl y165.1.1))), (r 31, .inl (cI, 24, .inl y165.1.2.1)), (r 32, .inl (cZ, 24, .inl y165.1.2.2.1)), (r 33, .inl (cJ, 24, .inr (.inl y165.1.2.2.2)))]) hP hD [0, 3, 4, 5, 6, 7] [1, 2] rfl rfl (by decide) (by decide) hk1 hFc hP1 hD1
                  clear hk1 hP1 hD1 hFc hPc hDc hz1
                  have hP : va_P D classes [(r 25, .inl (cZ, 4, .inl (upd aw k (vp_nar .boolean (z.2.2.1 (6 * k + j)))))), (r 26, .inl (cJ, 4, .inr (.inl nw))), (h, .inr (13, mO r th si le lv pg pn pl rs)), (r 27, .inl (cI, 4, .inl y165.2)), (r 30, .inl (cJ, 24, .inr (.inl y165.1.1))), (r 31, .inl (cI, 24, .inl y165.1.2.1)), (r 32, .inl (cZ, 24, .inl y165.1.2.2.1)), (r 33, .inl (cJ, 24, .inr (.inl y165.1.2.2.2)))] H := hP
                  have hD : va_D A [(r 25, .inl (cZ, 4, .inl (upd aw k (vp_nar .boolean (z.2.2.1 (6 * k + j)))))), (r 26, .inl (cJ, 4, .inr (.inl nw))), (h, .inr (13, mO r th si le lv pg pn pl rs)), (r 27, .inl (cI, 4, .inl y165.2)), (r 30, .inl (cJ, 24, .inr (.inl y165.1.1))), (r 31, .inl (cI, 24, .inl y165.1.2.1)), (r 32, .inl (cZ, 24, .inl y165.1.2.2.1)), (r 33, .inl (cJ, 24, .inr (.inl y165.1.2.2.2)))] := hD
                  refine lv_iconst (v := 1) hx hb d_Mo_obeysOne_168 (by decide) ?_
                  have hP9 := hP.sub (ws' := [(h, .inr (13, mO r th si le lv pg pn pl rs)), (r 25, .inl (cZ, 4, .inl (upd aw k (vp_nar .boolean (z.2.2.1 (6 * k + j)))))), (r 26, .inl (cJ, 4, .inr (.inl nw))), (r 27, .inl (cI, 4, .inl y165.2)), (r 30, .inl (cJ, 24, .inr (.inl y165.1.1))), (r 31, .inl (cI, 24, .inl y165.1.2.1)), (r 32, .inl (cZ, 24, .inl y165.1.2.2.1)), (r 33, .inl (cJ, 24, .inr (.inl y165.1.2.2.2)))]) [2, 0, 1, 3, 4, 5, 6, 7] rfl
                  have hD9 := hD.sub (ws' := [(h, .inr (13, mO r th si le lv pg pn pl rs)), (r 25, .inl (cZ, 4, .inl (upd aw k (vp_nar .boolean (z.2.2.1 (6 * k + j)))))), (r 26, .inl (cJ, 4, .inr (.inl nw))), (r 27, .inl (cI, 4, .inl y165.2)), (r 30, .inl (cJ, 24, .inr (.inl y165.1.1))), (r 31, .inl (cI, 24, .inl y165.1.2.1)), (r 32, .inl (cZ, 24, .inl y165.1.2.2.1)), (r 33, .inl (cJ, 24, .inr (.inl y165.1.2.2.2)))]) [2, 0, 1, 3, 4, 5, 6, 7] (by decide) rfl
                  have hK9 := hK.sub (tys' := [(cI, .int), (cJ, .long), (cZ, .boolean)]) [0, 1, 2] rfl
                  exact W.zret (v := 1) hx hb hr rfl (fun t ht hW => ⟨⟨_, (y165, upd aw k (zb (z.2.2.1 (6 * k + j)))), rfl, Or.inr ⟨j, by omega, hnd, h44, rfl, by unfold obY; rw [if_neg h136, ← hz2, e165]⟩, ⟨by rw [ht]; exact hP9, va_K.moved hW.alike hK9, hD9⟩⟩, hS.F ht⟩) hS.2.2 d_Mo_obeysOne_169
              · have h92 := mt (nI_leI (by omega) (by omega)).mpr h92
                refine lv_aload_n hx hb d_Mo_obeysOne_95 rfl (lv_at hl 0 rfl) ?_
                refine lv_iload_n hx hb d_Mo_obeysOne_96 rfl (lv_at hl 1 rfl) ?_
                refine lv_iload hx hb d_Mo_obeysOne_97 (lv_at hl 6 rfl) ?_
                refine lv_iconst (v := 1) hx hb d_Mo_obeysOne_99 (by decide) ?_
                refine lv_iadd hx hb d_Mo_obeysOne_100 ?_
                refine z_topi (w := nI (j + i + 1)) (nI_1 _) ?_
                refine lv_iload hx hb d_Mo_obeysOne_101 (lv_at hl 6 rfl) ?_
                have hPc := hP.sub (ws' := [(h, .inr (13, mO r th si le lv pg pn pl rs)), (r 30, .inl (cJ, 24, .inr (.inl z2.1))), (r 31, .inl (cI, 24, .inl z2.2.1)), (r 32, .inl (cZ, 24, .inl z2.2.2.1)), (r 33, .inl (cJ, 24, .inr (.inl z2.2.2.2)))]) [0, 4, 5, 6, 7] rfl
                have hKc := hK.sub (tys' := [(cI, .int), (cJ, .long), (cZ, .boolean)]) [0, 1, 2] rfl
                have hDc := hD.sub (ws' := [(h, .inr (13, mO r th si le lv pg pn pl rs)), (r 30, .inl (cJ, 24, .inr (.inl z2.1))), (r 31, .inl (cI, 24, .inl z2.2.1)), (r 32, .inl (cZ, 24, .inl z2.2.2.1)), (r 33, .inl (cJ, 24, .inr (.inl z2.2.2.2)))]) [0, 4, 5, 6, 7] (by decide) rfl
                have hFc := va_free (wc := [(h, .inr (13, mO r th si le lv pg pn pl rs)), (r 30, .inl (cJ, 24, .inr (.inl z2.1))), (r 31, .inl (cI, 24, .inl z2.2.1)), (r 32, .inl (cZ, 24, .inl z2.2.2.1)), (r 33, .inl (cJ, 24, .inr (.inl z2.2.2.2)))]) hD hS hA [0, 4, 5, 6, 7] rfl
                refine va_callv (va_runV (As := [.int (nI k), .int (nI (j + i + 1)), .int (nI (j + i))]) (rest := []) ⟨hx, hb, hml, hown, hts⟩ (c_Mo_moveOrder l D H.size cI h r th si le lv pg pn pl rs cJ cZ z2 k (j + i + 1) (j + i) hk (by omega) (by omega)) (z_cV hN wd_1340 wd_67 wd_1337 hd_Mo_moveOrder rfl rfl ⟨Nat.le_of_ble_eq_true rfl, Nat.le_of_ble_eq_true rfl⟩ wd_1339 wd_39) (z_preVm (va_recv (ci := 13) (q0 := 0) hK hP rfl rfl) hPc hKc hN hDc) rfl rfl hl.1 rfl (lv_room (Nat.le_of_ble_eq_true rfl)) d_Mo_obeysOne_103 ⟨Nat.le_of_ble_eq_true rfl, Nat.le_of_ble_eq_true rfl⟩) hS (fun q _ h => hFc q h) hFc (fun z3 t H locs ht hvm e103 hB hz1 hk1 hS => ?_)
                obtain ⟨hP1, hK1, hD1⟩ := hB
                rw [ht] at hP1
                obtain ⟨hP, hD⟩ := va_join (wr := [(r 25, .inl (cZ, 4, .inl aw)), (r 26, .inl (cJ, 4, .inr (.inl nw))), (r 27, .inl (cI, 4, .inl wt))]) (w1 := [(h, .inr (13, mO r th si le lv pg pn pl rs)), (r 30, .inl (cJ, 24, .inr (.inl z3.1))), (r 31, .inl (cI, 24, .inl z3.2.1)), (r 32, .inl (cZ, 24, .inl z3.2.2.1)), (r 33, .inl (cJ, 24, .inr (.inl z3.2.2.2)))]) hP hD [0, 4, 5, 6, 7] [1, 2, 3] rfl rfl (by decide) (by decide) hk1 hFc hP1 hD1
                clear hk1 hP1 hD1 hFc hPc hDc hz1
                have hP : va_P D classes [(r 25, .inl (cZ, 4, .inl aw)), (r 26, .inl (cJ, 4, .inr (.inl nw))), (r 27, .inl (cI, 4, .inl wt)), (h, .inr (13, mO r th si le lv pg pn pl rs)), (r 30, .inl (cJ, 24, .inr (.inl z3.1))), (r 31, .inl (cI, 24, .inl z3.2.1)), (r 32, .inl (cZ, 24, .inl z3.2.2.1)), (r 33, .inl (cJ, 24, .inr (.inl z3.2.2.2)))] H := hP
                have hD : va_D A [(r 25, .inl (cZ, 4, .inl aw)), (r 26, .inl (cJ, 4, .inr (.inl nw))), (r 27, .inl (cI, 4, .inl wt)), (h, .inr (13, mO r th si le lv pg pn pl rs)), (r 30, .inl (cJ, 24, .inr (.inl z3.1))), (r 31, .inl (cI, 24, .inl z3.2.1)), (r 32, .inl (cZ, 24, .inl z3.2.2.1)), (r 33, .inl (cJ, 24, .inr (.inl z3.2.2.2)))] := hD
                refine lv_iinc (k := 6) (v := nI (j + (i + 1))) (lv' := [(10, .int (nI (j + (i + 1)))), (0, .ref h), (1, .int (nI k)), (4, .long (z.1 (6 * k + j))), (6, .int (z.2.1 (6 * k + j))), (7, .int (z.2.2.1 (6 * k + j))), (8, .long (z.2.2.2 (6 * k + j)))]) hx hb d_Mo_obeysOne_106 hl rfl (nI_1 (j + i)) (by decide) rfl (fun ls hl => ?_)
                refine lv_goto (tgt := 82) hx hb d_Mo_obeysOne_109 rfl ?_
                exact ih82 (i + 1) z3 H locs ls (by omega) (by omega) (by rw [shU, ← hz2]; exact e103) (lv_sub hl [1, 2, 3, 4, 5, 6, 0] rfl) (hP.sub [3, 0, 1, 2, 4, 5, 6, 7] rfl) (hD.sub [3, 0, 1, 2, 4, 5, 6, 7] (by decide) rfl) hS
          exact loop82 _ 0 z H locs ls (Nat.lt_succ_self _) (by omega) rfl (lv_sub hl [6, 7, 4, 3, 2, 1, 0] rfl) hP hD hS
  exact loop2 _ 0 s.heap [] ls (Nat.lt_succ_self _) (Nat.zero_le _) (fun x hx => absurd hx (Nat.not_lt_zero x)) (lv_sub hl [1, 2, 0] rfl) hP hD hS
