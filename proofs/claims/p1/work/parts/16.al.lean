theorem wd_12 : (Jvm.Cond.selects "java/util/ArrayList" ({ cls := "java/util/ArrayList", name := "add", desc := "(Ljava/lang/Object;[Ljava/lang/Object;I)V" } : Jvm.MethodName) ({ cls := "java/util/ArrayList", name := "add", desc := "(Ljava/lang/Object;[Ljava/lang/Object;I)V" } : Jvm.MethodName)) ∈ lw_ok := List.mem_filter.mpr ⟨List.mem_of_getElem? (i := 12) (by decide +kernel), rfl⟩
theorem wd_13 : (Jvm.Cond.selects "java/util/ArrayList" ({ cls := "java/util/ArrayList", name := "grow", desc := "()[Ljava/lang/Object;" } : Jvm.MethodName) ({ cls := "java/util/ArrayList", name := "grow", desc := "()[Ljava/lang/Object;" } : Jvm.MethodName)) ∈ lw_ok := List.mem_filter.mpr ⟨List.mem_of_getElem? (i := 13) (by decide +kernel), rfl⟩
theorem wd_14 : (Jvm.Cond.selects "java/util/ArrayList" ({ cls := "java/util/ArrayList", name := "grow", desc := "(I)[Ljava/lang/Object;" } : Jvm.MethodName) ({ cls := "java/util/ArrayList", name := "grow", desc := "(I)[Ljava/lang/Object;" } : Jvm.MethodName)) ∈ lw_ok := List.mem_filter.mpr ⟨List.mem_of_getElem? (i := 14) (by decide +kernel), rfl⟩
theorem wd_64 : (Jvm.Cond.initialized "java/util/AbstractCollection") ∈ lw_ok := List.mem_filter.mpr ⟨List.mem_of_getElem? (i := 64) (by decide +kernel), rfl⟩
theorem wd_65 : (Jvm.Cond.initialized "java/util/AbstractList") ∈ lw_ok := List.mem_filter.mpr ⟨List.mem_of_getElem? (i := 65) (by decide +kernel), rfl⟩
theorem wd_66 : (Jvm.Cond.initialized "java/util/ArrayList") ∈ lw_ok := List.mem_filter.mpr ⟨List.mem_of_getElem? (i := 66) (by decide +kernel), rfl⟩
theorem wd_75 : (Jvm.Cond.initialized "java/util/Objects") ∈ lw_ok := List.mem_filter.mpr ⟨List.mem_of_getElem? (i := 75) (by decide +kernel), rfl⟩
theorem wd_76 : (Jvm.Cond.initialized "jdk/internal/util/Preconditions") ∈ lw_ok := List.mem_filter.mpr ⟨List.mem_of_getElem? (i := 76) (by decide +kernel), rfl⟩
theorem wd_80 : (Jvm.Cond.initialized "java/lang/Math") ∈ lw_ok := List.mem_filter.mpr ⟨List.mem_of_getElem? (i := 80) (by decide +kernel), rfl⟩
theorem wd_143 : (Jvm.Cond.methodLink "java/util/ArrayList" (1 : Nat) ({ cls := "java/util/AbstractList", name := "<init>", desc := "()V" } : Jvm.MethodName)) ∈ lw_ok := List.mem_filter.mpr ⟨List.mem_of_getElem? (i := 143) (by decide +kernel), rfl⟩
theorem wd_144 : (Jvm.Cond.instanceMethod ({ cls := "java/util/AbstractList", name := "<init>", desc := "()V" } : Jvm.MethodName)) ∈ lw_ok := List.mem_filter.mpr ⟨List.mem_of_getElem? (i := 144) (by decide +kernel), rfl⟩
set_option maxRecDepth 100000 in
theorem wd_145 : (Jvm.Cond.code ({ cls := "java/util/AbstractList", name := "<init>", desc := "()V" } : Jvm.MethodName) prog_27_method_1_code (1 : Nat) (Option.none : Option Jvm.ClassFile.FieldType)) ∈ lw_ok := List.mem_filter.mpr ⟨List.mem_of_getElem? (i := 145) (by rfl), rfl⟩
theorem wd_146 : (Jvm.Cond.methodLink "java/util/AbstractList" (1 : Nat) ({ cls := "java/util/AbstractCollection", name := "<init>", desc := "()V" } : Jvm.MethodName)) ∈ lw_ok := List.mem_filter.mpr ⟨List.mem_of_getElem? (i := 146) (by decide +kernel), rfl⟩
theorem wd_147 : (Jvm.Cond.instanceMethod ({ cls := "java/util/AbstractCollection", name := "<init>", desc := "()V" } : Jvm.MethodName)) ∈ lw_ok := List.mem_filter.mpr ⟨List.mem_of_getElem? (i := 147) (by decide +kernel), rfl⟩
set_option maxRecDepth 100000 in
theorem wd_148 : (Jvm.Cond.code ({ cls := "java/util/AbstractCollection", name := "<init>", desc := "()V" } : Jvm.MethodName) prog_26_method_1_code (1 : Nat) (Option.none : Option Jvm.ClassFile.FieldType)) ∈ lw_ok := List.mem_filter.mpr ⟨List.mem_of_getElem? (i := 148) (by rfl), rfl⟩
theorem wd_149 : (Jvm.Cond.methodLink "java/util/AbstractCollection" (1 : Nat) ({ cls := "java/lang/Object", name := "<init>", desc := "()V" } : Jvm.MethodName)) ∈ lw_ok := List.mem_filter.mpr ⟨List.mem_of_getElem? (i := 149) (by decide +kernel), rfl⟩
theorem wd_150 : (Jvm.Cond.fieldLink "java/util/ArrayList" (39 : Nat) "java/util/ArrayList" "DEFAULTCAPACITY_EMPTY_ELEMENTDATA" "[Ljava/lang/Object;") ∈ lw_ok := List.mem_filter.mpr ⟨List.mem_of_getElem? (i := 150) (by decide +kernel), rfl⟩
theorem wd_152 : (Jvm.Cond.fieldLink "java/util/ArrayList" (9 : Nat) "java/util/ArrayList" "elementData" "[Ljava/lang/Object;") ∈ lw_ok := List.mem_filter.mpr ⟨List.mem_of_getElem? (i := 152) (by decide +kernel), rfl⟩
theorem wd_153 : (Jvm.Cond.fieldLink "java/util/ArrayList" (48 : Nat) "java/util/ArrayList" "size" "I") ∈ lw_ok := List.mem_filter.mpr ⟨List.mem_of_getElem? (i := 153) (by decide +kernel), rfl⟩
theorem wd_154 : (Jvm.Cond.fieldLink "java/util/AbstractList" (7 : Nat) "java/util/AbstractList" "modCount" "I") ∈ lw_ok := List.mem_filter.mpr ⟨List.mem_of_getElem? (i := 154) (by decide +kernel), rfl⟩
theorem wd_155 : (Jvm.Cond.fieldLink "java/util/ArrayList" (63 : Nat) "java/util/ArrayList" "modCount" "I") ∈ lw_ok := List.mem_filter.mpr ⟨List.mem_of_getElem? (i := 155) (by decide +kernel), rfl⟩
theorem wd_156 : (Jvm.Cond.sameField "java/util/ArrayList" "java/util/AbstractList" "modCount" "I") ∈ lw_ok := List.mem_filter.mpr ⟨List.mem_of_getElem? (i := 156) (by decide +kernel), rfl⟩
theorem wd_310 : (Jvm.Cond.methodLink "java/util/ArrayList" (118 : Nat) ({ cls := "java/util/Objects", name := "checkIndex", desc := "(II)I" } : Jvm.MethodName)) ∈ lw_ok := List.mem_filter.mpr ⟨List.mem_of_getElem? (i := 310) (by decide +kernel), rfl⟩
theorem wd_311 : (Jvm.Cond.static ({ cls := "java/util/Objects", name := "checkIndex", desc := "(II)I" } : Jvm.MethodName)) ∈ lw_ok := List.mem_filter.mpr ⟨List.mem_of_getElem? (i := 311) (by decide +kernel), rfl⟩
set_option maxRecDepth 100000 in
theorem wd_312 : (Jvm.Cond.code ({ cls := "java/util/Objects", name := "checkIndex", desc := "(II)I" } : Jvm.MethodName) prog_32_method_17_code (2 : Nat) (Option.some Jvm.ClassFile.FieldType.int)) ∈ lw_ok := List.mem_filter.mpr ⟨List.mem_of_getElem? (i := 312) (by rfl), rfl⟩
theorem wd_313 : (Jvm.Cond.methodLink "java/util/Objects" (105 : Nat) ({ cls := "jdk/internal/util/Preconditions", name := "checkIndex", desc := "(IILjava/util/function/BiFunction;)I" } : Jvm.MethodName)) ∈ lw_ok := List.mem_filter.mpr ⟨List.mem_of_getElem? (i := 313) (by decide +kernel), rfl⟩
theorem wd_314 : (Jvm.Cond.static ({ cls := "jdk/internal/util/Preconditions", name := "checkIndex", desc := "(IILjava/util/function/BiFunction;)I" } : Jvm.MethodName)) ∈ lw_ok := List.mem_filter.mpr ⟨List.mem_of_getElem? (i := 314) (by decide +kernel), rfl⟩
set_option maxRecDepth 100000 in
theorem wd_315 : (Jvm.Cond.code ({ cls := "jdk/internal/util/Preconditions", name := "checkIndex", desc := "(IILjava/util/function/BiFunction;)I" } : Jvm.MethodName) prog_36_method_11_code (3 : Nat) (Option.some Jvm.ClassFile.FieldType.int)) ∈ lw_ok := List.mem_filter.mpr ⟨List.mem_of_getElem? (i := 315) (by rfl), rfl⟩
theorem wd_316 : (Jvm.Cond.methodLink "java/util/ArrayList" (123 : Nat) ({ cls := "java/util/ArrayList", name := "elementData", desc := "(I)Ljava/lang/Object;" } : Jvm.MethodName)) ∈ lw_ok := List.mem_filter.mpr ⟨List.mem_of_getElem? (i := 316) (by decide +kernel), rfl⟩
theorem wd_317 : (Jvm.Cond.instanceMethod ({ cls := "java/util/ArrayList", name := "elementData", desc := "(I)Ljava/lang/Object;" } : Jvm.MethodName)) ∈ lw_ok := List.mem_filter.mpr ⟨List.mem_of_getElem? (i := 317) (by decide +kernel), rfl⟩
theorem wd_318 : (Jvm.Cond.selects "java/util/ArrayList" ({ cls := "java/util/ArrayList", name := "elementData", desc := "(I)Ljava/lang/Object;" } : Jvm.MethodName) ({ cls := "java/util/ArrayList", name := "elementData", desc := "(I)Ljava/lang/Object;" } : Jvm.MethodName)) ∈ lw_ok := List.mem_filter.mpr ⟨List.mem_of_getElem? (i := 318) (by decide +kernel), rfl⟩
set_option maxRecDepth 100000 in
theorem wd_319 : (Jvm.Cond.code ({ cls := "java/util/ArrayList", name := "elementData", desc := "(I)Ljava/lang/Object;" } : Jvm.MethodName) prog_28_method_18_code (2 : Nat) (Option.some (Jvm.ClassFile.FieldType.object "java/lang/Object"))) ∈ lw_ok := List.mem_filter.mpr ⟨List.mem_of_getElem? (i := 319) (by rfl), rfl⟩
theorem wd_466 : (Jvm.Cond.methodLink "java/util/ArrayList" (131 : Nat) ({ cls := "java/util/ArrayList", name := "add", desc := "(Ljava/lang/Object;[Ljava/lang/Object;I)V" } : Jvm.MethodName)) ∈ lw_ok := List.mem_filter.mpr ⟨List.mem_of_getElem? (i := 466) (by decide +kernel), rfl⟩
theorem wd_468 : (Jvm.Cond.instanceMethod ({ cls := "java/util/ArrayList", name := "add", desc := "(Ljava/lang/Object;[Ljava/lang/Object;I)V" } : Jvm.MethodName)) ∈ lw_ok := List.mem_filter.mpr ⟨List.mem_of_getElem? (i := 468) (by decide +kernel), rfl⟩
set_option maxRecDepth 100000 in
theorem wd_469 : (Jvm.Cond.code ({ cls := "java/util/ArrayList", name := "add", desc := "(Ljava/lang/Object;[Ljava/lang/Object;I)V" } : Jvm.MethodName) prog_28_method_24_code (4 : Nat) (Option.none : Option Jvm.ClassFile.FieldType)) ∈ lw_ok := List.mem_filter.mpr ⟨List.mem_of_getElem? (i := 469) (by rfl), rfl⟩
theorem wd_470 : (Jvm.Cond.methodLink "java/util/ArrayList" (129 : Nat) ({ cls := "java/util/ArrayList", name := "grow", desc := "()[Ljava/lang/Object;" } : Jvm.MethodName)) ∈ lw_ok := List.mem_filter.mpr ⟨List.mem_of_getElem? (i := 470) (by decide +kernel), rfl⟩
theorem wd_472 : (Jvm.Cond.instanceMethod ({ cls := "java/util/ArrayList", name := "grow", desc := "()[Ljava/lang/Object;" } : Jvm.MethodName)) ∈ lw_ok := List.mem_filter.mpr ⟨List.mem_of_getElem? (i := 472) (by decide +kernel), rfl⟩
set_option maxRecDepth 100000 in
theorem wd_473 : (Jvm.Cond.code ({ cls := "java/util/ArrayList", name := "grow", desc := "()[Ljava/lang/Object;" } : Jvm.MethodName) prog_28_method_7_code (1 : Nat) (Option.some (Jvm.ClassFile.FieldType.array (Jvm.ClassFile.FieldType.object "java/lang/Object")))) ∈ lw_ok := List.mem_filter.mpr ⟨List.mem_of_getElem? (i := 473) (by rfl), rfl⟩
theorem wd_474 : (Jvm.Cond.methodLink "java/util/ArrayList" (69 : Nat) ({ cls := "java/util/ArrayList", name := "grow", desc := "(I)[Ljava/lang/Object;" } : Jvm.MethodName)) ∈ lw_ok := List.mem_filter.mpr ⟨List.mem_of_getElem? (i := 474) (by decide +kernel), rfl⟩
theorem wd_476 : (Jvm.Cond.instanceMethod ({ cls := "java/util/ArrayList", name := "grow", desc := "(I)[Ljava/lang/Object;" } : Jvm.MethodName)) ∈ lw_ok := List.mem_filter.mpr ⟨List.mem_of_getElem? (i := 476) (by decide +kernel), rfl⟩
set_option maxRecDepth 100000 in
theorem wd_477 : (Jvm.Cond.code ({ cls := "java/util/ArrayList", name := "grow", desc := "(I)[Ljava/lang/Object;" } : Jvm.MethodName) prog_28_method_6_code (4 : Nat) (Option.some (Jvm.ClassFile.FieldType.array (Jvm.ClassFile.FieldType.object "java/lang/Object")))) ∈ lw_ok := List.mem_filter.mpr ⟨List.mem_of_getElem? (i := 477) (by rfl), rfl⟩
theorem wd_482 : (Jvm.Cond.static ({ cls := "java/lang/Math", name := "max", desc := "(II)I" } : Jvm.MethodName)) ∈ lw_ok := List.mem_filter.mpr ⟨List.mem_of_getElem? (i := 482) (by decide +kernel), rfl⟩
set_option maxRecDepth 100000 in
theorem wd_483 : (Jvm.Cond.code ({ cls := "java/lang/Math", name := "max", desc := "(II)I" } : Jvm.MethodName) prog_21_method_65_code (2 : Nat) (Option.some Jvm.ClassFile.FieldType.int)) ∈ lw_ok := List.mem_filter.mpr ⟨List.mem_of_getElem? (i := 483) (by rfl), rfl⟩
theorem wd_521 : (Jvm.Cond.methodLink "java/util/ArrayList" (79 : Nat) ({ cls := "java/lang/Math", name := "max", desc := "(II)I" } : Jvm.MethodName)) ∈ lw_ok := List.mem_filter.mpr ⟨List.mem_of_getElem? (i := 521) (by decide +kernel), rfl⟩
theorem wd_522 : (Jvm.Cond.classLink "java/util/ArrayList" (7 : Nat) "java/lang/Object") ∈ lw_ok := List.mem_filter.mpr ⟨List.mem_of_getElem? (i := 522) (by decide +kernel), rfl⟩
theorem hd_AL_add1 : y_AL_add1.cls ≠ "java/lang/invoke/MethodHandle" ∧ y_AL_add1.cls ≠ "java/lang/invoke/VarHandle" ∧ (parseMethodDescriptor y_AL_add1.desc).map (fun d => d.parameters.length) = some 3 := by decide +kernel
theorem hd_AL_elementData : y_AL_elementData.cls ≠ "java/lang/invoke/MethodHandle" ∧ y_AL_elementData.cls ≠ "java/lang/invoke/VarHandle" ∧ (parseMethodDescriptor y_AL_elementData.desc).map (fun d => d.parameters.length) = some 1 := by decide +kernel
theorem hd_AL_grow0 : y_AL_grow0.cls ≠ "java/lang/invoke/MethodHandle" ∧ y_AL_grow0.cls ≠ "java/lang/invoke/VarHandle" ∧ (parseMethodDescriptor y_AL_grow0.desc).map (fun d => d.parameters.length) = some 0 := by decide +kernel
theorem hd_AL_grow1 : y_AL_grow1.cls ≠ "java/lang/invoke/MethodHandle" ∧ y_AL_grow1.cls ≠ "java/lang/invoke/VarHandle" ∧ (parseMethodDescriptor y_AL_grow1.desc).map (fun d => d.parameters.length) = some 1 := by decide +kernel
theorem hd_AbC_init : y_AbC_init.cls ≠ "java/lang/invoke/MethodHandle" ∧ y_AbC_init.cls ≠ "java/lang/invoke/VarHandle" ∧ (parseMethodDescriptor y_AbC_init.desc).map (fun d => d.parameters.length) = some 0 := by decide +kernel
theorem hd_AbL_init : y_AbL_init.cls ≠ "java/lang/invoke/MethodHandle" ∧ y_AbL_init.cls ≠ "java/lang/invoke/VarHandle" ∧ (parseMethodDescriptor y_AbL_init.desc).map (fun d => d.parameters.length) = some 0 := by decide +kernel
theorem hd_Objs_checkIndex : y_Objs_checkIndex.cls ≠ "java/lang/invoke/MethodHandle" ∧ y_Objs_checkIndex.cls ≠ "java/lang/invoke/VarHandle" ∧ (parseMethodDescriptor y_Objs_checkIndex.desc).map (fun d => d.parameters.length) = some 2 := by decide +kernel
theorem hd_Pre_checkIndex : y_Pre_checkIndex.cls ≠ "java/lang/invoke/MethodHandle" ∧ y_Pre_checkIndex.cls ≠ "java/lang/invoke/VarHandle" ∧ (parseMethodDescriptor y_Pre_checkIndex.desc).map (fun d => d.parameters.length) = some 3 := by decide +kernel
theorem d_AL_add0_0 : decode b_AL_add0 0 = .ok (.aload_n 0, 1) := by decide +kernel
theorem d_AL_add0_1 : decode b_AL_add0 1 = .ok (.dup, 1) := by decide +kernel
theorem d_AL_add0_2 : decode b_AL_add0 2 = .ok (.getfield 63, 3) := by decide +kernel
theorem d_AL_add0_5 : decode b_AL_add0 5 = .ok (.iconst 1, 1) := by decide +kernel
theorem d_AL_add0_6 : decode b_AL_add0 6 = .ok (.iadd, 1) := by decide +kernel
theorem d_AL_add0_7 : decode b_AL_add0 7 = .ok (.putfield 63, 3) := by decide +kernel
theorem d_AL_add0_10 : decode b_AL_add0 10 = .ok (.aload_n 0, 1) := by decide +kernel
theorem d_AL_add0_11 : decode b_AL_add0 11 = .ok (.aload_n 1, 1) := by decide +kernel
theorem d_AL_add0_12 : decode b_AL_add0 12 = .ok (.aload_n 0, 1) := by decide +kernel
theorem d_AL_add0_13 : decode b_AL_add0 13 = .ok (.getfield 9, 3) := by decide +kernel
theorem d_AL_add0_16 : decode b_AL_add0 16 = .ok (.aload_n 0, 1) := by decide +kernel
theorem d_AL_add0_17 : decode b_AL_add0 17 = .ok (.getfield 48, 3) := by decide +kernel
theorem d_AL_add0_20 : decode b_AL_add0 20 = .ok (.invokevirtual 131, 3) := by decide +kernel
theorem d_AL_add0_23 : decode b_AL_add0 23 = .ok (.iconst 1, 1) := by decide +kernel
theorem d_AL_add0_24 : decode b_AL_add0 24 = .ok (.ireturn, 1) := by decide +kernel
theorem d_AL_add1_0 : decode b_AL_add1 0 = .ok (.iload_n 3, 1) := by decide +kernel
theorem d_AL_add1_1 : decode b_AL_add1 1 = .ok (.aload_n 2, 1) := by decide +kernel
theorem d_AL_add1_2 : decode b_AL_add1 2 = .ok (.arraylength, 1) := by decide +kernel
theorem d_AL_add1_3 : decode b_AL_add1 3 = .ok (.if_icmp .ne 8, 3) := by decide +kernel
theorem d_AL_add1_6 : decode b_AL_add1 6 = .ok (.aload_n 0, 1) := by decide +kernel
theorem d_AL_add1_7 : decode b_AL_add1 7 = .ok (.invokevirtual 129, 3) := by decide +kernel
theorem d_AL_add1_10 : decode b_AL_add1 10 = .ok (.astore_n 2, 1) := by decide +kernel
theorem d_AL_add1_11 : decode b_AL_add1 11 = .ok (.aload_n 2, 1) := by decide +kernel
theorem d_AL_add1_12 : decode b_AL_add1 12 = .ok (.iload_n 3, 1) := by decide +kernel
theorem d_AL_add1_13 : decode b_AL_add1 13 = .ok (.aload_n 1, 1) := by decide +kernel
theorem d_AL_add1_14 : decode b_AL_add1 14 = .ok (.aastore, 1) := by decide +kernel
theorem d_AL_add1_15 : decode b_AL_add1 15 = .ok (.aload_n 0, 1) := by decide +kernel
theorem d_AL_add1_16 : decode b_AL_add1 16 = .ok (.iload_n 3, 1) := by decide +kernel
theorem d_AL_add1_17 : decode b_AL_add1 17 = .ok (.iconst 1, 1) := by decide +kernel
theorem d_AL_add1_18 : decode b_AL_add1 18 = .ok (.iadd, 1) := by decide +kernel
theorem d_AL_add1_19 : decode b_AL_add1 19 = .ok (.putfield 48, 3) := by decide +kernel
theorem d_AL_add1_22 : decode b_AL_add1 22 = .ok (.return_, 1) := by decide +kernel
theorem d_AL_elementData_0 : decode b_AL_elementData 0 = .ok (.aload_n 0, 1) := by decide +kernel
theorem d_AL_elementData_1 : decode b_AL_elementData 1 = .ok (.getfield 9, 3) := by decide +kernel
theorem d_AL_elementData_4 : decode b_AL_elementData 4 = .ok (.iload_n 1, 1) := by decide +kernel
theorem d_AL_elementData_5 : decode b_AL_elementData 5 = .ok (.aaload, 1) := by decide +kernel
theorem d_AL_elementData_6 : decode b_AL_elementData 6 = .ok (.areturn, 1) := by decide +kernel
theorem d_AL_get_0 : decode b_AL_get 0 = .ok (.iload_n 1, 1) := by decide +kernel
theorem d_AL_get_1 : decode b_AL_get 1 = .ok (.aload_n 0, 1) := by decide +kernel
theorem d_AL_get_2 : decode b_AL_get 2 = .ok (.getfield 48, 3) := by decide +kernel
theorem d_AL_get_5 : decode b_AL_get 5 = .ok (.invokestatic 118, 3) := by decide +kernel
theorem d_AL_get_8 : decode b_AL_get 8 = .ok (.pop, 1) := by decide +kernel
theorem d_AL_get_9 : decode b_AL_get 9 = .ok (.aload_n 0, 1) := by decide +kernel
theorem d_AL_get_10 : decode b_AL_get 10 = .ok (.iload_n 1, 1) := by decide +kernel
theorem d_AL_get_11 : decode b_AL_get 11 = .ok (.invokevirtual 123, 3) := by decide +kernel
theorem d_AL_get_14 : decode b_AL_get 14 = .ok (.areturn, 1) := by decide +kernel
theorem d_AL_grow0_0 : decode b_AL_grow0 0 = .ok (.aload_n 0, 1) := by decide +kernel
theorem d_AL_grow0_1 : decode b_AL_grow0 1 = .ok (.aload_n 0, 1) := by decide +kernel
theorem d_AL_grow0_2 : decode b_AL_grow0 2 = .ok (.getfield 48, 3) := by decide +kernel
theorem d_AL_grow0_5 : decode b_AL_grow0 5 = .ok (.iconst 1, 1) := by decide +kernel
theorem d_AL_grow0_6 : decode b_AL_grow0 6 = .ok (.iadd, 1) := by decide +kernel
theorem d_AL_grow0_7 : decode b_AL_grow0 7 = .ok (.invokevirtual 69, 3) := by decide +kernel
theorem d_AL_grow0_10 : decode b_AL_grow0 10 = .ok (.areturn, 1) := by decide +kernel
theorem d_AL_grow1_0 : decode b_AL_grow1 0 = .ok (.aload_n 0, 1) := by decide +kernel
theorem d_AL_grow1_1 : decode b_AL_grow1 1 = .ok (.getfield 9, 3) := by decide +kernel
theorem d_AL_grow1_4 : decode b_AL_grow1 4 = .ok (.arraylength, 1) := by decide +kernel
theorem d_AL_grow1_5 : decode b_AL_grow1 5 = .ok (.istore_n 2, 1) := by decide +kernel
theorem d_AL_grow1_6 : decode b_AL_grow1 6 = .ok (.iload_n 2, 1) := by decide +kernel
theorem d_AL_grow1_7 : decode b_AL_grow1 7 = .ok (.ifCond .gt 13, 3) := by decide +kernel
theorem d_AL_grow1_10 : decode b_AL_grow1 10 = .ok (.aload_n 0, 1) := by decide +kernel
theorem d_AL_grow1_11 : decode b_AL_grow1 11 = .ok (.getfield 9, 3) := by decide +kernel
theorem d_AL_grow1_14 : decode b_AL_grow1 14 = .ok (.getstatic 39, 3) := by decide +kernel
theorem d_AL_grow1_17 : decode b_AL_grow1 17 = .ok (.if_acmp .eq 28, 3) := by decide +kernel
theorem d_AL_grow1_45 : decode b_AL_grow1 45 = .ok (.aload_n 0, 1) := by decide +kernel
theorem d_AL_grow1_46 : decode b_AL_grow1 46 = .ok (.bipush 10, 2) := by decide +kernel
theorem d_AL_grow1_48 : decode b_AL_grow1 48 = .ok (.iload_n 1, 1) := by decide +kernel
theorem d_AL_grow1_49 : decode b_AL_grow1 49 = .ok (.invokestatic 79, 3) := by decide +kernel
theorem d_AL_grow1_52 : decode b_AL_grow1 52 = .ok (.anewarray 7, 3) := by decide +kernel
theorem d_AL_grow1_55 : decode b_AL_grow1 55 = .ok (.dup_x1, 1) := by decide +kernel
theorem d_AL_grow1_56 : decode b_AL_grow1 56 = .ok (.putfield 9, 3) := by decide +kernel
theorem d_AL_grow1_59 : decode b_AL_grow1 59 = .ok (.areturn, 1) := by decide +kernel
theorem d_AL_init_0 : decode b_AL_init 0 = .ok (.aload_n 0, 1) := by decide +kernel
theorem d_AL_init_1 : decode b_AL_init 1 = .ok (.invokespecial 1, 3) := by decide +kernel
theorem d_AL_init_4 : decode b_AL_init 4 = .ok (.aload_n 0, 1) := by decide +kernel
theorem d_AL_init_5 : decode b_AL_init 5 = .ok (.getstatic 39, 3) := by decide +kernel
theorem d_AL_init_8 : decode b_AL_init 8 = .ok (.putfield 9, 3) := by decide +kernel
theorem d_AL_init_11 : decode b_AL_init 11 = .ok (.return_, 1) := by decide +kernel
theorem d_AL_isEmpty_0 : decode b_AL_isEmpty 0 = .ok (.aload_n 0, 1) := by decide +kernel
theorem d_AL_isEmpty_1 : decode b_AL_isEmpty 1 = .ok (.getfield 48, 3) := by decide +kernel
theorem d_AL_isEmpty_4 : decode b_AL_isEmpty 4 = .ok (.ifCond .ne 7, 3) := by decide +kernel
theorem d_AL_isEmpty_7 : decode b_AL_isEmpty 7 = .ok (.iconst 1, 1) := by decide +kernel
theorem d_AL_isEmpty_8 : decode b_AL_isEmpty 8 = .ok (.goto 4, 3) := by decide +kernel
theorem d_AL_isEmpty_11 : decode b_AL_isEmpty 11 = .ok (.iconst 0, 1) := by decide +kernel
theorem d_AL_isEmpty_12 : decode b_AL_isEmpty 12 = .ok (.ireturn, 1) := by decide +kernel
theorem d_AL_size_0 : decode b_AL_size 0 = .ok (.aload_n 0, 1) := by decide +kernel
theorem d_AL_size_1 : decode b_AL_size 1 = .ok (.getfield 48, 3) := by decide +kernel
theorem d_AL_size_4 : decode b_AL_size 4 = .ok (.ireturn, 1) := by decide +kernel
theorem d_AbC_init_0 : decode b_AbC_init 0 = .ok (.aload_n 0, 1) := by decide +kernel
theorem d_AbC_init_1 : decode b_AbC_init 1 = .ok (.invokespecial 1, 3) := by decide +kernel
theorem d_AbC_init_4 : decode b_AbC_init 4 = .ok (.return_, 1) := by decide +kernel
theorem d_AbL_init_0 : decode b_AbL_init 0 = .ok (.aload_n 0, 1) := by decide +kernel
theorem d_AbL_init_1 : decode b_AbL_init 1 = .ok (.invokespecial 1, 3) := by decide +kernel
theorem d_AbL_init_4 : decode b_AbL_init 4 = .ok (.aload_n 0, 1) := by decide +kernel
theorem d_AbL_init_5 : decode b_AbL_init 5 = .ok (.iconst 0, 1) := by decide +kernel
theorem d_AbL_init_6 : decode b_AbL_init 6 = .ok (.putfield 7, 3) := by decide +kernel
theorem d_AbL_init_9 : decode b_AbL_init 9 = .ok (.return_, 1) := by decide +kernel
theorem d_Objs_checkIndex_0 : decode b_Objs_checkIndex 0 = .ok (.iload_n 0, 1) := by decide +kernel
theorem d_Objs_checkIndex_1 : decode b_Objs_checkIndex 1 = .ok (.iload_n 1, 1) := by decide +kernel
theorem d_Objs_checkIndex_2 : decode b_Objs_checkIndex 2 = .ok (.aconst_null, 1) := by decide +kernel
theorem d_Objs_checkIndex_3 : decode b_Objs_checkIndex 3 = .ok (.invokestatic 105, 3) := by decide +kernel
theorem d_Objs_checkIndex_6 : decode b_Objs_checkIndex 6 = .ok (.ireturn, 1) := by decide +kernel
theorem d_Pre_checkIndex_0 : decode b_Pre_checkIndex 0 = .ok (.iload_n 0, 1) := by decide +kernel
theorem d_Pre_checkIndex_1 : decode b_Pre_checkIndex 1 = .ok (.ifCond .lt 8, 3) := by decide +kernel
theorem d_Pre_checkIndex_4 : decode b_Pre_checkIndex 4 = .ok (.iload_n 0, 1) := by decide +kernel
theorem d_Pre_checkIndex_5 : decode b_Pre_checkIndex 5 = .ok (.iload_n 1, 1) := by decide +kernel
theorem d_Pre_checkIndex_6 : decode b_Pre_checkIndex 6 = .ok (.if_icmp .lt 10, 3) := by decide +kernel
theorem d_Pre_checkIndex_16 : decode b_Pre_checkIndex 16 = .ok (.iload_n 0, 1) := by decide +kernel
theorem d_Pre_checkIndex_17 : decode b_Pre_checkIndex 17 = .ok (.ireturn, 1) := by decide +kernel
set_option maxHeartbeats 4000000 in
set_option maxRecDepth 100000 in
theorem c_AL_size (l : Launch) (D : va_G) (a b : Nat) (x mo : Int32)  : Met l y_AL_size [Cond.code y_AL_size b_AL_size 1 (some .int)] ({ frames := 0, cells := 0, slots := 0, locals := 0 }) (zP [.ref a] D [(a, .inr (12, [.ref b, .int x, .int mo]))] []) (vp_Si (fun r => r = x)) 0 0 (fun _ => False) := by
  refine Met.ofW (cc := b_AL_size) (maxL := 1) (ret := (some .int)) (by decide) rfl ?_
  intro p e s m args below meth cd s₁ Bd hml hv
  obtain ⟨rfl, hP, hK, hN⟩ := hv
  have hx := Bd.exec
  have hb := Bd.bytes
  have hr := Bd.returns
  have hts := hN.use (a := ([.ref a]).toArray)
  have hown : s.vm.findClass R_AL = some m.cls := findClass_of_methodNamed Bd.named
  have hlocks := Bd.notSynchronized
  have hP : va_P D classes [(a, .inr (12, [.ref b, .int x, .int mo]))] s.heap := hP
  have hl := lv_entry ([.ref a]) (n := 1) (Nat.le_of_ble_eq_true rfl)
  rw [lg_entry_eq]
  generalize (lg_sl ([.ref a]) ++ List.replicate (1 - (lg_sl ([.ref a])).length) Slot.unset).toArray = ls at hl ⊢
  have hl : lv_has ls 1 [(0, .ref a)] := hl
  refine lv_aload_n hx hb d_AL_size_0 rfl (lv_at hl 0 rfl) ?_
  refine va_get (D := D) (ci := 12) (v := .int x) (C := R_AL) (T := F_AL) (N := 3) hx hb hts i_AL hown hK hP 0 rfl rfl 1 (by decide) (hts _ wd_153) (fun _ h9 => h9) rfl d_AL_size_1 ?_
  exact W.iret (v := x) hx hb hr (fun t ht hW => ⟨_, rfl, rfl, ht⟩) (fun _ h => by cases h) d_AL_size_4
set_option maxHeartbeats 4000000 in
set_option maxRecDepth 100000 in
theorem c_AL_isEmpty (l : Launch) (D : va_G) (a b : Nat) (x mo : Int32)  : Met l y_AL_isEmpty [Cond.code y_AL_isEmpty b_AL_isEmpty 1 (some .boolean)] ({ frames := 0, cells := 0, slots := 0, locals := 0 }) (zP [.ref a] D [(a, .inr (12, [.ref b, .int x, .int mo]))] []) (vp_Si (fun r => r = if x = 0 then 1 else 0)) 0 0 (fun _ => False) := by
  refine Met.ofW (cc := b_AL_isEmpty) (maxL := 1) (ret := (some .boolean)) (by decide) rfl ?_
  intro p e s m args below meth cd s₁ Bd hml hv
  obtain ⟨rfl, hP, hK, hN⟩ := hv
  have hx := Bd.exec
  have hb := Bd.bytes
  have hr := Bd.returns
  have hts := hN.use (a := ([.ref a]).toArray)
  have hown : s.vm.findClass R_AL = some m.cls := findClass_of_methodNamed Bd.named
  have hlocks := Bd.notSynchronized
  have hP : va_P D classes [(a, .inr (12, [.ref b, .int x, .int mo]))] s.heap := hP
  have hl := lv_entry ([.ref a]) (n := 1) (Nat.le_of_ble_eq_true rfl)
  rw [lg_entry_eq]
  generalize (lg_sl ([.ref a]) ++ List.replicate (1 - (lg_sl ([.ref a])).length) Slot.unset).toArray = ls at hl ⊢
  have hl : lv_has ls 1 [(0, .ref a)] := hl
  refine lv_aload_n hx hb d_AL_isEmpty_0 rfl (lv_at hl 0 rfl) ?_
  refine va_get (D := D) (ci := 12) (v := .int x) (C := R_AL) (T := F_AL) (N := 3) hx hb hts i_AL hown hK hP 0 rfl rfl 1 (by decide) (hts _ wd_153) (fun _ h9 => h9) rfl d_AL_isEmpty_1 ?_
  refine lv_if_ne (tgt := 11) hx hb d_AL_isEmpty_4 rfl (fun h4 => ?_) (fun h4 => ?_)
  · refine lv_iconst (v := 0) hx hb d_AL_isEmpty_11 (by decide) ?_
    exact W.zret (v := 0) hx hb hr rfl (fun t ht hW => ⟨_, rfl, by first | rw [if_pos h4] | rw [if_neg h4], ht⟩) (fun _ h => by cases h) d_AL_isEmpty_12
  · refine lv_iconst (v := 1) hx hb d_AL_isEmpty_7 (by decide) ?_
    refine lv_goto (tgt := 12) hx hb d_AL_isEmpty_8 rfl ?_
    exact W.zret (v := 1) hx hb hr rfl (fun t ht hW => ⟨_, rfl, by first | rw [if_pos h4] | rw [if_neg h4], ht⟩) (fun _ h => by cases h) d_AL_isEmpty_12
set_option maxHeartbeats 4000000 in
set_option maxRecDepth 100000 in
theorem c_Pre_checkIndex (l : Launch) (D : va_G) (k n : Nat) (hk : k < n) (hn : n < 2 ^ 31) : Met l y_Pre_checkIndex [Cond.code y_Pre_checkIndex b_Pre_checkIndex 3 (some .int)] ({ frames := 0, cells := 0, slots := 0, locals := 0 }) (zP [.int (nI k), .int (nI n), .null] D [] []) (vp_Si (fun r => r = nI k)) 0 0 (fun _ => False) := by
  refine Met.ofW (cc := b_Pre_checkIndex) (maxL := 3) (ret := (some .int)) (by decide) rfl ?_
  intro p e s m args below meth cd s₁ Bd hml hv
  obtain ⟨rfl, hP, hK, hN⟩ := hv
  have hx := Bd.exec
  have hb := Bd.bytes
  have hr := Bd.returns
  have hts := hN.use (a := ([.int (nI k), .int (nI n), .null]).toArray)
  have hown : s.vm.findClass R_Pre = some m.cls := findClass_of_methodNamed Bd.named
  have hlocks := Bd.notSynchronized
  have hP : va_P D classes [] s.heap := hP
  have hl := lv_entry ([.int (nI k), .int (nI n), .null]) (n := 3) (Nat.le_of_ble_eq_true rfl)
  rw [lg_entry_eq]
  generalize (lg_sl ([.int (nI k), .int (nI n), .null]) ++ List.replicate (3 - (lg_sl ([.int (nI k), .int (nI n), .null])).length) Slot.unset).toArray = ls at hl ⊢
  have hl : lv_has ls 3 [(0, .int (nI k)), (1, .int (nI n)), (2, .null)] := hl
  refine lv_iload_n hx hb d_Pre_checkIndex_0 rfl (lv_at hl 0 rfl) ?_
  refine lv_if_lt (tgt := 9) hx hb d_Pre_checkIndex_1 rfl (fun h9 => absurd h9 (nI_pos (by omega))) (fun h1 => ?_)
  refine lv_iload_n hx hb d_Pre_checkIndex_4 rfl (lv_at hl 0 rfl) ?_
  refine lv_iload_n hx hb d_Pre_checkIndex_5 rfl (lv_at hl 1 rfl) ?_
  refine lv_icmp_lt (tgt := 16) hx hb d_Pre_checkIndex_6 rfl (fun h6 => ?_) (fun h9 => absurd (nI_lt hk hn) h9)
  refine lv_iload_n hx hb d_Pre_checkIndex_16 rfl (lv_at hl 0 rfl) ?_
  exact W.iret (v := (nI k)) hx hb hr (fun t ht hW => ⟨_, rfl, rfl, ht⟩) (fun _ h => by cases h) d_Pre_checkIndex_17
set_option maxHeartbeats 4000000 in
set_option maxRecDepth 100000 in
theorem c_Objs_checkIndex (l : Launch) (D : va_G) (k n : Nat) (hk : k < n) (hn : n < 2 ^ 31) : Met l y_Objs_checkIndex [Cond.code y_Objs_checkIndex b_Objs_checkIndex 2 (some .int)] ({ frames := 1, cells := 0, slots := 0, locals := 22 }) (zP [.int (nI k), .int (nI n)] D [] []) (vp_Si (fun r => r = nI k)) 0 0 (fun _ => False) := by
  refine Met.ofW (cc := b_Objs_checkIndex) (maxL := 2) (ret := (some .int)) (by decide) rfl ?_
  intro p e s m args below meth cd s₁ Bd hml hv
  obtain ⟨rfl, hP, hK, hN⟩ := hv
  have hx := Bd.exec
  have hb := Bd.bytes
  have hr := Bd.returns
  have hts := hN.use (a := ([.int (nI k), .int (nI n)]).toArray)
  have hown : s.vm.findClass R_Objs = some m.cls := findClass_of_methodNamed Bd.named
  have hlocks := Bd.notSynchronized
  have hP : va_P D classes [] s.heap := hP
  have hl := lv_entry ([.int (nI k), .int (nI n)]) (n := 2) (Nat.le_of_ble_eq_true rfl)
  rw [lg_entry_eq]
  generalize (lg_sl ([.int (nI k), .int (nI n)]) ++ List.replicate (2 - (lg_sl ([.int (nI k), .int (nI n)])).length) Slot.unset).toArray = ls at hl ⊢
  have hl : lv_has ls 2 [(0, .int (nI k)), (1, .int (nI n))] := hl
  refine lv_iload_n hx hb d_Objs_checkIndex_0 rfl (lv_at hl 0 rfl) ?_
  refine lv_iload_n hx hb d_Objs_checkIndex_1 rfl (lv_at hl 1 rfl) ?_
  refine lv_null hx hb d_Objs_checkIndex_2 ?_
  have hPc := hP.sub (ws' := []) [] rfl
  have hKc := hK.sub (tys' := []) [] rfl
  refine z_ci (va_runS (As := [.int (nI k), .int (nI n), .null]) (rest := []) ⟨hx, hb, hml, hown, hts⟩ (c_Pre_checkIndex l D k n hk hn) (z_cS hN wd_315 wd_76 wd_313 hd_Pre_checkIndex rfl rfl ⟨Nat.le_of_ble_eq_true rfl, Nat.le_of_ble_eq_true rfl⟩ wd_314) (z_preS hPc hKc hN) rfl rfl hl.1 rfl (lv_room (Nat.le_of_ble_eq_true rfl)) d_Objs_checkIndex_3 ⟨Nat.le_of_ble_eq_true rfl, Nat.le_of_ble_eq_true rfl⟩) (fun r3 e3 => ?_)
  subst e3
  exact W.iret (v := (nI k)) hx hb hr (fun t ht hW => ⟨_, rfl, rfl, ht⟩) (fun _ h => by cases h) d_Objs_checkIndex_6
set_option maxHeartbeats 4000000 in
set_option maxRecDepth 100000 in
theorem c_AL_elementData (l : Launch) (D : va_G) (cO : ClassId) (a b c : Nat) (mo : Int32) (g : Nat → Option Nat) (k : Nat) (hk : k < 10) : Met l y_AL_elementData [Cond.code y_AL_elementData b_AL_elementData 2 (some (.object "java/lang/Object"))] ({ frames := 0, cells := 0, slots := 0, locals := 0 }) (zP [.ref a, .int (nI k)] D [(a, .inr (12, [.ref b, .int (nI c), .int mo])), (b, .inl (cO, 10, .inr (.inr (.inr (.inr g)))))] [(cO, .object "java/lang/Object")]) (va_Sq (fun r => r = g k)) 0 0 (fun _ => False) := by
  refine Met.ofW (cc := b_AL_elementData) (maxL := 2) (ret := (some (.object "java/lang/Object"))) (by decide) rfl ?_
  intro p e s m args below meth cd s₁ Bd hml hv
  obtain ⟨rfl, hP, hK, hN⟩ := hv
  have hx := Bd.exec
  have hb := Bd.bytes
  have hr := Bd.returns
  have hts := hN.use (a := ([.ref a, .int (nI k)]).toArray)
  have hown : s.vm.findClass R_AL = some m.cls := findClass_of_methodNamed Bd.named
  have hlocks := Bd.notSynchronized
  have hP : va_P D classes [(a, .inr (12, [.ref b, .int (nI c), .int mo])), (b, .inl (cO, 10, .inr (.inr (.inr (.inr g)))))] s.heap := hP
  have hl := lv_entry ([.ref a, .int (nI k)]) (n := 2) (Nat.le_of_ble_eq_true rfl)
  rw [lg_entry_eq]
  generalize (lg_sl ([.ref a, .int (nI k)]) ++ List.replicate (2 - (lg_sl ([.ref a, .int (nI k)])).length) Slot.unset).toArray = ls at hl ⊢
  have hl : lv_has ls 2 [(0, .ref a), (1, .int (nI k))] := hl
  refine lv_aload_n hx hb d_AL_elementData_0 rfl (lv_at hl 0 rfl) ?_
  refine va_get (D := D) (ci := 12) (v := .ref b) (C := R_AL) (T := F_AL) (N := 3) hx hb hts i_AL hown hK hP 0 rfl rfl 0 (by decide) (hts _ wd_152) (fun _ h9 => h9) rfl d_AL_elementData_1 ?_
  refine lv_iload_n hx hb d_AL_elementData_4 rfl (lv_at hl 1 rfl) ?_
  refine z_aldq hx hb hK hP 1 0 rfl rfl k rfl (by omega) (by omega) d_AL_elementData_5 ?_
  exact W.aret (v := va_rf (g k)) hx hb hr (Or.inl ⟨_, rfl⟩) (va_rf_or _) (fun t ht hW => ⟨_, rfl, rfl, ht⟩) (fun _ h => by cases h) d_AL_elementData_6
set_option maxHeartbeats 4000000 in
set_option maxRecDepth 100000 in
theorem c_AL_get (l : Launch) (D : va_G) (cO : ClassId) (a b c : Nat) (mo : Int32) (g : Nat → Option Nat) (k : Nat) (hk : k < c) (hc : c ≤ 10) : Met l y_AL_get [Cond.code y_AL_get b_AL_get 2 (some (.object "java/lang/Object"))] ({ frames := 2, cells := 0, slots := 0, locals := 43 }) (zP [.ref a, .int (nI k)] D [(a, .inr (12, [.ref b, .int (nI c), .int mo])), (b, .inl (cO, 10, .inr (.inr (.inr (.inr g)))))] [(cO, .object "java/lang/Object")]) (va_Sq (fun r => r = g k)) 0 0 (fun _ => False) := by
  refine Met.ofW (cc := b_AL_get) (maxL := 2) (ret := (some (.object "java/lang/Object"))) (by decide) rfl ?_
  intro p e s m args below meth cd s₁ Bd hml hv
  obtain ⟨rfl, hP, hK, hN⟩ := hv
  have hx := Bd.exec
  have hb := Bd.bytes
  have hr := Bd.returns
  have hts := hN.use (a := ([.ref a, .int (nI k)]).toArray)
  have hown : s.vm.findClass R_AL = some m.cls := findClass_of_methodNamed Bd.named
  have hlocks := Bd.notSynchronized
  have hP : va_P D classes [(a, .inr (12, [.ref b, .int (nI c), .int mo])), (b, .inl (cO, 10, .inr (.inr (.inr (.inr g)))))] s.heap := hP
  have hl := lv_entry ([.ref a, .int (nI k)]) (n := 2) (Nat.le_of_ble_eq_true rfl)
  rw [lg_entry_eq]
  generalize (lg_sl ([.ref a, .int (nI k)]) ++ List.replicate (2 - (lg_sl ([.ref a, .int (nI k)])).length) Slot.unset).toArray = ls at hl ⊢
  have hl : lv_has ls 2 [(0, .ref a), (1, .int (nI k))] := hl
  refine lv_iload_n hx hb d_AL_get_0 rfl (lv_at hl 1 rfl) ?_
  refine lv_aload_n hx hb d_AL_get_1 rfl (lv_at hl 0 rfl) ?_
  refine va_get (D := D) (ci := 12) (v := .int (nI c)) (C := R_AL) (T := F_AL) (N := 3) hx hb hts i_AL hown hK hP 0 rfl rfl 1 (by decide) (hts _ wd_153) (fun _ h9 => h9) rfl d_AL_get_2 ?_
  have hPc := hP.sub (ws' := []) [] rfl
  have hKc := hK.sub (tys' := []) [] rfl
  refine z_ci (va_runS (As := [.int (nI k), .int (nI c)]) (rest := []) ⟨hx, hb, hml, hown, hts⟩ (c_Objs_checkIndex l D k c hk (by omega)) (z_cS hN wd_312 wd_75 wd_310 hd_Objs_checkIndex rfl rfl ⟨Nat.le_of_ble_eq_true rfl, Nat.le_of_ble_eq_true rfl⟩ wd_311) (z_preS hPc hKc hN) rfl rfl hl.1 rfl (lv_room (Nat.le_of_ble_eq_true rfl)) d_AL_get_5 ⟨Nat.le_of_ble_eq_true rfl, Nat.le_of_ble_eq_true rfl⟩) (fun r5 e5 => ?_)
  subst e5
  refine lv_pop hx hb d_AL_get_8 rfl ?_
  refine lv_aload_n hx hb d_AL_get_9 rfl (lv_at hl 0 rfl) ?_
  refine lv_iload_n hx hb d_AL_get_10 rfl (lv_at hl 1 rfl) ?_
  have hPc := hP.sub (ws' := [(a, .inr (12, [.ref b, .int (nI c), .int mo])), (b, .inl (cO, 10, .inr (.inr (.inr (.inr g)))))]) [0, 1] rfl
  have hKc := hK.sub (tys' := [(cO, .object "java/lang/Object")]) [0] rfl
  refine z_cq (va_runV (As := [.int (nI k)]) (rest := []) ⟨hx, hb, hml, hown, hts⟩ (c_AL_elementData l D cO a b c mo g k (by omega)) (z_cV hN wd_319 wd_66 wd_316 hd_AL_elementData rfl rfl ⟨Nat.le_of_ble_eq_true rfl, Nat.le_of_ble_eq_true rfl⟩ wd_317 wd_318) (z_preV (va_recv (ci := 12) (q0 := 0) hK hP rfl rfl) hPc hKc hN) rfl rfl hl.1 rfl (lv_room (Nat.le_of_ble_eq_true rfl)) d_AL_get_11 ⟨Nat.le_of_ble_eq_true rfl, Nat.le_of_ble_eq_true rfl⟩) (fun r11 e11 => ?_)
  subst e11
  exact W.aret (v := va_rf (g k)) hx hb hr (Or.inl ⟨_, rfl⟩) (va_rf_or _) (fun t ht hW => ⟨_, rfl, rfl, ht⟩) (fun _ h => by cases h) d_AL_get_14
set_option maxHeartbeats 4000000 in
set_option maxRecDepth 100000 in
theorem c_AbC_init (l : Launch) (D : va_G) (a : Nat)  : Met l y_AbC_init [Cond.code y_AbC_init b_AbC_init 1 none] ({ frames := 1, cells := 0, slots := 0, locals := 12 }) (zP [.ref a] D [] []) (va_Sv (fun _ => True)) 0 0 (fun _ => False) := by
  refine Met.ofW (cc := b_AbC_init) (maxL := 1) (ret := none) (by decide) rfl ?_
  intro p e s m args below meth cd s₁ Bd hml hv
  obtain ⟨rfl, hP, hK, hN⟩ := hv
  have hx := Bd.exec
  have hb := Bd.bytes
  have hr := Bd.returns
  have hts := hN.use (a := ([.ref a]).toArray)
  have hown : s.vm.findClass R_AbC = some m.cls := findClass_of_methodNamed Bd.named
  have hlocks := Bd.notSynchronized
  have hin : meth.name = "<init>" := (name_of_methodNamed Bd.named Bd.method).1
  have hP : va_P D classes [] s.heap := hP
  have hl := lv_entry ([.ref a]) (n := 1) (Nat.le_of_ble_eq_true rfl)
  rw [lg_entry_eq]
  generalize (lg_sl ([.ref a]) ++ List.replicate (1 - (lg_sl ([.ref a])).length) Slot.unset).toArray = ls at hl ⊢
  have hl : lv_has ls 1 [(0, .ref a)] := hl
  refine lv_aload_n hx hb d_AbC_init_0 rfl (lv_at hl 0 rfl) ?_
  refine W.objInit hx hb hown (hts _ wd_149) (hts _ wd_92) (hts _ wd_93) rfl (by rw [hml]; exact hl.1) rfl d_AbC_init_1 (Nat.le_of_ble_eq_true rfl) (Nat.le_of_ble_eq_true rfl) ?_
  refine W.eq (g2 := F0 m 4 ls []) rfl ?_
  exact W.vret hx hb hr (fun t ht hW => ⟨rfl, trivial, ht⟩) (fun _ h => by cases h) d_AbC_init_4
set_option maxHeartbeats 4000000 in
set_option maxRecDepth 100000 in
theorem c_AbL_init (l : Launch) (D : va_G) (sz : Nat) (a : Nat) (x mo : Int32)  : Met l y_AbL_init [Cond.code y_AbL_init b_AbL_init 1 none] ({ frames := 2, cells := 0, slots := 0, locals := 32 }) (zM [.ref a] D [(a, .inr (12, [.null, .int x, .int mo]))] [] sz) (va_Qv (fun (_ : Unit) => True) (fun (_u : Unit) t => zW D (va_A [(a, .inr (12, [.null, .int x, .int mo]))] sz) [(a, .inr (12, [.null, .int x, .int 0]))] [] t) (va_A [(a, .inr (12, [.null, .int x, .int mo]))] sz)) 0 0 (va_A [(a, .inr (12, [.null, .int x, .int mo]))] sz) := by
  refine Met.ofW (cc := b_AbL_init) (maxL := 1) (ret := none) (by decide) rfl ?_
  intro p e s m args below meth cd s₁ Bd hml hv
  obtain ⟨rfl, hsz, hP, hK, hN, hD0⟩ := hv
  have hx := Bd.exec
  have hb := Bd.bytes
  have hr := Bd.returns
  have hts := hN.use (a := ([.ref a]).toArray)
  have hown : s.vm.findClass R_AbL = some m.cls := findClass_of_methodNamed Bd.named
  have hlocks := Bd.notSynchronized
  have hin : meth.name = "<init>" := (name_of_methodNamed Bd.named Bd.method).1
  subst hsz
  have hD := hD0.self (sz := s.heap.size)
  clear hD0
  have hA : ∀ q : Nat, s.heap.size ≤ q → va_A [(a, .inr (12, [.null, .int x, .int mo]))] s.heap.size q := fun q h => Or.inr h
  have hS : va_S (va_A [(a, .inr (12, [.null, .int x, .int mo]))] s.heap.size) s.heap s.heap [] := va_S.rf
  generalize hAe : va_A [(a, .inr (12, [.null, .int x, .int mo]))] s.heap.size = A at hD hA hS ⊢
  have hP : va_P D classes [(a, .inr (12, [.null, .int x, .int mo]))] s.heap := hP
  have hl := lv_entry ([.ref a]) (n := 1) (Nat.le_of_ble_eq_true rfl)
  rw [lg_entry_eq]
  generalize (lg_sl ([.ref a]) ++ List.replicate (1 - (lg_sl ([.ref a])).length) Slot.unset).toArray = ls at hl ⊢
  have hl : lv_has ls 1 [(0, .ref a)] := hl
  refine lv_aload_n hx hb d_AbL_init_0 rfl (lv_at hl 0 rfl) ?_
  have hPc := hP.sub (ws' := []) [] rfl
  have hKc := hK.sub (tys' := []) [] rfl
  refine z_cv (va_runI (As := []) (rest := []) ⟨hx, hb, hml, hown, hts⟩ (c_AbC_init l D a ) (z_cI hN wd_148 wd_64 wd_146 hd_AbC_init rfl rfl ⟨Nat.le_of_ble_eq_true rfl, Nat.le_of_ble_eq_true rfl⟩ wd_147 rfl) (z_preS hPc hKc hN) rfl rfl hl.1 rfl (lv_room (Nat.le_of_ble_eq_true rfl)) d_AbL_init_1 ⟨Nat.le_of_ble_eq_true rfl, Nat.le_of_ble_eq_true rfl⟩) (fun e1 => ?_)
  refine lv_aload_n hx hb d_AbL_init_4 rfl (lv_at hl 0 rfl) ?_
  refine lv_iconst (v := 0) hx hb d_AbL_init_5 (by decide) ?_
  refine va_put (D := D) (ci := 12) (v := .int 0) (ty := .int) (C := R_AL) (T := F_AL) (N := 3) hx hb hts i_AL t_AL t_AL_ok n_AL hown hK hP hD hS 0 rfl rfl 2 (by decide) (hts _ wd_154) (fun _ h9 => h9) rfl (by decide +kernel) rfl rfl (Nat.le_of_ble_eq_true rfl) d_AbL_init_6 (fun H locs hP hD hS => ?_)
  have hP : va_P D classes [(a, .inr (12, [.null, .int x, .int 0]))] H := hP
  have hD : va_D A [(a, .inr (12, [.null, .int x, .int 0]))] := hD
  have hP9 := hP.sub (ws' := [(a, .inr (12, [.null, .int x, .int 0]))]) [0] rfl
  have hD9 := hD.sub (ws' := [(a, .inr (12, [.null, .int x, .int 0]))]) [0] (by decide) rfl
  have hK9 := hK.sub (tys' := []) [] rfl
  exact W.vret hx hb hr (fun t ht hW => ⟨⟨(), rfl, trivial, ⟨by rw [ht]; exact hP9, va_K.moved hW.alike hK9, hD9⟩⟩, hS.F ht⟩) hS.2.2 d_AbL_init_9
set_option maxHeartbeats 4000000 in
set_option maxRecDepth 100000 in
theorem c_AL_init (l : Launch) (D : va_G) (B0 : State) (hG : zG B0) (sz : Nat) (a e0 : Nat) (he0 : zE0 B0 e0) : Met l y_AL_init [Cond.code y_AL_init b_AL_init 1 none] ({ frames := 3, cells := 0, slots := 0, locals := 52 }) (zMo [.ref a] D [(a, .inr (12, [.null, .int 0, .int 0]))] [] sz B0) (va_Qv (fun (_ : Unit) => True) (fun (_u : Unit) t => zW D (va_A [(a, .inr (12, [.null, .int 0, .int 0]))] sz) [(a, .inr (12, [.ref e0, .int 0, .int 0]))] [] t) (va_A [(a, .inr (12, [.null, .int 0, .int 0]))] sz)) 0 0 (va_A [(a, .inr (12, [.null, .int 0, .int 0]))] sz) := by
  refine Met.ofW (cc := b_AL_init) (maxL := 1) (ret := none) (by decide) rfl ?_
  intro p e s m args below meth cd s₁ Bd hml hv
  obtain ⟨rfl, hsz, hP, hK, hN, hD0, hO⟩ := hv
  have hx := Bd.exec
  have hb := Bd.bytes
  have hr := Bd.returns
  have hts := hN.use (a := ([.ref a]).toArray)
  have hown : s.vm.findClass R_AL = some m.cls := findClass_of_methodNamed Bd.named
  have hlocks := Bd.notSynchronized
  have hin : meth.name = "<init>" := (name_of_methodNamed Bd.named Bd.method).1
  subst hsz
  have hD := hD0.self (sz := s.heap.size)
  have hAO := z_AO hD0 hO
  clear hD0
  have hA : ∀ q : Nat, s.heap.size ≤ q → va_A [(a, .inr (12, [.null, .int 0, .int 0]))] s.heap.size q := fun q h => Or.inr h
  have hS : va_S (va_A [(a, .inr (12, [.null, .int 0, .int 0]))] s.heap.size) s.heap s.heap [] := va_S.rf
  generalize hAe : va_A [(a, .inr (12, [.null, .int 0, .int 0]))] s.heap.size = A at hD hA hS hAO ⊢
  have hP : va_P D classes [(a, .inr (12, [.null, .int 0, .int 0]))] s.heap := hP
  have hl := lv_entry ([.ref a]) (n := 1) (Nat.le_of_ble_eq_true rfl)
  rw [lg_entry_eq]
  generalize (lg_sl ([.ref a]) ++ List.replicate (1 - (lg_sl ([.ref a])).length) Slot.unset).toArray = ls at hl ⊢
  have hl : lv_has ls 1 [(0, .ref a)] := hl
  refine lv_aload_n hx hb d_AL_init_0 rfl (lv_at hl 0 rfl) ?_
  have hPc := hP.sub (ws' := [(a, .inr (12, [.null, .int 0, .int 0]))]) [0] rfl
  have hKc := hK.sub (tys' := []) [] rfl
  have hDc := hD.sub (ws' := [(a, .inr (12, [.null, .int 0, .int 0]))]) [0] (by decide) rfl
  have hFc := va_free (wc := [(a, .inr (12, [.null, .int 0, .int 0]))]) hD hS hA [0] rfl
  refine va_callv (va_runI (As := []) (rest := []) ⟨hx, hb, hml, hown, hts⟩ (c_AbL_init l D s.heap.size a 0 0 ) (z_cI hN wd_145 wd_65 wd_143 hd_AbL_init rfl rfl ⟨Nat.le_of_ble_eq_true rfl, Nat.le_of_ble_eq_true rfl⟩ wd_144 rfl) (z_preSm hPc hKc hN hDc) rfl rfl hl.1 rfl (lv_room (Nat.le_of_ble_eq_true rfl)) d_AL_init_1 ⟨Nat.le_of_ble_eq_true rfl, Nat.le_of_ble_eq_true rfl⟩) hS (fun q _ h => hFc q h) hFc (fun u1 t H locs ht hvm e1 hB hz1 hk1 hS => ?_)
  obtain ⟨hP1, hK1, hD1⟩ := hB
  rw [ht] at hP1
  obtain ⟨hP, hD⟩ := va_join (wr := []) (w1 := [(a, .inr (12, [.null, .int 0, .int 0]))]) hP hD [0] [] rfl rfl (by decide) (by decide) hk1 hFc hP1 hD1
  clear hk1 hP1 hD1 hFc hPc hDc hz1
  have hP : va_P D classes [(a, .inr (12, [.null, .int 0, .int 0]))] H := hP
  have hD : va_D A [(a, .inr (12, [.null, .int 0, .int 0]))] := hD
  refine lv_aload_n hx hb d_AL_init_4 rfl (lv_at hl 0 rfl) ?_
  refine va_gets hx hb (he0.Z hO hAO) hS hown (hts _ wd_150) (fun _ h9 => h9) d_AL_init_5 ?_
  refine va_put (D := D) (ci := 12) (v := .ref e0) (ty := (.array (.object "java/lang/Object"))) (C := R_AL) (T := F_AL) (N := 3) hx hb hts i_AL t_AL t_AL_ok n_AL hown hK hP hD hS 0 rfl rfl 0 (by decide) (hts _ wd_152) (fun _ h9 => h9) rfl (by decide +kernel) rfl rfl (Nat.le_of_ble_eq_true rfl) d_AL_init_8 (fun H locs hP hD hS => ?_)
  have hP : va_P D classes [(a, .inr (12, [.ref e0, .int 0, .int 0]))] H := hP
  have hD : va_D A [(a, .inr (12, [.ref e0, .int 0, .int 0]))] := hD
  have hP9 := hP.sub (ws' := [(a, .inr (12, [.ref e0, .int 0, .int 0]))]) [0] rfl
  have hD9 := hD.sub (ws' := [(a, .inr (12, [.ref e0, .int 0, .int 0]))]) [0] (by decide) rfl
  have hK9 := hK.sub (tys' := []) [] rfl
  exact W.vret hx hb hr (fun t ht hW => ⟨⟨(), rfl, trivial, ⟨by rw [ht]; exact hP9, va_K.moved hW.alike hK9, hD9⟩⟩, hS.F ht⟩) hS.2.2 d_AL_init_11
set_option maxHeartbeats 4000000 in
set_option maxRecDepth 100000 in
theorem c_AL_grow1 (l : Launch) (D : va_G) (B0 : State) (hG : zG B0) (sz : Nat) (cO : ClassId) (a e0 : Nat) (mo : Int32) (he0 : zE0 B0 e0) : Met l y_AL_grow1 [Cond.code y_AL_grow1 b_AL_grow1 4 (some (.array (.object "java/lang/Object")))] ({ frames := 1, cells := 1, slots := 10, locals := 14 }) (zMo [.ref a, .int 1] D [(a, .inr (12, [.ref e0, .int 0, .int mo]))] [(cO, .object "java/lang/Object")] sz B0) (va_Qr (fun (_ : Unit) => True) (fun (_u : Unit) ra t => zW D (va_A [(a, .inr (12, [.ref e0, .int 0, .int mo]))] sz) [(a, .inr (12, [.ref ra, .int 0, .int mo])), (ra, .inl (cO, 10, .inr (.inr (.inr (.inr (fun _ => none))))))] [(cO, .object "java/lang/Object")] t) (va_A [(a, .inr (12, [.ref e0, .int 0, .int mo]))] sz)) 1 10 (va_A [(a, .inr (12, [.ref e0, .int 0, .int mo]))] sz) := by
  refine Met.ofW (cc := b_AL_grow1) (maxL := 4) (ret := (some (.array (.object "java/lang/Object")))) (by decide) rfl ?_
  intro p e s m args below meth cd s₁ Bd hml hv
  obtain ⟨rfl, hsz, hP, hK, hN, hD0, hO⟩ := hv
  have hx := Bd.exec
  have hb := Bd.bytes
  have hr := Bd.returns
  have hts := hN.use (a := ([.ref a, .int 1]).toArray)
  have hown : s.vm.findClass R_AL = some m.cls := findClass_of_methodNamed Bd.named
  have hlocks := Bd.notSynchronized
  subst hsz
  have hD := hD0.self (sz := s.heap.size)
  have hAO := z_AO hD0 hO
  clear hD0
  have hA : ∀ q : Nat, s.heap.size ≤ q → va_A [(a, .inr (12, [.ref e0, .int 0, .int mo]))] s.heap.size q := fun q h => Or.inr h
  have hS : va_S (va_A [(a, .inr (12, [.ref e0, .int 0, .int mo]))] s.heap.size) s.heap s.heap [] := va_S.rf
  generalize hAe : va_A [(a, .inr (12, [.ref e0, .int 0, .int mo]))] s.heap.size = A at hD hA hS hAO ⊢
  have hP : va_P D classes [(a, .inr (12, [.ref e0, .int 0, .int mo]))] s.heap := hP
  have hl := lv_entry ([.ref a, .int 1]) (n := 4) (Nat.le_of_ble_eq_true rfl)
  rw [lg_entry_eq]
  generalize (lg_sl ([.ref a, .int 1]) ++ List.replicate (4 - (lg_sl ([.ref a, .int 1])).length) Slot.unset).toArray = ls at hl ⊢
  have hl : lv_has ls 4 [(0, .ref a), (1, .int 1)] := hl
  refine lv_aload_n hx hb d_AL_grow1_0 rfl (lv_at hl 0 rfl) ?_
  refine va_get (D := D) (ci := 12) (v := .ref e0) (C := R_AL) (T := F_AL) (N := 3) hx hb hts i_AL hown hK hP 0 rfl rfl 0 (by decide) (hts _ wd_152) (fun _ h9 => h9) rfl d_AL_grow1_1 ?_
  refine va_tlen (v := 0) hx hb (he0.T hO hAO) hS rfl d_AL_grow1_4 ?_
  refine lv_istore_n (lv' := [(2, .int 0), (0, .ref a), (1, .int 1)]) hx hb d_AL_grow1_5 rfl hl (by decide) rfl (fun ls hl => ?_)
  refine lv_iload_n hx hb d_AL_grow1_6 rfl (lv_at hl 0 rfl) ?_
  refine lv_if_gt (tgt := 20) hx hb d_AL_grow1_7 rfl (fun h9 => absurd h9 (by decide)) (fun h7 => ?_)
  refine lv_aload_n hx hb d_AL_grow1_10 rfl (lv_at hl 1 rfl) ?_
  refine va_get (D := D) (ci := 12) (v := .ref e0) (C := R_AL) (T := F_AL) (N := 3) hx hb hts i_AL hown hK hP 0 rfl rfl 0 (by decide) (hts _ wd_152) (fun _ h9 => h9) rfl d_AL_grow1_11 ?_
  refine va_gets hx hb (he0.Z hO hAO) hS hown (hts _ wd_150) (fun _ h9 => h9) d_AL_grow1_14 ?_
  refine lv_acmp_eq (rx := some e0) (ry := some e0) (tgt := 45) hx hb d_AL_grow1_17 rfl (fun h17 => ?_) (fun h9 => absurd rfl h9)
  refine lv_aload_n hx hb d_AL_grow1_45 rfl (lv_at hl 1 rfl) ?_
  refine lv_bipush (v := 10) hx hb d_AL_grow1_46 (by decide) ?_
  refine lv_iload_n hx hb d_AL_grow1_48 rfl (lv_at hl 2 rfl) ?_
  refine va_mmax hx hb (by rw [hml]; exact hl.1.symm) hown (hts _ wd_521) (hts _ wd_482) (hts _ wd_80) (hts _ wd_483) (Nat.le_of_ble_eq_true rfl) (Nat.le_of_ble_eq_true rfl) (by show 0 ≤ 1; omega) (by show 0 ≤ 10; omega) d_AL_grow1_49 ?_
  refine z_topi (w := 10) (by decide) ?_
  refine z_newq hx hb hown (hts _ wd_522) (z_over hG hO (by decide +kernel)) hK hP hD hS hA 0 rfl (N' := 10) (by decide) (by decide) (by omega) (by show 0 + 1 ≤ 1; omega) (by show 0 + 10 ≤ 10; omega) d_AL_grow1_52 (fun q9 H hP hD hS => ?_)
  have hP : va_P D classes [(a, .inr (12, [.ref e0, .int 0, .int mo])), (q9, .inl (cO, 10, .inr (.inr (.inr (.inr (fun _ => none))))))] H := hP
  have hD : va_D A [(a, .inr (12, [.ref e0, .int 0, .int mo])), (q9, .inl (cO, 10, .inr (.inr (.inr (.inr (fun _ => none))))))] := hD
  refine lv_dup_x1 hx hb d_AL_grow1_55 rfl rfl ?_
  refine va_put (D := D) (ci := 12) (v := .ref q9) (ty := (.array (.object "java/lang/Object"))) (C := R_AL) (T := F_AL) (N := 3) hx hb hts i_AL t_AL t_AL_ok n_AL hown hK hP hD hS 0 rfl rfl 0 (by decide) (hts _ wd_152) (fun _ h9 => h9) rfl (by decide +kernel) rfl rfl (Nat.le_of_ble_eq_true rfl) d_AL_grow1_56 (fun H locs hP hD hS => ?_)
  have hP : va_P D classes [(a, .inr (12, [.ref q9, .int 0, .int mo])), (q9, .inl (cO, 10, .inr (.inr (.inr (.inr (fun _ => none))))))] H := hP
  have hD : va_D A [(a, .inr (12, [.ref q9, .int 0, .int mo])), (q9, .inl (cO, 10, .inr (.inr (.inr (.inr (fun _ => none))))))] := hD
  have hP9 := hP.sub (ws' := [(a, .inr (12, [.ref q9, .int 0, .int mo])), (q9, .inl (cO, 10, .inr (.inr (.inr (.inr (fun _ => none))))))]) [0, 1] rfl
  have hD9 := hD.sub (ws' := [(a, .inr (12, [.ref q9, .int 0, .int mo])), (q9, .inl (cO, 10, .inr (.inr (.inr (.inr (fun _ => none))))))]) [0, 1] (by decide) rfl
  have hK9 := hK.sub (tys' := [(cO, .object "java/lang/Object")]) [0] rfl
  refine W.widen (k := 1) (n := 10) (by omega) (by omega) ?_
  exact W.aret (v := (.ref q9)) hx hb hr (Or.inr ⟨_, rfl⟩) (Or.inr ⟨_, rfl⟩) (fun t ht hW => ⟨⟨(), _, rfl, trivial, ⟨by rw [ht]; exact hP9, va_K.moved hW.alike hK9, hD9⟩⟩, hS.F ht⟩) hS.2.2 d_AL_grow1_59
set_option maxHeartbeats 4000000 in
set_option maxRecDepth 100000 in
theorem c_AL_grow0 (l : Launch) (D : va_G) (B0 : State) (hG : zG B0) (sz : Nat) (cO : ClassId) (a e0 : Nat) (mo : Int32) (he0 : zE0 B0 e0) : Met l y_AL_grow0 [Cond.code y_AL_grow0 b_AL_grow0 1 (some (.array (.object "java/lang/Object")))] ({ frames := 2, cells := 1, slots := 10, locals := 37 }) (zMo [.ref a] D [(a, .inr (12, [.ref e0, .int 0, .int mo]))] [(cO, .object "java/lang/Object")] sz B0) (va_Qr (fun (_ : Unit) => True) (fun (_u : Unit) ra t => zW D (va_A [(a, .inr (12, [.ref e0, .int 0, .int mo]))] sz) [(a, .inr (12, [.ref ra, .int 0, .int mo])), (ra, .inl (cO, 10, .inr (.inr (.inr (.inr (fun _ => none))))))] [(cO, .object "java/lang/Object")] t) (va_A [(a, .inr (12, [.ref e0, .int 0, .int mo]))] sz)) 1 10 (va_A [(a, .inr (12, [.ref e0, .int 0, .int mo]))] sz) := by
  refine Met.ofW (cc := b_AL_grow0) (maxL := 1) (ret := (some (.array (.object "java/lang/Object")))) (by decide) rfl ?_
  intro p e s m args below meth cd s₁ Bd hml hv
  obtain ⟨rfl, hsz, hP, hK, hN, hD0, hO⟩ := hv
  have hx := Bd.exec
  have hb := Bd.bytes
  have hr := Bd.returns
  have hts := hN.use (a := ([.ref a]).toArray)
  have hown : s.vm.findClass R_AL = some m.cls := findClass_of_methodNamed Bd.named
  have hlocks := Bd.notSynchronized
  subst hsz
  have hD := hD0.self (sz := s.heap.size)
  have hAO := z_AO hD0 hO
  clear hD0
  have hA : ∀ q : Nat, s.heap.size ≤ q → va_A [(a, .inr (12, [.ref e0, .int 0, .int mo]))] s.heap.size q := fun q h => Or.inr h
  have hS : va_S (va_A [(a, .inr (12, [.ref e0, .int 0, .int mo]))] s.heap.size) s.heap s.heap [] := va_S.rf
  generalize hAe : va_A [(a, .inr (12, [.ref e0, .int 0, .int mo]))] s.heap.size = A at hD hA hS hAO ⊢
  have hP : va_P D classes [(a, .inr (12, [.ref e0, .int 0, .int mo]))] s.heap := hP
  have hl := lv_entry ([.ref a]) (n := 1) (Nat.le_of_ble_eq_true rfl)
  rw [lg_entry_eq]
  generalize (lg_sl ([.ref a]) ++ List.replicate (1 - (lg_sl ([.ref a])).length) Slot.unset).toArray = ls at hl ⊢
  have hl : lv_has ls 1 [(0, .ref a)] := hl
  refine lv_aload_n hx hb d_AL_grow0_0 rfl (lv_at hl 0 rfl) ?_
  refine lv_aload_n hx hb d_AL_grow0_1 rfl (lv_at hl 0 rfl) ?_
  refine va_get (D := D) (ci := 12) (v := .int 0) (C := R_AL) (T := F_AL) (N := 3) hx hb hts i_AL hown hK hP 0 rfl rfl 1 (by decide) (hts _ wd_153) (fun _ h9 => h9) rfl d_AL_grow0_2 ?_
  refine lv_iconst (v := 1) hx hb d_AL_grow0_5 (by decide) ?_
  refine lv_iadd hx hb d_AL_grow0_6 ?_
  refine z_topi (w := 1) (by decide) ?_
  have hPc := hP.sub (ws' := [(a, .inr (12, [.ref e0, .int 0, .int mo]))]) [0] rfl
  have hKc := hK.sub (tys' := [(cO, .object "java/lang/Object")]) [0] rfl
  have hDc := hD.sub (ws' := [(a, .inr (12, [.ref e0, .int 0, .int mo]))]) [0] (by decide) rfl
  have hFc := va_free (wc := [(a, .inr (12, [.ref e0, .int 0, .int mo]))]) hD hS hA [0] rfl
  refine va_callr (va_runV (As := [.int 1]) (rest := []) ⟨hx, hb, hml, hown, hts⟩ (c_AL_grow1 l D B0 hG s.heap.size cO a e0 mo he0) (z_cV hN wd_477 wd_66 wd_474 hd_AL_grow1 rfl rfl ⟨Nat.le_of_ble_eq_true rfl, Nat.le_of_ble_eq_true rfl⟩ wd_476 wd_14) (z_preVo (va_recv (ci := 12) (q0 := 0) hK hP rfl rfl) hPc hKc hN hDc hO hS hAO) rfl rfl hl.1 rfl (lv_room (Nat.le_of_ble_eq_true rfl)) d_AL_grow0_7 ⟨Nat.le_of_ble_eq_true rfl, Nat.le_of_ble_eq_true rfl⟩) hS (fun q _ h => hFc q h) hFc (fun u7 q7 t H locs ht hvm e7 hB hz1 hk1 hS => ?_)
  obtain ⟨hP1, hK1, hD1⟩ := hB
  rw [ht] at hP1
  obtain ⟨hP, hD⟩ := va_join (wr := []) (w1 := [(a, .inr (12, [.ref q7, .int 0, .int mo])), (q7, .inl (cO, 10, .inr (.inr (.inr (.inr (fun _ => none))))))]) hP hD [0] [] rfl rfl (by decide) (by decide) hk1 hFc hP1 hD1
  clear hk1 hP1 hD1 hFc hPc hDc hz1
  have hP : va_P D classes [(a, .inr (12, [.ref q7, .int 0, .int mo])), (q7, .inl (cO, 10, .inr (.inr (.inr (.inr (fun _ => none))))))] H := hP
  have hD : va_D A [(a, .inr (12, [.ref q7, .int 0, .int mo])), (q7, .inl (cO, 10, .inr (.inr (.inr (.inr (fun _ => none))))))] := hD
  have hP9 := hP.sub (ws' := [(a, .inr (12, [.ref q7, .int 0, .int mo])), (q7, .inl (cO, 10, .inr (.inr (.inr (.inr (fun _ => none))))))]) [0, 1] rfl
  have hD9 := hD.sub (ws' := [(a, .inr (12, [.ref q7, .int 0, .int mo])), (q7, .inl (cO, 10, .inr (.inr (.inr (.inr (fun _ => none))))))]) [0, 1] (by decide) rfl
  have hK9 := hK.sub (tys' := [(cO, .object "java/lang/Object")]) [0] rfl
  refine W.widen (k := 1) (n := 10) (by omega) (by omega) ?_
  exact W.aret (v := (.ref q7)) hx hb hr (Or.inr ⟨_, rfl⟩) (Or.inr ⟨_, rfl⟩) (fun t ht hW => ⟨⟨(), _, rfl, trivial, ⟨by rw [ht]; exact hP9, va_K.moved hW.alike hK9, hD9⟩⟩, hS.F ht⟩) hS.2.2 d_AL_grow0_10
set_option maxHeartbeats 4000000 in
set_option maxRecDepth 100000 in
theorem c_AL_add1e (l : Launch) (D : va_G) (B0 : State) (hG : zG B0) (sz : Nat) (cO : ClassId) (a e0 : Nat) (mo : Int32) (v ci : Nat) (vs : List Value) (rr : vw_C) (he0 : zE0 B0 e0) (hci : classes[ci]? = some rr) (hca : Cond.castable rr.1 "java/lang/Object" ∈ lw_ok) : Met l y_AL_add1 [Cond.code y_AL_add1 b_AL_add1 4 none] ({ frames := 3, cells := 1, slots := 10, locals := 57 }) (zMo [.ref a, .ref v, .ref e0, .int 0] D [(a, .inr (12, [.ref e0, .int 0, .int mo])), (v, .inr (ci, vs))] [(cO, .object "java/lang/Object")] sz B0) (va_Qv (fun (_ : Nat) => True) (fun (u : Nat) t => zW D (va_A [(a, .inr (12, [.ref e0, .int 0, .int mo])), (v, .inr (ci, vs))] sz) [(a, .inr (12, [.ref u, .int 1, .int mo])), (u, .inl (cO, 10, .inr (.inr (.inr (.inr (va_up (fun _ => none) 0 (some v))))))), (v, .inr (ci, vs))] [(cO, .object "java/lang/Object")] t) (va_A [(a, .inr (12, [.ref e0, .int 0, .int mo])), (v, .inr (ci, vs))] sz)) 1 10 (va_A [(a, .inr (12, [.ref e0, .int 0, .int mo])), (v, .inr (ci, vs))] sz) := by
  refine Met.ofW (cc := b_AL_add1) (maxL := 4) (ret := none) (by decide) rfl ?_
  intro p e s m args below meth cd s₁ Bd hml hv
  obtain ⟨rfl, hsz, hP, hK, hN, hD0, hO⟩ := hv
  have hx := Bd.exec
  have hb := Bd.bytes
  have hr := Bd.returns
  have hts := hN.use (a := ([.ref a, .ref v, .ref e0, .int 0]).toArray)
  have hown : s.vm.findClass R_AL = some m.cls := findClass_of_methodNamed Bd.named
  have hlocks := Bd.notSynchronized
  subst hsz
  have hD := hD0.self (sz := s.heap.size)
  have hAO := z_AO hD0 hO
  clear hD0
  have hA : ∀ q : Nat, s.heap.size ≤ q → va_A [(a, .inr (12, [.ref e0, .int 0, .int mo])), (v, .inr (ci, vs))] s.heap.size q := fun q h => Or.inr h
  have hS : va_S (va_A [(a, .inr (12, [.ref e0, .int 0, .int mo])), (v, .inr (ci, vs))] s.heap.size) s.heap s.heap [] := va_S.rf
  generalize hAe : va_A [(a, .inr (12, [.ref e0, .int 0, .int mo])), (v, .inr (ci, vs))] s.heap.size = A at hD hA hS hAO ⊢
  have hP : va_P D classes [(a, .inr (12, [.ref e0, .int 0, .int mo])), (v, .inr (ci, vs))] s.heap := hP
  have hl := lv_entry ([.ref a, .ref v, .ref e0, .int 0]) (n := 4) (Nat.le_of_ble_eq_true rfl)
  rw [lg_entry_eq]
  generalize (lg_sl ([.ref a, .ref v, .ref e0, .int 0]) ++ List.replicate (4 - (lg_sl ([.ref a, .ref v, .ref e0, .int 0])).length) Slot.unset).toArray = ls at hl ⊢
  have hl : lv_has ls 4 [(0, .ref a), (1, .ref v), (2, .ref e0), (3, .int 0)] := hl
  refine lv_iload_n hx hb d_AL_add1_0 rfl (lv_at hl 3 rfl) ?_
  refine lv_aload_n hx hb d_AL_add1_1 rfl (lv_at hl 2 rfl) ?_
  refine va_tlen (v := 0) hx hb (he0.T hO hAO) hS rfl d_AL_add1_2 ?_
  refine lv_icmp_ne (tgt := 11) hx hb d_AL_add1_3 rfl (fun h9 => absurd rfl h9) (fun h3 => ?_)
  refine lv_aload_n hx hb d_AL_add1_6 rfl (lv_at hl 0 rfl) ?_
  have hPc := hP.sub (ws' := [(a, .inr (12, [.ref e0, .int 0, .int mo]))]) [0] rfl
  have hKc := hK.sub (tys' := [(cO, .object "java/lang/Object")]) [0] rfl
  have hDc := hD.sub (ws' := [(a, .inr (12, [.ref e0, .int 0, .int mo]))]) [0] (by decide) rfl
  have hFc := va_free (wc := [(a, .inr (12, [.ref e0, .int 0, .int mo]))]) hD hS hA [0] rfl
  refine va_callr (va_runV (As := []) (rest := []) ⟨hx, hb, hml, hown, hts⟩ (c_AL_grow0 l D B0 hG s.heap.size cO a e0 mo he0) (z_cV hN wd_473 wd_66 wd_470 hd_AL_grow0 rfl rfl ⟨Nat.le_of_ble_eq_true rfl, Nat.le_of_ble_eq_true rfl⟩ wd_472 wd_13) (z_preVo (va_recv (ci := 12) (q0 := 0) hK hP rfl rfl) hPc hKc hN hDc hO hS hAO) rfl rfl hl.1 rfl (lv_room (Nat.le_of_ble_eq_true rfl)) d_AL_add1_7 ⟨Nat.le_of_ble_eq_true rfl, Nat.le_of_ble_eq_true rfl⟩) hS (fun q _ h => hFc q h) hFc (fun u7 q7 t H locs ht hvm e7 hB hz1 hk1 hS => ?_)
  obtain ⟨hP1, hK1, hD1⟩ := hB
  rw [ht] at hP1
  obtain ⟨hP, hD⟩ := va_join (wr := [(v, .inr (ci, vs))]) (w1 := [(a, .inr (12, [.ref q7, .int 0, .int mo])), (q7, .inl (cO, 10, .inr (.inr (.inr (.inr (fun _ => none))))))]) hP hD [0] [1] rfl rfl (by decide) (by decide) hk1 hFc hP1 hD1
  clear hk1 hP1 hD1 hFc hPc hDc hz1
  have hP : va_P D classes [(v, .inr (ci, vs)), (a, .inr (12, [.ref q7, .int 0, .int mo])), (q7, .inl (cO, 10, .inr (.inr (.inr (.inr (fun _ => none))))))] H := hP
  have hD : va_D A [(v, .inr (ci, vs)), (a, .inr (12, [.ref q7, .int 0, .int mo])), (q7, .inl (cO, 10, .inr (.inr (.inr (.inr (fun _ => none))))))] := hD
  refine lv_astore_n (lv' := [(2, .ref q7), (0, .ref a), (1, .ref v), (3, .int 0)]) hx hb d_AL_add1_10 rfl hl (by decide) rfl (fun ls hl => ?_)
  refine lv_aload_n hx hb d_AL_add1_11 rfl (lv_at hl 0 rfl) ?_
  refine lv_iload_n hx hb d_AL_add1_12 rfl (lv_at hl 3 rfl) ?_
  refine lv_aload_n hx hb d_AL_add1_13 rfl (lv_at hl 2 rfl) ?_
  refine z_astqO hx hb hK hP hD hS 2 0 0 ci rfl rfl (hN _ hca) rfl hci 0 rfl (by omega) (by omega) d_AL_add1_14 (fun H locs hP hD hS => ?_)
  have hP : va_P D classes [(v, .inr (ci, vs)), (a, .inr (12, [.ref q7, .int 0, .int mo])), (q7, .inl (cO, 10, .inr (.inr (.inr (.inr (va_up (fun _ => none) 0 (some v)))))))] H := hP
  have hD : va_D A [(v, .inr (ci, vs)), (a, .inr (12, [.ref q7, .int 0, .int mo])), (q7, .inl (cO, 10, .inr (.inr (.inr (.inr (va_up (fun _ => none) 0 (some v)))))))] := hD
  refine lv_aload_n hx hb d_AL_add1_15 rfl (lv_at hl 1 rfl) ?_
  refine lv_iload_n hx hb d_AL_add1_16 rfl (lv_at hl 3 rfl) ?_
  refine lv_iconst (v := 1) hx hb d_AL_add1_17 (by decide) ?_
  refine lv_iadd hx hb d_AL_add1_18 ?_
  refine z_topi (w := 1) (by decide) ?_
  refine va_put (D := D) (ci := 12) (v := .int 1) (ty := .int) (C := R_AL) (T := F_AL) (N := 3) hx hb hts i_AL t_AL t_AL_ok n_AL hown hK hP hD hS 1 rfl rfl 1 (by decide) (hts _ wd_153) (fun _ h9 => h9) rfl (by decide +kernel) rfl rfl (Nat.le_of_ble_eq_true rfl) d_AL_add1_19 (fun H locs hP hD hS => ?_)
  have hP : va_P D classes [(v, .inr (ci, vs)), (a, .inr (12, [.ref q7, .int 1, .int mo])), (q7, .inl (cO, 10, .inr (.inr (.inr (.inr (va_up (fun _ => none) 0 (some v)))))))] H := hP
  have hD : va_D A [(v, .inr (ci, vs)), (a, .inr (12, [.ref q7, .int 1, .int mo])), (q7, .inl (cO, 10, .inr (.inr (.inr (.inr (va_up (fun _ => none) 0 (some v)))))))] := hD
  have hP9 := hP.sub (ws' := [(a, .inr (12, [.ref q7, .int 1, .int mo])), (q7, .inl (cO, 10, .inr (.inr (.inr (.inr (va_up (fun _ => none) 0 (some v))))))), (v, .inr (ci, vs))]) [1, 2, 0] rfl
  have hD9 := hD.sub (ws' := [(a, .inr (12, [.ref q7, .int 1, .int mo])), (q7, .inl (cO, 10, .inr (.inr (.inr (.inr (va_up (fun _ => none) 0 (some v))))))), (v, .inr (ci, vs))]) [1, 2, 0] (by decide) rfl
  have hK9 := hK.sub (tys' := [(cO, .object "java/lang/Object")]) [0] rfl
  refine W.widen (k := 1) (n := 10) (by omega) (by omega) ?_
  exact W.vret hx hb hr (fun t ht hW => ⟨⟨q7, rfl, trivial, ⟨by rw [ht]; exact hP9, va_K.moved hW.alike hK9, hD9⟩⟩, hS.F ht⟩) hS.2.2 d_AL_add1_22
set_option maxHeartbeats 4000000 in
set_option maxRecDepth 100000 in
theorem c_AL_add0e (l : Launch) (D : va_G) (B0 : State) (hG : zG B0) (sz : Nat) (cO : ClassId) (a e0 : Nat) (mo : Int32) (v ci : Nat) (vs : List Value) (rr : vw_C) (he0 : zE0 B0 e0) (hci : classes[ci]? = some rr) (hca : Cond.castable rr.1 "java/lang/Object" ∈ lw_ok) : Met l y_AL_add0 [Cond.code y_AL_add0 b_AL_add0 2 (some .boolean)] ({ frames := 4, cells := 1, slots := 10, locals := 80 }) (zMo [.ref a, .ref v] D [(a, .inr (12, [.ref e0, .int 0, .int mo])), (v, .inr (ci, vs))] [(cO, .object "java/lang/Object")] sz B0) (va_Qi (fun r (_ : Nat) => r = 1) (fun (u : Nat) t => zW D (va_A [(a, .inr (12, [.ref e0, .int 0, .int mo])), (v, .inr (ci, vs))] sz) [(a, .inr (12, [.ref u, .int 1, .int (mo + 1)])), (u, .inl (cO, 10, .inr (.inr (.inr (.inr (va_up (fun _ => none) 0 (some v))))))), (v, .inr (ci, vs))] [(cO, .object "java/lang/Object")] t) (va_A [(a, .inr (12, [.ref e0, .int 0, .int mo])), (v, .inr (ci, vs))] sz)) 1 10 (va_A [(a, .inr (12, [.ref e0, .int 0, .int mo])), (v, .inr (ci, vs))] sz) := by
  refine Met.ofW (cc := b_AL_add0) (maxL := 2) (ret := (some .boolean)) (by decide) rfl ?_
  intro p e s m args below meth cd s₁ Bd hml hv
  obtain ⟨rfl, hsz, hP, hK, hN, hD0, hO⟩ := hv
  have hx := Bd.exec
  have hb := Bd.bytes
  have hr := Bd.returns
  have hts := hN.use (a := ([.ref a, .ref v]).toArray)
  have hown : s.vm.findClass R_AL = some m.cls := findClass_of_methodNamed Bd.named
  have hlocks := Bd.notSynchronized
  subst hsz
  have hD := hD0.self (sz := s.heap.size)
  have hAO := z_AO hD0 hO
  clear hD0
  have hA : ∀ q : Nat, s.heap.size ≤ q → va_A [(a, .inr (12, [.ref e0, .int 0, .int mo])), (v, .inr (ci, vs))] s.heap.size q := fun q h => Or.inr h
  have hS : va_S (va_A [(a, .inr (12, [.ref e0, .int 0, .int mo])), (v, .inr (ci, vs))] s.heap.size) s.heap s.heap [] := va_S.rf
  generalize hAe : va_A [(a, .inr (12, [.ref e0, .int 0, .int mo])), (v, .inr (ci, vs))] s.heap.size = A at hD hA hS hAO ⊢
  have hP : va_P D classes [(a, .inr (12, [.ref e0, .int 0, .int mo])), (v, .inr (ci, vs))] s.heap := hP
  have hl := lv_entry ([.ref a, .ref v]) (n := 2) (Nat.le_of_ble_eq_true rfl)
  rw [lg_entry_eq]
  generalize (lg_sl ([.ref a, .ref v]) ++ List.replicate (2 - (lg_sl ([.ref a, .ref v])).length) Slot.unset).toArray = ls at hl ⊢
  have hl : lv_has ls 2 [(0, .ref a), (1, .ref v)] := hl
  refine lv_aload_n hx hb d_AL_add0_0 rfl (lv_at hl 0 rfl) ?_
  refine lv_dup hx hb d_AL_add0_1 rfl ?_
  refine va_get (D := D) (ci := 12) (v := .int mo) (C := R_AL) (T := F_AL) (N := 3) hx hb hts i_AL hown hK hP 0 rfl rfl 2 (by decide) (hts _ wd_155) (fun x9 h9 => u_same (hts _ wd_156) x9 h9) rfl d_AL_add0_2 ?_
  refine lv_iconst (v := 1) hx hb d_AL_add0_5 (by decide) ?_
  refine lv_iadd hx hb d_AL_add0_6 ?_
  refine va_put (D := D) (ci := 12) (v := .int (mo + 1)) (ty := .int) (C := R_AL) (T := F_AL) (N := 3) hx hb hts i_AL t_AL t_AL_ok n_AL hown hK hP hD hS 0 rfl rfl 2 (by decide) (hts _ wd_155) (fun x9 h9 => u_same (hts _ wd_156) x9 h9) rfl (by decide +kernel) rfl rfl (Nat.le_of_ble_eq_true rfl) d_AL_add0_7 (fun H locs hP hD hS => ?_)
  have hP : va_P D classes [(a, .inr (12, [.ref e0, .int 0, .int (mo + 1)])), (v, .inr (ci, vs))] H := hP
  have hD : va_D A [(a, .inr (12, [.ref e0, .int 0, .int (mo + 1)])), (v, .inr (ci, vs))] := hD
  refine lv_aload_n hx hb d_AL_add0_10 rfl (lv_at hl 0 rfl) ?_
  refine lv_aload_n hx hb d_AL_add0_11 rfl (lv_at hl 1 rfl) ?_
  refine lv_aload_n hx hb d_AL_add0_12 rfl (lv_at hl 0 rfl) ?_
  refine va_get (D := D) (ci := 12) (v := .ref e0) (C := R_AL) (T := F_AL) (N := 3) hx hb hts i_AL hown hK hP 0 rfl rfl 0 (by decide) (hts _ wd_152) (fun _ h9 => h9) rfl d_AL_add0_13 ?_
  refine lv_aload_n hx hb d_AL_add0_16 rfl (lv_at hl 0 rfl) ?_
  refine va_get (D := D) (ci := 12) (v := .int 0) (C := R_AL) (T := F_AL) (N := 3) hx hb hts i_AL hown hK hP 0 rfl rfl 1 (by decide) (hts _ wd_153) (fun _ h9 => h9) rfl d_AL_add0_17 ?_
  have hPc := hP.sub (ws' := [(a, .inr (12, [.ref e0, .int 0, .int (mo + 1)])), (v, .inr (ci, vs))]) [0, 1] rfl
  have hKc := hK.sub (tys' := [(cO, .object "java/lang/Object")]) [0] rfl
  have hDc := hD.sub (ws' := [(a, .inr (12, [.ref e0, .int 0, .int (mo + 1)])), (v, .inr (ci, vs))]) [0, 1] (by decide) rfl
  have hFc := va_free (wc := [(a, .inr (12, [.ref e0, .int 0, .int (mo + 1)])), (v, .inr (ci, vs))]) hD hS hA [0, 1] rfl
  refine va_callv (va_runV (As := [.ref v, .ref e0, .int 0]) (rest := []) ⟨hx, hb, hml, hown, hts⟩ (c_AL_add1e l D B0 hG H.size cO a e0 (mo + 1) v ci vs rr he0 hci hca) (z_cV hN wd_469 wd_66 wd_466 hd_AL_add1 rfl rfl ⟨Nat.le_of_ble_eq_true rfl, Nat.le_of_ble_eq_true rfl⟩ wd_468 wd_12) (z_preVo (va_recv (ci := 12) (q0 := 0) hK hP rfl rfl) hPc hKc hN hDc hO hS hAO) rfl rfl hl.1 rfl (lv_room (Nat.le_of_ble_eq_true rfl)) d_AL_add0_20 ⟨Nat.le_of_ble_eq_true rfl, Nat.le_of_ble_eq_true rfl⟩) hS (fun q _ h => hFc q h) hFc (fun q20 t H locs ht hvm e20 hB hz1 hk1 hS => ?_)
  obtain ⟨hP1, hK1, hD1⟩ := hB
  rw [ht] at hP1
  obtain ⟨hP, hD⟩ := va_join (wr := []) (w1 := [(a, .inr (12, [.ref q20, .int 1, .int (mo + 1)])), (q20, .inl (cO, 10, .inr (.inr (.inr (.inr (va_up (fun _ => none) 0 (some v))))))), (v, .inr (ci, vs))]) hP hD [0, 1] [] rfl rfl (by decide) (by decide) hk1 hFc hP1 hD1
  clear hk1 hP1 hD1 hFc hPc hDc hz1
  have hP : va_P D classes [(a, .inr (12, [.ref q20, .int 1, .int (mo + 1)])), (q20, .inl (cO, 10, .inr (.inr (.inr (.inr (va_up (fun _ => none) 0 (some v))))))), (v, .inr (ci, vs))] H := hP
  have hD : va_D A [(a, .inr (12, [.ref q20, .int 1, .int (mo + 1)])), (q20, .inl (cO, 10, .inr (.inr (.inr (.inr (va_up (fun _ => none) 0 (some v))))))), (v, .inr (ci, vs))] := hD
  refine lv_iconst (v := 1) hx hb d_AL_add0_23 (by decide) ?_
  have hP9 := hP.sub (ws' := [(a, .inr (12, [.ref q20, .int 1, .int (mo + 1)])), (q20, .inl (cO, 10, .inr (.inr (.inr (.inr (va_up (fun _ => none) 0 (some v))))))), (v, .inr (ci, vs))]) [0, 1, 2] rfl
  have hD9 := hD.sub (ws' := [(a, .inr (12, [.ref q20, .int 1, .int (mo + 1)])), (q20, .inl (cO, 10, .inr (.inr (.inr (.inr (va_up (fun _ => none) 0 (some v))))))), (v, .inr (ci, vs))]) [0, 1, 2] (by decide) rfl
  have hK9 := hK.sub (tys' := [(cO, .object "java/lang/Object")]) [0] rfl
  refine W.widen (k := 1) (n := 10) (by omega) (by omega) ?_
  exact W.zret (v := 1) hx hb hr rfl (fun t ht hW => ⟨⟨_, q20, rfl, rfl, ⟨by rw [ht]; exact hP9, va_K.moved hW.alike hK9, hD9⟩⟩, hS.F ht⟩) hS.2.2 d_AL_add0_24
set_option maxHeartbeats 4000000 in
set_option maxRecDepth 100000 in
theorem c_AL_add1 (l : Launch) (D : va_G) (sz : Nat) (cO : ClassId) (a b c : Nat) (mo : Int32) (g : Nat → Option Nat) (v ci : Nat) (vs : List Value) (rr : vw_C) (hc : c < 10) (hci : classes[ci]? = some rr) (hca : Cond.castable rr.1 "java/lang/Object" ∈ lw_ok) : Met l y_AL_add1 [Cond.code y_AL_add1 b_AL_add1 4 none] ({ frames := 0, cells := 0, slots := 0, locals := 0 }) (zM [.ref a, .ref v, .ref b, .int (nI c)] D [(a, .inr (12, [.ref b, .int (nI c), .int mo])), (b, .inl (cO, 10, .inr (.inr (.inr (.inr g))))), (v, .inr (ci, vs))] [(cO, .object "java/lang/Object")] sz) (va_Qv (fun (_ : Unit) => True) (fun (_u : Unit) t => zW D (va_A [(a, .inr (12, [.ref b, .int (nI c), .int mo])), (b, .inl (cO, 10, .inr (.inr (.inr (.inr g))))), (v, .inr (ci, vs))] sz) [(a, .inr (12, [.ref b, .int (nI (c + 1)), .int mo])), (b, .inl (cO, 10, .inr (.inr (.inr (.inr (va_up g c (some v))))))), (v, .inr (ci, vs))] [(cO, .object "java/lang/Object")] t) (va_A [(a, .inr (12, [.ref b, .int (nI c), .int mo])), (b, .inl (cO, 10, .inr (.inr (.inr (.inr g))))), (v, .inr (ci, vs))] sz)) 0 0 (va_A [(a, .inr (12, [.ref b, .int (nI c), .int mo])), (b, .inl (cO, 10, .inr (.inr (.inr (.inr g))))), (v, .inr (ci, vs))] sz) := by
  refine Met.ofW (cc := b_AL_add1) (maxL := 4) (ret := none) (by decide) rfl ?_
  intro p e s m args below meth cd s₁ Bd hml hv
  obtain ⟨rfl, hsz, hP, hK, hN, hD0⟩ := hv
  have hx := Bd.exec
  have hb := Bd.bytes
  have hr := Bd.returns
  have hts := hN.use (a := ([.ref a, .ref v, .ref b, .int (nI c)]).toArray)
  have hown : s.vm.findClass R_AL = some m.cls := findClass_of_methodNamed Bd.named
  have hlocks := Bd.notSynchronized
  subst hsz
  have hD := hD0.self (sz := s.heap.size)
  clear hD0
  have hA : ∀ q : Nat, s.heap.size ≤ q → va_A [(a, .inr (12, [.ref b, .int (nI c), .int mo])), (b, .inl (cO, 10, .inr (.inr (.inr (.inr g))))), (v, .inr (ci, vs))] s.heap.size q := fun q h => Or.inr h
  have hS : va_S (va_A [(a, .inr (12, [.ref b, .int (nI c), .int mo])), (b, .inl (cO, 10, .inr (.inr (.inr (.inr g))))), (v, .inr (ci, vs))] s.heap.size) s.heap s.heap [] := va_S.rf
  generalize hAe : va_A [(a, .inr (12, [.ref b, .int (nI c), .int mo])), (b, .inl (cO, 10, .inr (.inr (.inr (.inr g))))), (v, .inr (ci, vs))] s.heap.size = A at hD hA hS ⊢
  have hP : va_P D classes [(a, .inr (12, [.ref b, .int (nI c), .int mo])), (b, .inl (cO, 10, .inr (.inr (.inr (.inr g))))), (v, .inr (ci, vs))] s.heap := hP
  have hl := lv_entry ([.ref a, .ref v, .ref b, .int (nI c)]) (n := 4) (Nat.le_of_ble_eq_true rfl)
  rw [lg_entry_eq]
  generalize (lg_sl ([.ref a, .ref v, .ref b, .int (nI c)]) ++ List.replicate (4 - (lg_sl ([.ref a, .ref v, .ref b, .int (nI c)])).length) Slot.unset).toArray = ls at hl ⊢
  have hl : lv_has ls 4 [(0, .ref a), (1, .ref v), (2, .ref b), (3, .int (nI c))] := hl
  refine lv_iload_n hx hb d_AL_add1_0 rfl (lv_at hl 3 rfl) ?_
  refine lv_aload_n hx hb d_AL_add1_1 rfl (lv_at hl 2 rfl) ?_
  refine va_alen (v := nI 10) hx hb hK hP 1 0 rfl rfl rfl d_AL_add1_2 ?_
  refine lv_icmp_ne (tgt := 11) hx hb d_AL_add1_3 rfl (fun h3 => ?_) (fun h9 => absurd ((nI_eq (by omega) (by omega)).mp h9) (by omega))
  refine lv_aload_n hx hb d_AL_add1_11 rfl (lv_at hl 2 rfl) ?_
  refine lv_iload_n hx hb d_AL_add1_12 rfl (lv_at hl 3 rfl) ?_
  refine lv_aload_n hx hb d_AL_add1_13 rfl (lv_at hl 1 rfl) ?_
  refine z_astqO hx hb hK hP hD hS 1 0 2 ci rfl rfl (hN _ hca) rfl hci c rfl (by omega) (by omega) d_AL_add1_14 (fun H locs hP hD hS => ?_)
  have hP : va_P D classes [(a, .inr (12, [.ref b, .int (nI c), .int mo])), (b, .inl (cO, 10, .inr (.inr (.inr (.inr (va_up g c (some v))))))), (v, .inr (ci, vs))] H := hP
  have hD : va_D A [(a, .inr (12, [.ref b, .int (nI c), .int mo])), (b, .inl (cO, 10, .inr (.inr (.inr (.inr (va_up g c (some v))))))), (v, .inr (ci, vs))] := hD
  refine lv_aload_n hx hb d_AL_add1_15 rfl (lv_at hl 0 rfl) ?_
  refine lv_iload_n hx hb d_AL_add1_16 rfl (lv_at hl 3 rfl) ?_
  refine lv_iconst (v := 1) hx hb d_AL_add1_17 (by decide) ?_
  refine lv_iadd hx hb d_AL_add1_18 ?_
  refine z_topi (w := nI (c + 1)) (nI_1 c) ?_
  refine va_put (D := D) (ci := 12) (v := .int (nI (c + 1))) (ty := .int) (C := R_AL) (T := F_AL) (N := 3) hx hb hts i_AL t_AL t_AL_ok n_AL hown hK hP hD hS 0 rfl rfl 1 (by decide) (hts _ wd_153) (fun _ h9 => h9) rfl (by decide +kernel) rfl rfl (Nat.le_of_ble_eq_true rfl) d_AL_add1_19 (fun H locs hP hD hS => ?_)
  have hP : va_P D classes [(a, .inr (12, [.ref b, .int (nI (c + 1)), .int mo])), (b, .inl (cO, 10, .inr (.inr (.inr (.inr (va_up g c (some v))))))), (v, .inr (ci, vs))] H := hP
  have hD : va_D A [(a, .inr (12, [.ref b, .int (nI (c + 1)), .int mo])), (b, .inl (cO, 10, .inr (.inr (.inr (.inr (va_up g c (some v))))))), (v, .inr (ci, vs))] := hD
  have hP9 := hP.sub (ws' := [(a, .inr (12, [.ref b, .int (nI (c + 1)), .int mo])), (b, .inl (cO, 10, .inr (.inr (.inr (.inr (va_up g c (some v))))))), (v, .inr (ci, vs))]) [0, 1, 2] rfl
  have hD9 := hD.sub (ws' := [(a, .inr (12, [.ref b, .int (nI (c + 1)), .int mo])), (b, .inl (cO, 10, .inr (.inr (.inr (.inr (va_up g c (some v))))))), (v, .inr (ci, vs))]) [0, 1, 2] (by decide) rfl
  have hK9 := hK.sub (tys' := [(cO, .object "java/lang/Object")]) [0] rfl
  exact W.vret hx hb hr (fun t ht hW => ⟨⟨(), rfl, trivial, ⟨by rw [ht]; exact hP9, va_K.moved hW.alike hK9, hD9⟩⟩, hS.F ht⟩) hS.2.2 d_AL_add1_22
set_option maxHeartbeats 4000000 in
set_option maxRecDepth 100000 in
theorem c_AL_add0 (l : Launch) (D : va_G) (sz : Nat) (cO : ClassId) (a b c : Nat) (mo : Int32) (g : Nat → Option Nat) (v ci : Nat) (vs : List Value) (rr : vw_C) (hc : c < 10) (hci : classes[ci]? = some rr) (hca : Cond.castable rr.1 "java/lang/Object" ∈ lw_ok) : Met l y_AL_add0 [Cond.code y_AL_add0 b_AL_add0 2 (some .boolean)] ({ frames := 1, cells := 0, slots := 0, locals := 23 }) (zM [.ref a, .ref v] D [(a, .inr (12, [.ref b, .int (nI c), .int mo])), (b, .inl (cO, 10, .inr (.inr (.inr (.inr g))))), (v, .inr (ci, vs))] [(cO, .object "java/lang/Object")] sz) (va_Qi (fun r (_ : Unit) => r = 1) (fun (_u : Unit) t => zW D (va_A [(a, .inr (12, [.ref b, .int (nI c), .int mo])), (b, .inl (cO, 10, .inr (.inr (.inr (.inr g))))), (v, .inr (ci, vs))] sz) [(a, .inr (12, [.ref b, .int (nI (c + 1)), .int (mo + 1)])), (b, .inl (cO, 10, .inr (.inr (.inr (.inr (va_up g c (some v))))))), (v, .inr (ci, vs))] [(cO, .object "java/lang/Object")] t) (va_A [(a, .inr (12, [.ref b, .int (nI c), .int mo])), (b, .inl (cO, 10, .inr (.inr (.inr (.inr g))))), (v, .inr (ci, vs))] sz)) 0 0 (va_A [(a, .inr (12, [.ref b, .int (nI c), .int mo])), (b, .inl (cO, 10, .inr (.inr (.inr (.inr g))))), (v, .inr (ci, vs))] sz) := by
  refine Met.ofW (cc := b_AL_add0) (maxL := 2) (ret := (some .boolean)) (by decide) rfl ?_
  intro p e s m args below meth cd s₁ Bd hml hv
  obtain ⟨rfl, hsz, hP, hK, hN, hD0⟩ := hv
  have hx := Bd.exec
  have hb := Bd.bytes
  have hr := Bd.returns
  have hts := hN.use (a := ([.ref a, .ref v]).toArray)
  have hown : s.vm.findClass R_AL = some m.cls := findClass_of_methodNamed Bd.named
  have hlocks := Bd.notSynchronized
  subst hsz
  have hD := hD0.self (sz := s.heap.size)
  clear hD0
  have hA : ∀ q : Nat, s.heap.size ≤ q → va_A [(a, .inr (12, [.ref b, .int (nI c), .int mo])), (b, .inl (cO, 10, .inr (.inr (.inr (.inr g))))), (v, .inr (ci, vs))] s.heap.size q := fun q h => Or.inr h
  have hS : va_S (va_A [(a, .inr (12, [.ref b, .int (nI c), .int mo])), (b, .inl (cO, 10, .inr (.inr (.inr (.inr g))))), (v, .inr (ci, vs))] s.heap.size) s.heap s.heap [] := va_S.rf
  generalize hAe : va_A [(a, .inr (12, [.ref b, .int (nI c), .int mo])), (b, .inl (cO, 10, .inr (.inr (.inr (.inr g))))), (v, .inr (ci, vs))] s.heap.size = A at hD hA hS ⊢
  have hP : va_P D classes [(a, .inr (12, [.ref b, .int (nI c), .int mo])), (b, .inl (cO, 10, .inr (.inr (.inr (.inr g))))), (v, .inr (ci, vs))] s.heap := hP
  have hl := lv_entry ([.ref a, .ref v]) (n := 2) (Nat.le_of_ble_eq_true rfl)
  rw [lg_entry_eq]
  generalize (lg_sl ([.ref a, .ref v]) ++ List.replicate (2 - (lg_sl ([.ref a, .ref v])).length) Slot.unset).toArray = ls at hl ⊢
  have hl : lv_has ls 2 [(0, .ref a), (1, .ref v)] := hl
  refine lv_aload_n hx hb d_AL_add0_0 rfl (lv_at hl 0 rfl) ?_
  refine lv_dup hx hb d_AL_add0_1 rfl ?_
  refine va_get (D := D) (ci := 12) (v := .int mo) (C := R_AL) (T := F_AL) (N := 3) hx hb hts i_AL hown hK hP 0 rfl rfl 2 (by decide) (hts _ wd_155) (fun x9 h9 => u_same (hts _ wd_156) x9 h9) rfl d_AL_add0_2 ?_
  refine lv_iconst (v := 1) hx hb d_AL_add0_5 (by decide) ?_
  refine lv_iadd hx hb d_AL_add0_6 ?_
  refine va_put (D := D) (ci := 12) (v := .int (mo + 1)) (ty := .int) (C := R_AL) (T := F_AL) (N := 3) hx hb hts i_AL t_AL t_AL_ok n_AL hown hK hP hD hS 0 rfl rfl 2 (by decide) (hts _ wd_155) (fun x9 h9 => u_same (hts _ wd_156) x9 h9) rfl (by decide +kernel) rfl rfl (Nat.le_of_ble_eq_true rfl) d_AL_add0_7 (fun H locs hP hD hS => ?_)
  have hP : va_P D classes [(a, .inr (12, [.ref b, .int (nI c), .int (mo + 1)])), (b, .inl (cO, 10, .inr (.inr (.inr (.inr g))))), (v, .inr (ci, vs))] H := hP
  have hD : va_D A [(a, .inr (12, [.ref b, .int (nI c), .int (mo + 1)])), (b, .inl (cO, 10, .inr (.inr (.inr (.inr g))))), (v, .inr (ci, vs))] := hD
  refine lv_aload_n hx hb d_AL_add0_10 rfl (lv_at hl 0 rfl) ?_
  refine lv_aload_n hx hb d_AL_add0_11 rfl (lv_at hl 1 rfl) ?_
  refine lv_aload_n hx hb d_AL_add0_12 rfl (lv_at hl 0 rfl) ?_
  refine va_get (D := D) (ci := 12) (v := .ref b) (C := R_AL) (T := F_AL) (N := 3) hx hb hts i_AL hown hK hP 0 rfl rfl 0 (by decide) (hts _ wd_152) (fun _ h9 => h9) rfl d_AL_add0_13 ?_
  refine lv_aload_n hx hb d_AL_add0_16 rfl (lv_at hl 0 rfl) ?_
  refine va_get (D := D) (ci := 12) (v := .int (nI c)) (C := R_AL) (T := F_AL) (N := 3) hx hb hts i_AL hown hK hP 0 rfl rfl 1 (by decide) (hts _ wd_153) (fun _ h9 => h9) rfl d_AL_add0_17 ?_
  have hPc := hP.sub (ws' := [(a, .inr (12, [.ref b, .int (nI c), .int (mo + 1)])), (b, .inl (cO, 10, .inr (.inr (.inr (.inr g))))), (v, .inr (ci, vs))]) [0, 1, 2] rfl
  have hKc := hK.sub (tys' := [(cO, .object "java/lang/Object")]) [0] rfl
  have hDc := hD.sub (ws' := [(a, .inr (12, [.ref b, .int (nI c), .int (mo + 1)])), (b, .inl (cO, 10, .inr (.inr (.inr (.inr g))))), (v, .inr (ci, vs))]) [0, 1, 2] (by decide) rfl
  have hFc := va_free (wc := [(a, .inr (12, [.ref b, .int (nI c), .int (mo + 1)])), (b, .inl (cO, 10, .inr (.inr (.inr (.inr g))))), (v, .inr (ci, vs))]) hD hS hA [0, 1, 2] rfl
  refine va_callv (va_runV (As := [.ref v, .ref b, .int (nI c)]) (rest := []) ⟨hx, hb, hml, hown, hts⟩ (c_AL_add1 l D H.size cO a b c (mo + 1) g v ci vs rr hc hci hca) (z_cV hN wd_469 wd_66 wd_466 hd_AL_add1 rfl rfl ⟨Nat.le_of_ble_eq_true rfl, Nat.le_of_ble_eq_true rfl⟩ wd_468 wd_12) (z_preVm (va_recv (ci := 12) (q0 := 0) hK hP rfl rfl) hPc hKc hN hDc) rfl rfl hl.1 rfl (lv_room (Nat.le_of_ble_eq_true rfl)) d_AL_add0_20 ⟨Nat.le_of_ble_eq_true rfl, Nat.le_of_ble_eq_true rfl⟩) hS (fun q _ h => hFc q h) hFc (fun u20 t H locs ht hvm e20 hB hz1 hk1 hS => ?_)
  obtain ⟨hP1, hK1, hD1⟩ := hB
  rw [ht] at hP1
  obtain ⟨hP, hD⟩ := va_join (wr := []) (w1 := [(a, .inr (12, [.ref b, .int (nI (c + 1)), .int (mo + 1)])), (b, .inl (cO, 10, .inr (.inr (.inr (.inr (va_up g c (some v))))))), (v, .inr (ci, vs))]) hP hD [0, 1, 2] [] rfl rfl (by decide) (by decide) hk1 hFc hP1 hD1
  clear hk1 hP1 hD1 hFc hPc hDc hz1
  have hP : va_P D classes [(a, .inr (12, [.ref b, .int (nI (c + 1)), .int (mo + 1)])), (b, .inl (cO, 10, .inr (.inr (.inr (.inr (va_up g c (some v))))))), (v, .inr (ci, vs))] H := hP
  have hD : va_D A [(a, .inr (12, [.ref b, .int (nI (c + 1)), .int (mo + 1)])), (b, .inl (cO, 10, .inr (.inr (.inr (.inr (va_up g c (some v))))))), (v, .inr (ci, vs))] := hD
  refine lv_iconst (v := 1) hx hb d_AL_add0_23 (by decide) ?_
  have hP9 := hP.sub (ws' := [(a, .inr (12, [.ref b, .int (nI (c + 1)), .int (mo + 1)])), (b, .inl (cO, 10, .inr (.inr (.inr (.inr (va_up g c (some v))))))), (v, .inr (ci, vs))]) [0, 1, 2] rfl
  have hD9 := hD.sub (ws' := [(a, .inr (12, [.ref b, .int (nI (c + 1)), .int (mo + 1)])), (b, .inl (cO, 10, .inr (.inr (.inr (.inr (va_up g c (some v))))))), (v, .inr (ci, vs))]) [0, 1, 2] (by decide) rfl
  have hK9 := hK.sub (tys' := [(cO, .object "java/lang/Object")]) [0] rfl
  exact W.zret (v := 1) hx hb hr rfl (fun t ht hW => ⟨⟨_, (), rfl, rfl, ⟨by rw [ht]; exact hP9, va_K.moved hW.alike hK9, hD9⟩⟩, hS.F ht⟩) hS.2.2 d_AL_add0_24
