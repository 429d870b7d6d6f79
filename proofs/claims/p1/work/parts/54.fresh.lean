theorem wd_74 : (Jvm.Cond.initialized "StreamSplitter$Lane") ∈ lw_ok := List.mem_filter.mpr ⟨List.mem_of_getElem? (i := 74) (by decide +kernel), rfl⟩
theorem wd_84 : (Jvm.Cond.initialized "StreamSplitter$Draft") ∈ lw_ok := List.mem_filter.mpr ⟨List.mem_of_getElem? (i := 84) (by decide +kernel), rfl⟩
theorem wd_165 : (Jvm.Cond.fieldLinkNest "StreamSplitter" (99 : Nat) "StreamSplitter$Tables" "listVersion" "I" "StreamSplitter") ∈ lw_ok := List.mem_filter.mpr ⟨List.mem_of_getElem? (i := 165) (by decide +kernel), rfl⟩
theorem wd_167 : (Jvm.Cond.fieldLinkNest "StreamSplitter" (102 : Nat) "StreamSplitter$Tables" "programmes" "Ljava/util/ArrayList;" "StreamSplitter") ∈ lw_ok := List.mem_filter.mpr ⟨List.mem_of_getElem? (i := 167) (by decide +kernel), rfl⟩
theorem wd_178 : (Jvm.Cond.fieldLinkNest "StreamSplitter" (196 : Nat) "StreamSplitter$Receiver" "lanes" "LStreamSplitter$Lanes;" "StreamSplitter") ∈ lw_ok := List.mem_filter.mpr ⟨List.mem_of_getElem? (i := 178) (by decide +kernel), rfl⟩
theorem wd_182 : (Jvm.Cond.fieldLinkNest "StreamSplitter" (68 : Nat) "StreamSplitter$Receiver" "counts" "[I" "StreamSplitter") ∈ lw_ok := List.mem_filter.mpr ⟨List.mem_of_getElem? (i := 182) (by decide +kernel), rfl⟩
theorem wd_227 : (Jvm.Cond.instanceMethod ({ cls := "StreamSplitter$Lanes", name := "findOrMake", desc := "(I)LStreamSplitter$Lane;" } : Jvm.MethodName)) ∈ lw_ok := List.mem_filter.mpr ⟨List.mem_of_getElem? (i := 227) (by decide +kernel), rfl⟩
theorem wd_228 : (Jvm.Cond.selects "StreamSplitter$Lanes" ({ cls := "StreamSplitter$Lanes", name := "findOrMake", desc := "(I)LStreamSplitter$Lane;" } : Jvm.MethodName) ({ cls := "StreamSplitter$Lanes", name := "findOrMake", desc := "(I)LStreamSplitter$Lane;" } : Jvm.MethodName)) ∈ lw_ok := List.mem_filter.mpr ⟨List.mem_of_getElem? (i := 228) (by decide +kernel), rfl⟩
set_option maxRecDepth 100000 in
theorem wd_229 : (Jvm.Cond.code ({ cls := "StreamSplitter$Lanes", name := "findOrMake", desc := "(I)LStreamSplitter$Lane;" } : Jvm.MethodName) prog_4_method_3_code (4 : Nat) (Option.some (Jvm.ClassFile.FieldType.object "StreamSplitter$Lane"))) ∈ lw_ok := List.mem_filter.mpr ⟨List.mem_of_getElem? (i := 229) (by rfl), rfl⟩
theorem wd_230 : (Jvm.Cond.methodLink "StreamSplitter$Lanes" (23 : Nat) ({ cls := "StreamSplitter$Lanes", name := "find", desc := "(I)LStreamSplitter$Lane;" } : Jvm.MethodName)) ∈ lw_ok := List.mem_filter.mpr ⟨List.mem_of_getElem? (i := 230) (by decide +kernel), rfl⟩
theorem wd_231 : (Jvm.Cond.instanceMethod ({ cls := "StreamSplitter$Lanes", name := "find", desc := "(I)LStreamSplitter$Lane;" } : Jvm.MethodName)) ∈ lw_ok := List.mem_filter.mpr ⟨List.mem_of_getElem? (i := 231) (by decide +kernel), rfl⟩
theorem wd_232 : (Jvm.Cond.selects "StreamSplitter$Lanes" ({ cls := "StreamSplitter$Lanes", name := "find", desc := "(I)LStreamSplitter$Lane;" } : Jvm.MethodName) ({ cls := "StreamSplitter$Lanes", name := "find", desc := "(I)LStreamSplitter$Lane;" } : Jvm.MethodName)) ∈ lw_ok := List.mem_filter.mpr ⟨List.mem_of_getElem? (i := 232) (by decide +kernel), rfl⟩
set_option maxRecDepth 100000 in
theorem wd_233 : (Jvm.Cond.code ({ cls := "StreamSplitter$Lanes", name := "find", desc := "(I)LStreamSplitter$Lane;" } : Jvm.MethodName) prog_4_method_2_code (3 : Nat) (Option.some (Jvm.ClassFile.FieldType.object "StreamSplitter$Lane"))) ∈ lw_ok := List.mem_filter.mpr ⟨List.mem_of_getElem? (i := 233) (by rfl), rfl⟩
theorem wd_234 : (Jvm.Cond.instantiable "StreamSplitter$Lane" (8 : Nat)) ∈ lw_ok := List.mem_filter.mpr ⟨List.mem_of_getElem? (i := 234) (by decide +kernel), rfl⟩
theorem wd_235 : (Jvm.Cond.methodLink "StreamSplitter$Lanes" (27 : Nat) ({ cls := "StreamSplitter$Lane", name := "<init>", desc := "(ILStreamSplitter$Lane;)V" } : Jvm.MethodName)) ∈ lw_ok := List.mem_filter.mpr ⟨List.mem_of_getElem? (i := 235) (by decide +kernel), rfl⟩
theorem wd_236 : (Jvm.Cond.instanceMethod ({ cls := "StreamSplitter$Lane", name := "<init>", desc := "(ILStreamSplitter$Lane;)V" } : Jvm.MethodName)) ∈ lw_ok := List.mem_filter.mpr ⟨List.mem_of_getElem? (i := 236) (by decide +kernel), rfl⟩
set_option maxRecDepth 100000 in
theorem wd_237 : (Jvm.Cond.code ({ cls := "StreamSplitter$Lane", name := "<init>", desc := "(ILStreamSplitter$Lane;)V" } : Jvm.MethodName) prog_3_method_1_code (3 : Nat) (Option.none : Option Jvm.ClassFile.FieldType)) ∈ lw_ok := List.mem_filter.mpr ⟨List.mem_of_getElem? (i := 237) (by rfl), rfl⟩
theorem wd_463 : (Jvm.Cond.instanceMethod ({ cls := "java/util/ArrayList", name := "add", desc := "(Ljava/lang/Object;)Z" } : Jvm.MethodName)) ∈ lw_ok := List.mem_filter.mpr ⟨List.mem_of_getElem? (i := 463) (by decide +kernel), rfl⟩
theorem wd_464 : (Jvm.Cond.selects "java/util/ArrayList" ({ cls := "java/util/ArrayList", name := "add", desc := "(Ljava/lang/Object;)Z" } : Jvm.MethodName) ({ cls := "java/util/ArrayList", name := "add", desc := "(Ljava/lang/Object;)Z" } : Jvm.MethodName)) ∈ lw_ok := List.mem_filter.mpr ⟨List.mem_of_getElem? (i := 464) (by decide +kernel), rfl⟩
set_option maxRecDepth 100000 in
theorem wd_465 : (Jvm.Cond.code ({ cls := "java/util/ArrayList", name := "add", desc := "(Ljava/lang/Object;)Z" } : Jvm.MethodName) prog_28_method_25_code (2 : Nat) (Option.some Jvm.ClassFile.FieldType.boolean)) ∈ lw_ok := List.mem_filter.mpr ⟨List.mem_of_getElem? (i := 465) (by rfl), rfl⟩
theorem wd_688 : (Jvm.Cond.methodLink "StreamSplitter" (224 : Nat) ({ cls := "java/util/ArrayList", name := "clear", desc := "()V" } : Jvm.MethodName)) ∈ lw_ok := List.mem_filter.mpr ⟨List.mem_of_getElem? (i := 688) (by decide +kernel), rfl⟩
theorem wd_689 : (Jvm.Cond.instanceMethod ({ cls := "java/util/ArrayList", name := "clear", desc := "()V" } : Jvm.MethodName)) ∈ lw_ok := List.mem_filter.mpr ⟨List.mem_of_getElem? (i := 689) (by decide +kernel), rfl⟩
theorem wd_690 : (Jvm.Cond.selects "java/util/ArrayList" ({ cls := "java/util/ArrayList", name := "clear", desc := "()V" } : Jvm.MethodName) ({ cls := "java/util/ArrayList", name := "clear", desc := "()V" } : Jvm.MethodName)) ∈ lw_ok := List.mem_filter.mpr ⟨List.mem_of_getElem? (i := 690) (by decide +kernel), rfl⟩
set_option maxRecDepth 100000 in
theorem wd_691 : (Jvm.Cond.code ({ cls := "java/util/ArrayList", name := "clear", desc := "()V" } : Jvm.MethodName) prog_28_method_40_code (4 : Nat) (Option.none : Option Jvm.ClassFile.FieldType)) ∈ lw_ok := List.mem_filter.mpr ⟨List.mem_of_getElem? (i := 691) (by rfl), rfl⟩
theorem wd_859 : (Jvm.Cond.constantLong "StreamSplitter" (155 : Nat) (-1 : Int64)) ∈ lw_ok := List.mem_filter.mpr ⟨List.mem_of_getElem? (i := 859) (by decide +kernel), rfl⟩
theorem wd_870 : (Jvm.Cond.methodLink "StreamSplitter" (173 : Nat) ({ cls := "StreamSplitter$Receiver", name := "doneBefore", desc := "(I)LStreamSplitter$Piece;" } : Jvm.MethodName)) ∈ lw_ok := List.mem_filter.mpr ⟨List.mem_of_getElem? (i := 870) (by decide +kernel), rfl⟩
theorem wd_871 : (Jvm.Cond.instanceMethod ({ cls := "StreamSplitter$Receiver", name := "doneBefore", desc := "(I)LStreamSplitter$Piece;" } : Jvm.MethodName)) ∈ lw_ok := List.mem_filter.mpr ⟨List.mem_of_getElem? (i := 871) (by decide +kernel), rfl⟩
theorem wd_872 : (Jvm.Cond.selects "StreamSplitter$Receiver" ({ cls := "StreamSplitter$Receiver", name := "doneBefore", desc := "(I)LStreamSplitter$Piece;" } : Jvm.MethodName) ({ cls := "StreamSplitter$Receiver", name := "doneBefore", desc := "(I)LStreamSplitter$Piece;" } : Jvm.MethodName)) ∈ lw_ok := List.mem_filter.mpr ⟨List.mem_of_getElem? (i := 872) (by decide +kernel), rfl⟩
set_option maxRecDepth 100000 in
theorem wd_873 : (Jvm.Cond.code ({ cls := "StreamSplitter$Receiver", name := "doneBefore", desc := "(I)LStreamSplitter$Piece;" } : Jvm.MethodName) prog_8_method_17_code (2 : Nat) (Option.some (Jvm.ClassFile.FieldType.object "StreamSplitter$Piece"))) ∈ lw_ok := List.mem_filter.mpr ⟨List.mem_of_getElem? (i := 873) (by rfl), rfl⟩
theorem wd_885 : (Jvm.Cond.methodLink "StreamSplitter" (200 : Nat) ({ cls := "StreamSplitter$Lanes", name := "find", desc := "(I)LStreamSplitter$Lane;" } : Jvm.MethodName)) ∈ lw_ok := List.mem_filter.mpr ⟨List.mem_of_getElem? (i := 885) (by decide +kernel), rfl⟩
theorem wd_895 : (Jvm.Cond.classLink "StreamSplitter" (211 : Nat) "StreamSplitter$Draft") ∈ lw_ok := List.mem_filter.mpr ⟨List.mem_of_getElem? (i := 895) (by decide +kernel), rfl⟩
theorem wd_896 : (Jvm.Cond.instantiable "StreamSplitter$Draft" (3 : Nat)) ∈ lw_ok := List.mem_filter.mpr ⟨List.mem_of_getElem? (i := 896) (by decide +kernel), rfl⟩
theorem wd_897 : (Jvm.Cond.methodLink "StreamSplitter" (213 : Nat) ({ cls := "StreamSplitter$Draft", name := "<init>", desc := "(II)V" } : Jvm.MethodName)) ∈ lw_ok := List.mem_filter.mpr ⟨List.mem_of_getElem? (i := 897) (by decide +kernel), rfl⟩
theorem wd_898 : (Jvm.Cond.instanceMethod ({ cls := "StreamSplitter$Draft", name := "<init>", desc := "(II)V" } : Jvm.MethodName)) ∈ lw_ok := List.mem_filter.mpr ⟨List.mem_of_getElem? (i := 898) (by decide +kernel), rfl⟩
set_option maxRecDepth 100000 in
theorem wd_899 : (Jvm.Cond.code ({ cls := "StreamSplitter$Draft", name := "<init>", desc := "(II)V" } : Jvm.MethodName) prog_2_method_1_code (3 : Nat) (Option.none : Option Jvm.ClassFile.FieldType)) ∈ lw_ok := List.mem_filter.mpr ⟨List.mem_of_getElem? (i := 899) (by rfl), rfl⟩
theorem wd_918 : (Jvm.Cond.methodLink "StreamSplitter" (215 : Nat) ({ cls := "java/util/ArrayList", name := "add", desc := "(Ljava/lang/Object;)Z" } : Jvm.MethodName)) ∈ lw_ok := List.mem_filter.mpr ⟨List.mem_of_getElem? (i := 918) (by decide +kernel), rfl⟩
theorem wd_945 : (Jvm.Cond.classLink "StreamSplitter" (237 : Nat) "StreamSplitter$Writer") ∈ lw_ok := List.mem_filter.mpr ⟨List.mem_of_getElem? (i := 945) (by decide +kernel), rfl⟩
theorem wd_946 : (Jvm.Cond.instantiable "StreamSplitter$Writer" (6 : Nat)) ∈ lw_ok := List.mem_filter.mpr ⟨List.mem_of_getElem? (i := 946) (by decide +kernel), rfl⟩
theorem wd_947 : (Jvm.Cond.methodLink "StreamSplitter" (277 : Nat) ({ cls := "StreamSplitter$Lanes", name := "findOrMake", desc := "(I)LStreamSplitter$Lane;" } : Jvm.MethodName)) ∈ lw_ok := List.mem_filter.mpr ⟨List.mem_of_getElem? (i := 947) (by decide +kernel), rfl⟩
theorem wd_948 : (Jvm.Cond.methodLink "StreamSplitter" (280 : Nat) ({ cls := "StreamSplitter$Writer", name := "<init>", desc := "(LStreamSplitter$Row;LStreamSplitter$Lane;I)V" } : Jvm.MethodName)) ∈ lw_ok := List.mem_filter.mpr ⟨List.mem_of_getElem? (i := 948) (by decide +kernel), rfl⟩
theorem wd_949 : (Jvm.Cond.instanceMethod ({ cls := "StreamSplitter$Writer", name := "<init>", desc := "(LStreamSplitter$Row;LStreamSplitter$Lane;I)V" } : Jvm.MethodName)) ∈ lw_ok := List.mem_filter.mpr ⟨List.mem_of_getElem? (i := 949) (by decide +kernel), rfl⟩
set_option maxRecDepth 100000 in
theorem wd_950 : (Jvm.Cond.code ({ cls := "StreamSplitter$Writer", name := "<init>", desc := "(LStreamSplitter$Row;LStreamSplitter$Lane;I)V" } : Jvm.MethodName) prog_12_method_1_code (4 : Nat) (Option.none : Option Jvm.ClassFile.FieldType)) ∈ lw_ok := List.mem_filter.mpr ⟨List.mem_of_getElem? (i := 950) (by rfl), rfl⟩
theorem wd_1503 : (Jvm.Cond.castable "StreamSplitter$Draft" "java/lang/Object") ∈ lw_ok := List.mem_filter.mpr ⟨List.mem_of_getElem? (i := 1503) (by decide +kernel), rfl⟩
theorem hd_AL_add0 : y_AL_add0.cls ≠ "java/lang/invoke/MethodHandle" ∧ y_AL_add0.cls ≠ "java/lang/invoke/VarHandle" ∧ (parseMethodDescriptor y_AL_add0.desc).map (fun d => d.parameters.length) = some 1 := by decide +kernel
theorem hd_AL_clear : y_AL_clear.cls ≠ "java/lang/invoke/MethodHandle" ∧ y_AL_clear.cls ≠ "java/lang/invoke/VarHandle" ∧ (parseMethodDescriptor y_AL_clear.desc).map (fun d => d.parameters.length) = some 0 := by decide +kernel
theorem hd_Draft_init : y_Draft_init.cls ≠ "java/lang/invoke/MethodHandle" ∧ y_Draft_init.cls ≠ "java/lang/invoke/VarHandle" ∧ (parseMethodDescriptor y_Draft_init.desc).map (fun d => d.parameters.length) = some 2 := by decide +kernel
theorem hd_Lane_init : y_Lane_init.cls ≠ "java/lang/invoke/MethodHandle" ∧ y_Lane_init.cls ≠ "java/lang/invoke/VarHandle" ∧ (parseMethodDescriptor y_Lane_init.desc).map (fun d => d.parameters.length) = some 2 := by decide +kernel
theorem hd_Lanes_find : y_Lanes_find.cls ≠ "java/lang/invoke/MethodHandle" ∧ y_Lanes_find.cls ≠ "java/lang/invoke/VarHandle" ∧ (parseMethodDescriptor y_Lanes_find.desc).map (fun d => d.parameters.length) = some 1 := by decide +kernel
theorem hd_Lanes_findOrMake : y_Lanes_findOrMake.cls ≠ "java/lang/invoke/MethodHandle" ∧ y_Lanes_findOrMake.cls ≠ "java/lang/invoke/VarHandle" ∧ (parseMethodDescriptor y_Lanes_findOrMake.desc).map (fun d => d.parameters.length) = some 1 := by decide +kernel
theorem hd_Receiver_doneBefore : y_Receiver_doneBefore.cls ≠ "java/lang/invoke/MethodHandle" ∧ y_Receiver_doneBefore.cls ≠ "java/lang/invoke/VarHandle" ∧ (parseMethodDescriptor y_Receiver_doneBefore.desc).map (fun d => d.parameters.length) = some 1 := by decide +kernel
theorem hd_Writer_init : y_Writer_init.cls ≠ "java/lang/invoke/MethodHandle" ∧ y_Writer_init.cls ≠ "java/lang/invoke/VarHandle" ∧ (parseMethodDescriptor y_Writer_init.desc).map (fun d => d.parameters.length) = some 3 := by decide +kernel
theorem d_AL_clear_0 : decode b_AL_clear 0 = .ok (.aload_n 0, 1) := by decide +kernel
theorem d_AL_clear_1 : decode b_AL_clear 1 = .ok (.dup, 1) := by decide +kernel
theorem d_AL_clear_2 : decode b_AL_clear 2 = .ok (.getfield 63, 3) := by decide +kernel
theorem d_AL_clear_5 : decode b_AL_clear 5 = .ok (.iconst 1, 1) := by decide +kernel
theorem d_AL_clear_6 : decode b_AL_clear 6 = .ok (.iadd, 1) := by decide +kernel
theorem d_AL_clear_7 : decode b_AL_clear 7 = .ok (.putfield 63, 3) := by decide +kernel
theorem d_AL_clear_10 : decode b_AL_clear 10 = .ok (.aload_n 0, 1) := by decide +kernel
theorem d_AL_clear_11 : decode b_AL_clear 11 = .ok (.getfield 9, 3) := by decide +kernel
theorem d_AL_clear_14 : decode b_AL_clear 14 = .ok (.astore_n 1, 1) := by decide +kernel
theorem d_AL_clear_15 : decode b_AL_clear 15 = .ok (.aload_n 0, 1) := by decide +kernel
theorem d_AL_clear_16 : decode b_AL_clear 16 = .ok (.getfield 48, 3) := by decide +kernel
theorem d_AL_clear_19 : decode b_AL_clear 19 = .ok (.istore_n 2, 1) := by decide +kernel
theorem d_AL_clear_20 : decode b_AL_clear 20 = .ok (.aload_n 0, 1) := by decide +kernel
theorem d_AL_clear_21 : decode b_AL_clear 21 = .ok (.iconst 0, 1) := by decide +kernel
theorem d_AL_clear_22 : decode b_AL_clear 22 = .ok (.dup_x1, 1) := by decide +kernel
theorem d_AL_clear_23 : decode b_AL_clear 23 = .ok (.putfield 48, 3) := by decide +kernel
theorem d_AL_clear_26 : decode b_AL_clear 26 = .ok (.istore_n 3, 1) := by decide +kernel
theorem d_AL_clear_27 : decode b_AL_clear 27 = .ok (.iload_n 3, 1) := by decide +kernel
theorem d_AL_clear_28 : decode b_AL_clear 28 = .ok (.iload_n 2, 1) := by decide +kernel
theorem d_AL_clear_29 : decode b_AL_clear 29 = .ok (.if_icmp .ge 13, 3) := by decide +kernel
theorem d_AL_clear_42 : decode b_AL_clear 42 = .ok (.return_, 1) := by decide +kernel
theorem d_Lanes_find_0 : decode b_Lanes_find 0 = .ok (.aload_n 0, 1) := by decide +kernel
theorem d_Lanes_find_1 : decode b_Lanes_find 1 = .ok (.getfield 11, 3) := by decide +kernel
theorem d_Lanes_find_4 : decode b_Lanes_find 4 = .ok (.iload_n 1, 1) := by decide +kernel
theorem d_Lanes_find_5 : decode b_Lanes_find 5 = .ok (.sipush 255, 3) := by decide +kernel
theorem d_Lanes_find_8 : decode b_Lanes_find 8 = .ok (.iand, 1) := by decide +kernel
theorem d_Lanes_find_9 : decode b_Lanes_find 9 = .ok (.aaload, 1) := by decide +kernel
theorem d_Lanes_find_10 : decode b_Lanes_find 10 = .ok (.astore_n 2, 1) := by decide +kernel
theorem d_Lanes_find_11 : decode b_Lanes_find 11 = .ok (.aload_n 2, 1) := by decide +kernel
theorem d_Lanes_find_12 : decode b_Lanes_find 12 = .ok (.ifnull 21, 3) := by decide +kernel
theorem d_Lanes_find_33 : decode b_Lanes_find 33 = .ok (.aconst_null, 1) := by decide +kernel
theorem d_Lanes_find_34 : decode b_Lanes_find 34 = .ok (.areturn, 1) := by decide +kernel
theorem d_Lanes_findOrMake_0 : decode b_Lanes_findOrMake 0 = .ok (.aload_n 0, 1) := by decide +kernel
theorem d_Lanes_findOrMake_1 : decode b_Lanes_findOrMake 1 = .ok (.iload_n 1, 1) := by decide +kernel
theorem d_Lanes_findOrMake_2 : decode b_Lanes_findOrMake 2 = .ok (.invokevirtual 23, 3) := by decide +kernel
theorem d_Lanes_findOrMake_5 : decode b_Lanes_findOrMake 5 = .ok (.astore_n 2, 1) := by decide +kernel
theorem d_Lanes_findOrMake_6 : decode b_Lanes_findOrMake 6 = .ok (.aload_n 2, 1) := by decide +kernel
theorem d_Lanes_findOrMake_7 : decode b_Lanes_findOrMake 7 = .ok (.ifnull 5, 3) := by decide +kernel
theorem d_Lanes_findOrMake_12 : decode b_Lanes_findOrMake 12 = .ok (.iload_n 1, 1) := by decide +kernel
theorem d_Lanes_findOrMake_13 : decode b_Lanes_findOrMake 13 = .ok (.sipush 255, 3) := by decide +kernel
theorem d_Lanes_findOrMake_16 : decode b_Lanes_findOrMake 16 = .ok (.iand, 1) := by decide +kernel
theorem d_Lanes_findOrMake_17 : decode b_Lanes_findOrMake 17 = .ok (.istore_n 3, 1) := by decide +kernel
theorem d_Lanes_findOrMake_18 : decode b_Lanes_findOrMake 18 = .ok (.aload_n 0, 1) := by decide +kernel
theorem d_Lanes_findOrMake_19 : decode b_Lanes_findOrMake 19 = .ok (.getfield 11, 3) := by decide +kernel
theorem d_Lanes_findOrMake_22 : decode b_Lanes_findOrMake 22 = .ok (.iload_n 3, 1) := by decide +kernel
theorem d_Lanes_findOrMake_23 : decode b_Lanes_findOrMake 23 = .ok (.new 9, 3) := by decide +kernel
theorem d_Lanes_findOrMake_26 : decode b_Lanes_findOrMake 26 = .ok (.dup, 1) := by decide +kernel
theorem d_Lanes_findOrMake_27 : decode b_Lanes_findOrMake 27 = .ok (.iload_n 1, 1) := by decide +kernel
theorem d_Lanes_findOrMake_28 : decode b_Lanes_findOrMake 28 = .ok (.aload_n 0, 1) := by decide +kernel
theorem d_Lanes_findOrMake_29 : decode b_Lanes_findOrMake 29 = .ok (.getfield 11, 3) := by decide +kernel
theorem d_Lanes_findOrMake_32 : decode b_Lanes_findOrMake 32 = .ok (.iload_n 3, 1) := by decide +kernel
theorem d_Lanes_findOrMake_33 : decode b_Lanes_findOrMake 33 = .ok (.aaload, 1) := by decide +kernel
theorem d_Lanes_findOrMake_34 : decode b_Lanes_findOrMake 34 = .ok (.invokespecial 27, 3) := by decide +kernel
theorem d_Lanes_findOrMake_37 : decode b_Lanes_findOrMake 37 = .ok (.aastore, 1) := by decide +kernel
theorem d_Lanes_findOrMake_38 : decode b_Lanes_findOrMake 38 = .ok (.aload_n 0, 1) := by decide +kernel
theorem d_Lanes_findOrMake_39 : decode b_Lanes_findOrMake 39 = .ok (.getfield 11, 3) := by decide +kernel
theorem d_Lanes_findOrMake_42 : decode b_Lanes_findOrMake 42 = .ok (.iload_n 3, 1) := by decide +kernel
theorem d_Lanes_findOrMake_43 : decode b_Lanes_findOrMake 43 = .ok (.aaload, 1) := by decide +kernel
theorem d_Lanes_findOrMake_44 : decode b_Lanes_findOrMake 44 = .ok (.areturn, 1) := by decide +kernel
theorem d_Mo_take_0 : decode b_Mo_take 0 = .ok (.aload_n 0, 1) := by decide +kernel
theorem d_Mo_take_1 : decode b_Mo_take 1 = .ok (.iconst 0, 1) := by decide +kernel
theorem d_Mo_take_2 : decode b_Mo_take 2 = .ok (.putfield 156, 3) := by decide +kernel
theorem d_Mo_take_5 : decode b_Mo_take 5 = .ok (.iconst 0, 1) := by decide +kernel
theorem d_Mo_take_6 : decode b_Mo_take 6 = .ok (.istore_n 1, 1) := by decide +kernel
theorem d_Mo_take_7 : decode b_Mo_take 7 = .ok (.iconst 0, 1) := by decide +kernel
theorem d_Mo_take_8 : decode b_Mo_take 8 = .ok (.istore_n 2, 1) := by decide +kernel
theorem d_Mo_take_9 : decode b_Mo_take 9 = .ok (.iconst 1, 1) := by decide +kernel
theorem d_Mo_take_10 : decode b_Mo_take 10 = .ok (.istore_n 3, 1) := by decide +kernel
theorem d_Mo_take_11 : decode b_Mo_take 11 = .ok (.iload_n 3, 1) := by decide +kernel
theorem d_Mo_take_12 : decode b_Mo_take 12 = .ok (.ifCond .eq 72, 3) := by decide +kernel
theorem d_Mo_take_15 : decode b_Mo_take 15 = .ok (.iload_n 1, 1) := by decide +kernel
theorem d_Mo_take_16 : decode b_Mo_take 16 = .ok (.aload_n 0, 1) := by decide +kernel
theorem d_Mo_take_17 : decode b_Mo_take 17 = .ok (.getfield 159, 3) := by decide +kernel
theorem d_Mo_take_20 : decode b_Mo_take 20 = .ok (.if_icmp .ge 64, 3) := by decide +kernel
theorem d_Mo_take_84 : decode b_Mo_take 84 = .ok (.aload_n 0, 1) := by decide +kernel
theorem d_Mo_take_85 : decode b_Mo_take 85 = .ok (.iconst 0, 1) := by decide +kernel
theorem d_Mo_take_86 : decode b_Mo_take 86 = .ok (.iload_n 1, 1) := by decide +kernel
theorem d_Mo_take_87 : decode b_Mo_take 87 = .ok (.invokevirtual 164, 3) := by decide +kernel
theorem d_Mo_take_90 : decode b_Mo_take 90 = .ok (.iload_n 2, 1) := by decide +kernel
theorem d_Mo_take_91 : decode b_Mo_take 91 = .ok (.ireturn, 1) := by decide +kernel
theorem d_Receiver_doneBefore_0 : decode b_Receiver_doneBefore 0 = .ok (.iload_n 1, 1) := by decide +kernel
theorem d_Receiver_doneBefore_1 : decode b_Receiver_doneBefore 1 = .ok (.ifCond .lt 20, 3) := by decide +kernel
theorem d_Receiver_doneBefore_4 : decode b_Receiver_doneBefore 4 = .ok (.iload_n 1, 1) := by decide +kernel
theorem d_Receiver_doneBefore_5 : decode b_Receiver_doneBefore 5 = .ok (.bipush 16, 2) := by decide +kernel
theorem d_Receiver_doneBefore_7 : decode b_Receiver_doneBefore 7 = .ok (.if_icmp .ge 14, 3) := by decide +kernel
theorem d_Receiver_doneBefore_10 : decode b_Receiver_doneBefore 10 = .ok (.iload_n 1, 1) := by decide +kernel
theorem d_Receiver_doneBefore_11 : decode b_Receiver_doneBefore 11 = .ok (.aload_n 0, 1) := by decide +kernel
theorem d_Receiver_doneBefore_12 : decode b_Receiver_doneBefore 12 = .ok (.getfield 34, 3) := by decide +kernel
theorem d_Receiver_doneBefore_15 : decode b_Receiver_doneBefore 15 = .ok (.bipush 9, 2) := by decide +kernel
theorem d_Receiver_doneBefore_17 : decode b_Receiver_doneBefore 17 = .ok (.iaload, 1) := by decide +kernel
theorem d_Receiver_doneBefore_18 : decode b_Receiver_doneBefore 18 = .ok (.if_icmp .lt 5, 3) := by decide +kernel
theorem d_Receiver_doneBefore_21 : decode b_Receiver_doneBefore 21 = .ok (.aconst_null, 1) := by decide +kernel
theorem d_Receiver_doneBefore_22 : decode b_Receiver_doneBefore 22 = .ok (.areturn, 1) := by decide +kernel
theorem d_SS_clock_17 : decode b_SS_clock 17 = .ok (.aload_n 0, 1) := by decide +kernel
theorem d_SS_clock_18 : decode b_SS_clock 18 = .ok (.getfield 12, 3) := by decide +kernel
theorem d_SS_clock_21 : decode b_SS_clock 21 = .ok (.getfield 196, 3) := by decide +kernel
theorem d_SS_clock_24 : decode b_SS_clock 24 = .ok (.iload_n 1, 1) := by decide +kernel
theorem d_SS_clock_25 : decode b_SS_clock 25 = .ok (.invokevirtual 200, 3) := by decide +kernel
theorem d_SS_clock_28 : decode b_SS_clock 28 = .ok (.astore_n 2, 1) := by decide +kernel
theorem d_SS_clock_29 : decode b_SS_clock 29 = .ok (.aload_n 2, 1) := by decide +kernel
theorem d_SS_clock_30 : decode b_SS_clock 30 = .ok (.ifnonnull 9, 3) := by decide +kernel
theorem d_SS_clock_33 : decode b_SS_clock 33 = .ok (.ldc2_w 155, 3) := by decide +kernel
theorem d_SS_clock_36 : decode b_SS_clock 36 = .ok (.goto 7, 3) := by decide +kernel
theorem d_SS_clock_43 : decode b_SS_clock 43 = .ok (.lreturn, 1) := by decide +kernel
theorem d_SS_forget_0 : decode b_SS_forget 0 = .ok (.aload_n 0, 1) := by decide +kernel
theorem d_SS_forget_1 : decode b_SS_forget 1 = .ok (.getfield 19, 3) := by decide +kernel
theorem d_SS_forget_4 : decode b_SS_forget 4 = .ok (.invokevirtual 224, 3) := by decide +kernel
theorem d_SS_forget_7 : decode b_SS_forget 7 = .ok (.return_, 1) := by decide +kernel
theorem d_SS_piece_23 : decode b_SS_piece 23 = .ok (.aload_n 0, 1) := by decide +kernel
theorem d_SS_piece_24 : decode b_SS_piece 24 = .ok (.getfield 12, 3) := by decide +kernel
theorem d_SS_piece_27 : decode b_SS_piece 27 = .ok (.iload_n 1, 1) := by decide +kernel
theorem d_SS_piece_28 : decode b_SS_piece 28 = .ok (.invokevirtual 173, 3) := by decide +kernel
theorem d_SS_piece_31 : decode b_SS_piece 31 = .ok (.astore_n 3, 1) := by decide +kernel
theorem d_SS_piece_32 : decode b_SS_piece 32 = .ok (.aload_n 3, 1) := by decide +kernel
theorem d_SS_piece_33 : decode b_SS_piece 33 = .ok (.ifnonnull 7, 3) := by decide +kernel
theorem d_SS_piece_36 : decode b_SS_piece 36 = .ok (.ldc2_w 155, 3) := by decide +kernel
theorem d_SS_piece_39 : decode b_SS_piece 39 = .ok (.lreturn, 1) := by decide +kernel
theorem d_SS_plan_28 : decode b_SS_plan 28 = .ok (.aload_n 0, 1) := by decide +kernel
theorem d_SS_plan_29 : decode b_SS_plan 29 = .ok (.getfield 19, 3) := by decide +kernel
theorem d_SS_plan_32 : decode b_SS_plan 32 = .ok (.invokevirtual 105, 3) := by decide +kernel
theorem d_SS_plan_35 : decode b_SS_plan 35 = .ok (.iconst 4, 1) := by decide +kernel
theorem d_SS_plan_36 : decode b_SS_plan 36 = .ok (.if_icmp .lt 5, 3) := by decide +kernel
theorem d_SS_plan_41 : decode b_SS_plan 41 = .ok (.aload_n 0, 1) := by decide +kernel
theorem d_SS_plan_42 : decode b_SS_plan 42 = .ok (.getfield 19, 3) := by decide +kernel
theorem d_SS_plan_45 : decode b_SS_plan 45 = .ok (.new 211, 3) := by decide +kernel
theorem d_SS_plan_48 : decode b_SS_plan 48 = .ok (.dup, 1) := by decide +kernel
theorem d_SS_plan_49 : decode b_SS_plan 49 = .ok (.iload_n 1, 1) := by decide +kernel
theorem d_SS_plan_50 : decode b_SS_plan 50 = .ok (.iload_n 2, 1) := by decide +kernel
theorem d_SS_plan_51 : decode b_SS_plan 51 = .ok (.invokespecial 213, 3) := by decide +kernel
theorem d_SS_plan_54 : decode b_SS_plan 54 = .ok (.invokevirtual 215, 3) := by decide +kernel
theorem d_SS_plan_57 : decode b_SS_plan 57 = .ok (.pop, 1) := by decide +kernel
theorem d_SS_plan_58 : decode b_SS_plan 58 = .ok (.aload_n 0, 1) := by decide +kernel
theorem d_SS_plan_59 : decode b_SS_plan 59 = .ok (.getfield 19, 3) := by decide +kernel
theorem d_SS_plan_62 : decode b_SS_plan 62 = .ok (.invokevirtual 105, 3) := by decide +kernel
theorem d_SS_plan_65 : decode b_SS_plan 65 = .ok (.ireturn, 1) := by decide +kernel
theorem d_SS_take_0 : decode b_SS_take 0 = .ok (.aload_n 0, 1) := by decide +kernel
theorem d_SS_take_1 : decode b_SS_take 1 = .ok (.getfield 12, 3) := by decide +kernel
theorem d_SS_take_4 : decode b_SS_take 4 = .ok (.getfield 30, 3) := by decide +kernel
theorem d_SS_take_7 : decode b_SS_take 7 = .ok (.astore_n 1, 1) := by decide +kernel
theorem d_SS_take_8 : decode b_SS_take 8 = .ok (.iconst 0, 1) := by decide +kernel
theorem d_SS_take_9 : decode b_SS_take 9 = .ok (.istore_n 2, 1) := by decide +kernel
theorem d_SS_take_10 : decode b_SS_take 10 = .ok (.iconst 0, 1) := by decide +kernel
theorem d_SS_take_11 : decode b_SS_take 11 = .ok (.istore_n 3, 1) := by decide +kernel
theorem d_SS_take_12 : decode b_SS_take 12 = .ok (.iload_n 3, 1) := by decide +kernel
theorem d_SS_take_13 : decode b_SS_take 13 = .ok (.aload_n 1, 1) := by decide +kernel
theorem d_SS_take_14 : decode b_SS_take 14 = .ok (.getfield 34, 3) := by decide +kernel
theorem d_SS_take_17 : decode b_SS_take 17 = .ok (.if_icmp .ge 136, 3) := by decide +kernel
theorem d_SS_take_153 : decode b_SS_take 153 = .ok (.aload_n 1, 1) := by decide +kernel
theorem d_SS_take_154 : decode b_SS_take 154 = .ok (.iconst 0, 1) := by decide +kernel
theorem d_SS_take_155 : decode b_SS_take 155 = .ok (.iload_n 3, 1) := by decide +kernel
theorem d_SS_take_156 : decode b_SS_take 156 = .ok (.invokevirtual 61, 3) := by decide +kernel
theorem d_SS_take_159 : decode b_SS_take 159 = .ok (.iload_n 2, 1) := by decide +kernel
theorem d_SS_take_160 : decode b_SS_take 160 = .ok (.ireturn, 1) := by decide +kernel
theorem d_SS_told_20 : decode b_SS_told 20 = .ok (.iload_n 1, 1) := by decide +kernel
theorem d_SS_told_21 : decode b_SS_told 21 = .ok (.ifCond .ne 14, 3) := by decide +kernel
theorem d_SS_told_24 : decode b_SS_told 24 = .ok (.aload_n 0, 1) := by decide +kernel
theorem d_SS_told_25 : decode b_SS_told 25 = .ok (.getfield 12, 3) := by decide +kernel
theorem d_SS_told_28 : decode b_SS_told 28 = .ok (.getfield 30, 3) := by decide +kernel
theorem d_SS_told_31 : decode b_SS_told 31 = .ok (.getfield 34, 3) := by decide +kernel
theorem d_SS_told_34 : decode b_SS_told 34 = .ok (.ireturn, 1) := by decide +kernel
theorem d_SS_told_35 : decode b_SS_told 35 = .ok (.iload_n 1, 1) := by decide +kernel
theorem d_SS_told_36 : decode b_SS_told 36 = .ok (.bipush 10, 2) := by decide +kernel
theorem d_SS_told_38 : decode b_SS_told 38 = .ok (.if_icmp .ne 14, 3) := by decide +kernel
theorem d_SS_told_41 : decode b_SS_told 41 = .ok (.aload_n 0, 1) := by decide +kernel
theorem d_SS_told_42 : decode b_SS_told 42 = .ok (.getfield 12, 3) := by decide +kernel
theorem d_SS_told_45 : decode b_SS_told 45 = .ok (.getfield 76, 3) := by decide +kernel
theorem d_SS_told_48 : decode b_SS_told 48 = .ok (.getfield 99, 3) := by decide +kernel
theorem d_SS_told_51 : decode b_SS_told 51 = .ok (.ireturn, 1) := by decide +kernel
theorem d_SS_told_52 : decode b_SS_told 52 = .ok (.iload_n 1, 1) := by decide +kernel
theorem d_SS_told_53 : decode b_SS_told 53 = .ok (.bipush 11, 2) := by decide +kernel
theorem d_SS_told_55 : decode b_SS_told 55 = .ok (.if_icmp .ne 17, 3) := by decide +kernel
theorem d_SS_told_58 : decode b_SS_told 58 = .ok (.aload_n 0, 1) := by decide +kernel
theorem d_SS_told_59 : decode b_SS_told 59 = .ok (.getfield 12, 3) := by decide +kernel
theorem d_SS_told_62 : decode b_SS_told 62 = .ok (.getfield 76, 3) := by decide +kernel
theorem d_SS_told_65 : decode b_SS_told 65 = .ok (.getfield 102, 3) := by decide +kernel
theorem d_SS_told_68 : decode b_SS_told 68 = .ok (.invokevirtual 105, 3) := by decide +kernel
theorem d_SS_told_71 : decode b_SS_told 71 = .ok (.ireturn, 1) := by decide +kernel
theorem d_SS_told_72 : decode b_SS_told 72 = .ok (.aload_n 0, 1) := by decide +kernel
theorem d_SS_told_73 : decode b_SS_told 73 = .ok (.getfield 12, 3) := by decide +kernel
theorem d_SS_told_76 : decode b_SS_told 76 = .ok (.getfield 68, 3) := by decide +kernel
theorem d_SS_told_79 : decode b_SS_told 79 = .ok (.iload_n 1, 1) := by decide +kernel
theorem d_SS_told_80 : decode b_SS_told 80 = .ok (.iaload, 1) := by decide +kernel
theorem d_SS_told_81 : decode b_SS_told 81 = .ok (.ireturn, 1) := by decide +kernel
theorem d_SS_writerTo_0 : decode b_SS_writerTo 0 = .ok (.new 237, 3) := by decide +kernel
theorem d_SS_writerTo_3 : decode b_SS_writerTo 3 = .ok (.dup, 1) := by decide +kernel
theorem d_SS_writerTo_4 : decode b_SS_writerTo 4 = .ok (.aload_n 0, 1) := by decide +kernel
theorem d_SS_writerTo_5 : decode b_SS_writerTo 5 = .ok (.getfield 12, 3) := by decide +kernel
theorem d_SS_writerTo_8 : decode b_SS_writerTo 8 = .ok (.getfield 30, 3) := by decide +kernel
theorem d_SS_writerTo_11 : decode b_SS_writerTo 11 = .ok (.aload_n 0, 1) := by decide +kernel
theorem d_SS_writerTo_12 : decode b_SS_writerTo 12 = .ok (.getfield 12, 3) := by decide +kernel
theorem d_SS_writerTo_15 : decode b_SS_writerTo 15 = .ok (.getfield 196, 3) := by decide +kernel
theorem d_SS_writerTo_18 : decode b_SS_writerTo 18 = .ok (.iload_n 1, 1) := by decide +kernel
theorem d_SS_writerTo_19 : decode b_SS_writerTo 19 = .ok (.invokevirtual 277, 3) := by decide +kernel
theorem d_SS_writerTo_22 : decode b_SS_writerTo 22 = .ok (.iload_n 2, 1) := by decide +kernel
theorem d_SS_writerTo_23 : decode b_SS_writerTo 23 = .ok (.invokespecial 280, 3) := by decide +kernel
theorem d_SS_writerTo_26 : decode b_SS_writerTo 26 = .ok (.areturn, 1) := by decide +kernel
set_option maxHeartbeats 4000000 in
set_option maxRecDepth 100000 in
theorem c_SS_told_ok (l : Launch) (D : va_G) (hfl : l.stackTraces = false) (B0 : State) (hG : zG B0) (sz : Nat) (cI : ClassId) (h rc d tp ln tb ct dp a pr b : Nat) (sz9 lv np mo : Int32) (cn : Nat → Int32) (k : Nat) (hk : k ≤ 11) : MetT l y_SS_told [Cond.code y_SS_told b_SS_told 2 (some .int)] ({ frames := 1, cells := 1, slots := 6, locals := 20 }) (zMo [.ref h, .int (nI k)] D [(h, .inr (11, [.ref rc, .ref d])), (rc, .inr (4, [.ref tp, .ref ln, .ref tb, .ref ct, .ref dp])), (tp, .inr (0, [.ref a, .int sz9])), (tb, .inr (8, [.int lv, .ref pr])), (pr, .inr (12, [.ref b, .int np, .int mo])), (ct, .inl (cI, 10, .inl cn))] [(cI, .int)] sz B0) (zQi (fun r0 (_ : Unit) => r0 = if k = 0 then sz9 else if k = 10 then lv else if k = 11 then np else cn k) (fun (_u : Unit) t => zW D (va_A [(h, .inr (11, [.ref rc, .ref d])), (rc, .inr (4, [.ref tp, .ref ln, .ref tb, .ref ct, .ref dp])), (tp, .inr (0, [.ref a, .int sz9])), (tb, .inr (8, [.int lv, .ref pr])), (pr, .inr (12, [.ref b, .int np, .int mo])), (ct, .inl (cI, 10, .inl cn))] sz) [(h, .inr (11, [.ref rc, .ref d])), (rc, .inr (4, [.ref tp, .ref ln, .ref tb, .ref ct, .ref dp])), (tp, .inr (0, [.ref a, .int sz9])), (tb, .inr (8, [.int lv, .ref pr])), (pr, .inr (12, [.ref b, .int np, .int mo])), (ct, .inl (cI, 10, .inl cn))] [(cI, .int)] t) (va_A [(h, .inr (11, [.ref rc, .ref d])), (rc, .inr (4, [.ref tp, .ref ln, .ref tb, .ref ct, .ref dp])), (tp, .inr (0, [.ref a, .int sz9])), (tb, .inr (8, [.int lv, .ref pr])), (pr, .inr (12, [.ref b, .int np, .int mo])), (ct, .inl (cI, 10, .inl cn))] sz) (fun _ => False)) 1 6 (va_A [(h, .inr (11, [.ref rc, .ref d])), (rc, .inr (4, [.ref tp, .ref ln, .ref tb, .ref ct, .ref dp])), (tp, .inr (0, [.ref a, .int sz9])), (tb, .inr (8, [.int lv, .ref pr])), (pr, .inr (12, [.ref b, .int np, .int mo])), (ct, .inl (cI, 10, .inl cn))] sz) := by
  refine MetT.ofW (cc := b_SS_told) (maxL := 2) (ret := (some .int)) (by decide) rfl ?_
  intro p e s m args below meth cd s₁ Bd hml hem hv
  obtain ⟨rfl, hsz, hP, hK, hN, hD0, hO⟩ := hv
  have hx := Bd.exec
  have hb := Bd.bytes
  have hr := Bd.returns
  have hts := hN.use (a := ([.ref h, .int (nI k)]).toArray)
  have hown : s.vm.findClass R_SS = some m.cls := findClass_of_methodNamed Bd.named
  have hlocks := Bd.notSynchronized
  subst hsz
  have hD := hD0.self (sz := s.heap.size)
  have hAO := z_AO hD0 hO
  clear hD0
  have hA : ∀ q : Nat, s.heap.size ≤ q → va_A [(h, .inr (11, [.ref rc, .ref d])), (rc, .inr (4, [.ref tp, .ref ln, .ref tb, .ref ct, .ref dp])), (tp, .inr (0, [.ref a, .int sz9])), (tb, .inr (8, [.int lv, .ref pr])), (pr, .inr (12, [.ref b, .int np, .int mo])), (ct, .inl (cI, 10, .inl cn))] s.heap.size q := fun q h => Or.inr h
  have hS : va_S (va_A [(h, .inr (11, [.ref rc, .ref d])), (rc, .inr (4, [.ref tp, .ref ln, .ref tb, .ref ct, .ref dp])), (tp, .inr (0, [.ref a, .int sz9])), (tb, .inr (8, [.int lv, .ref pr])), (pr, .inr (12, [.ref b, .int np, .int mo])), (ct, .inl (cI, 10, .inl cn))] s.heap.size) s.heap s.heap [] := va_S.rf
  generalize hAe : va_A [(h, .inr (11, [.ref rc, .ref d])), (rc, .inr (4, [.ref tp, .ref ln, .ref tb, .ref ct, .ref dp])), (tp, .inr (0, [.ref a, .int sz9])), (tb, .inr (8, [.int lv, .ref pr])), (pr, .inr (12, [.ref b, .int np, .int mo])), (ct, .inl (cI, 10, .inl cn))] s.heap.size = A at hD hA hS hAO ⊢
  have hP : va_P D classes [(h, .inr (11, [.ref rc, .ref d])), (rc, .inr (4, [.ref tp, .ref ln, .ref tb, .ref ct, .ref dp])), (tp, .inr (0, [.ref a, .int sz9])), (tb, .inr (8, [.int lv, .ref pr])), (pr, .inr (12, [.ref b, .int np, .int mo])), (ct, .inl (cI, 10, .inl cn))] s.heap := hP
  have hl := lv_entry ([.ref h, .int (nI k)]) (n := 2) (Nat.le_of_ble_eq_true rfl)
  rw [lg_entry_eq]
  generalize (lg_sl ([.ref h, .int (nI k)]) ++ List.replicate (2 - (lg_sl ([.ref h, .int (nI k)])).length) Slot.unset).toArray = ls at hl ⊢
  have hl : lv_has ls 2 [(0, .ref h), (1, .int (nI k))] := hl
  refine lv_iload_n hx hb d_SS_told_0 rfl (lv_at hl 1 rfl) ?_
  refine lv_if_lt (tgt := 10) hx hb d_SS_told_1 rfl (fun h9 => absurd h9 (nI_pos (by omega))) (fun h1 => ?_)
  refine lv_iload_n hx hb d_SS_told_4 rfl (lv_at hl 1 rfl) ?_
  refine lv_bipush (v := 11) hx hb d_SS_told_5 (by decide) ?_
  refine lv_icmp_le (tgt := 20) hx hb d_SS_told_7 rfl (fun h7 => ?_) (fun h9 => absurd (nI_le (a := k) (b := 11) hk (by decide)) h9)
  refine lv_iload_n hx hb d_SS_told_20 rfl (lv_at hl 1 rfl) ?_
  refine lv_if_ne (tgt := 35) hx hb d_SS_told_21 rfl (fun h21 => ?_) (fun h21 => ?_)
  · have h21 : ¬ k = 0 := fun z => h21 (by rw [z]; rfl)
    refine lv_iload_n hx hb d_SS_told_35 rfl (lv_at hl 1 rfl) ?_
    refine lv_bipush (v := 10) hx hb d_SS_told_36 (by decide) ?_
    refine lv_icmp_ne (tgt := 52) hx hb d_SS_told_38 rfl (fun h38 => ?_) (fun h38 => ?_)
    · have h38 : ¬ k = 10 := fun z => h38 (by rw [z]; rfl)
      refine lv_iload_n hx hb d_SS_told_52 rfl (lv_at hl 1 rfl) ?_
      refine lv_bipush (v := 11) hx hb d_SS_told_53 (by decide) ?_
      refine lv_icmp_ne (tgt := 72) hx hb d_SS_told_55 rfl (fun h55 => ?_) (fun h55 => ?_)
      · have h55 : ¬ k = 11 := fun z => h55 (by rw [z]; rfl)
        refine lv_aload_n hx hb d_SS_told_72 rfl (lv_at hl 0 rfl) ?_
        refine va_get (D := D) (ci := 11) (v := .ref rc) (C := R_SS) (T := F_SS) (N := 2) hx hb hts i_SS hown hK hP 0 rfl rfl 0 (by decide) (hts _ wd_198) (fun _ h9 => h9) rfl d_SS_told_73 ?_
        refine va_getN (D := D) (ci := 4) (v := .ref ct) (C := R_Receiver) (T := F_Receiver) (N := 5) hx hb hts i_Receiver hown hK hP 1 rfl rfl 3 (by decide) (hts _ wd_182) (fun _ h9 => h9) rfl d_SS_told_76 ?_
        refine lv_iload_n hx hb d_SS_told_79 rfl (lv_at hl 1 rfl) ?_
        refine z_iald hx hb hK hP 5 0 rfl rfl k rfl (by omega) (by omega) d_SS_told_80 ?_
        have hP9 := hP.sub (ws' := [(h, .inr (11, [.ref rc, .ref d])), (rc, .inr (4, [.ref tp, .ref ln, .ref tb, .ref ct, .ref dp])), (tp, .inr (0, [.ref a, .int sz9])), (tb, .inr (8, [.int lv, .ref pr])), (pr, .inr (12, [.ref b, .int np, .int mo])), (ct, .inl (cI, 10, .inl cn))]) [0, 1, 2, 3, 4, 5] rfl
        have hD9 := hD.sub (ws' := [(h, .inr (11, [.ref rc, .ref d])), (rc, .inr (4, [.ref tp, .ref ln, .ref tb, .ref ct, .ref dp])), (tp, .inr (0, [.ref a, .int sz9])), (tb, .inr (8, [.int lv, .ref pr])), (pr, .inr (12, [.ref b, .int np, .int mo])), (ct, .inl (cI, 10, .inl cn))]) [0, 1, 2, 3, 4, 5] (by decide) rfl
        have hK9 := hK.sub (tys' := [(cI, .int)]) [0] rfl
        refine W.widen (k := 1) (n := 6) (by omega) (by omega) ?_
        exact W.mono MQ.toT (W.iret (v := (cn k)) hx hb hr (fun t ht hW => Or.inl ⟨_, (), rfl, (by dsimp only; rw [if_neg h21, if_neg h38, if_neg h55]), ⟨by rw [ht]; exact hP9, va_K.moved hW.alike hK9, hD9⟩, hS.F ht⟩) hS.2.2 d_SS_told_81)
      · have h55 : k = 11 := (nI_eq (b := 11) (by omega) (by omega)).mp (by first | exact h55 | exact Classical.not_not.mp h55)
        refine lv_aload_n hx hb d_SS_told_58 rfl (lv_at hl 0 rfl) ?_
        refine va_get (D := D) (ci := 11) (v := .ref rc) (C := R_SS) (T := F_SS) (N := 2) hx hb hts i_SS hown hK hP 0 rfl rfl 0 (by decide) (hts _ wd_198) (fun _ h9 => h9) rfl d_SS_told_59 ?_
        refine va_getN (D := D) (ci := 4) (v := .ref tb) (C := R_Receiver) (T := F_Receiver) (N := 5) hx hb hts i_Receiver hown hK hP 1 rfl rfl 2 (by decide) (hts _ wd_180) (fun _ h9 => h9) rfl d_SS_told_62 ?_
        refine va_getN (D := D) (ci := 8) (v := .ref pr) (C := R_Tables) (T := F_Tables) (N := 2) hx hb hts i_Tables hown hK hP 3 rfl rfl 1 (by decide) (hts _ wd_167) (fun _ h9 => h9) rfl d_SS_told_65 ?_
        have hPc := hP.sub (ws' := [(pr, .inr (12, [.ref b, .int np, .int mo]))]) [4] rfl
        have hKc := hK.sub (tys' := []) [] rfl
        refine z_ci (va_runV (As := []) (rest := []) ⟨hx, hb, hml, hown, hts⟩ (c_AL_size l D pr b np mo ) (z_cV hN wd_305 wd_66 wd_820 hd_AL_size rfl rfl ⟨Nat.le_of_ble_eq_true rfl, Nat.le_of_ble_eq_true rfl⟩ wd_303 wd_304) (z_preV (va_recv (ci := 12) (q0 := 4) hK hP rfl rfl) hPc hKc hN) rfl rfl hl.1 rfl (lv_room (Nat.le_of_ble_eq_true rfl)) d_SS_told_68 ⟨Nat.le_of_ble_eq_true rfl, Nat.le_of_ble_eq_true rfl⟩) (fun r68 e68 => ?_)
        refine z_topi (w := np) e68 ?_
        have hP9 := hP.sub (ws' := [(h, .inr (11, [.ref rc, .ref d])), (rc, .inr (4, [.ref tp, .ref ln, .ref tb, .ref ct, .ref dp])), (tp, .inr (0, [.ref a, .int sz9])), (tb, .inr (8, [.int lv, .ref pr])), (pr, .inr (12, [.ref b, .int np, .int mo])), (ct, .inl (cI, 10, .inl cn))]) [0, 1, 2, 3, 4, 5] rfl
        have hD9 := hD.sub (ws' := [(h, .inr (11, [.ref rc, .ref d])), (rc, .inr (4, [.ref tp, .ref ln, .ref tb, .ref ct, .ref dp])), (tp, .inr (0, [.ref a, .int sz9])), (tb, .inr (8, [.int lv, .ref pr])), (pr, .inr (12, [.ref b, .int np, .int mo])), (ct, .inl (cI, 10, .inl cn))]) [0, 1, 2, 3, 4, 5] (by decide) rfl
        have hK9 := hK.sub (tys' := [(cI, .int)]) [0] rfl
        refine W.widen (k := 1) (n := 6) (by omega) (by omega) ?_
        exact W.mono MQ.toT (W.iret (v := np) hx hb hr (fun t ht hW => Or.inl ⟨_, (), rfl, (by dsimp only; rw [if_neg h21, if_neg h38, if_pos h55]), ⟨by rw [ht]; exact hP9, va_K.moved hW.alike hK9, hD9⟩, hS.F ht⟩) hS.2.2 d_SS_told_71)
    · have h38 : k = 10 := (nI_eq (b := 10) (by omega) (by omega)).mp (by first | exact h38 | exact Classical.not_not.mp h38)
      refine lv_aload_n hx hb d_SS_told_41 rfl (lv_at hl 0 rfl) ?_
      refine va_get (D := D) (ci := 11) (v := .ref rc) (C := R_SS) (T := F_SS) (N := 2) hx hb hts i_SS hown hK hP 0 rfl rfl 0 (by decide) (hts _ wd_198) (fun _ h9 => h9) rfl d_SS_told_42 ?_
      refine va_getN (D := D) (ci := 4) (v := .ref tb) (C := R_Receiver) (T := F_Receiver) (N := 5) hx hb hts i_Receiver hown hK hP 1 rfl rfl 2 (by decide) (hts _ wd_180) (fun _ h9 => h9) rfl d_SS_told_45 ?_
      refine va_getN (D := D) (ci := 8) (v := .int lv) (C := R_Tables) (T := F_Tables) (N := 2) hx hb hts i_Tables hown hK hP 3 rfl rfl 0 (by decide) (hts _ wd_165) (fun _ h9 => h9) rfl d_SS_told_48 ?_
      have hP9 := hP.sub (ws' := [(h, .inr (11, [.ref rc, .ref d])), (rc, .inr (4, [.ref tp, .ref ln, .ref tb, .ref ct, .ref dp])), (tp, .inr (0, [.ref a, .int sz9])), (tb, .inr (8, [.int lv, .ref pr])), (pr, .inr (12, [.ref b, .int np, .int mo])), (ct, .inl (cI, 10, .inl cn))]) [0, 1, 2, 3, 4, 5] rfl
      have hD9 := hD.sub (ws' := [(h, .inr (11, [.ref rc, .ref d])), (rc, .inr (4, [.ref tp, .ref ln, .ref tb, .ref ct, .ref dp])), (tp, .inr (0, [.ref a, .int sz9])), (tb, .inr (8, [.int lv, .ref pr])), (pr, .inr (12, [.ref b, .int np, .int mo])), (ct, .inl (cI, 10, .inl cn))]) [0, 1, 2, 3, 4, 5] (by decide) rfl
      have hK9 := hK.sub (tys' := [(cI, .int)]) [0] rfl
      refine W.widen (k := 1) (n := 6) (by omega) (by omega) ?_
      exact W.mono MQ.toT (W.iret (v := lv) hx hb hr (fun t ht hW => Or.inl ⟨_, (), rfl, (by dsimp only; rw [if_neg h21, if_pos h38]), ⟨by rw [ht]; exact hP9, va_K.moved hW.alike hK9, hD9⟩, hS.F ht⟩) hS.2.2 d_SS_told_51)
  · have h21 : k = 0 := (nI_eq (b := 0) (by omega) (by omega)).mp (by first | exact h21 | exact Classical.not_not.mp h21)
    refine lv_aload_n hx hb d_SS_told_24 rfl (lv_at hl 0 rfl) ?_
    refine va_get (D := D) (ci := 11) (v := .ref rc) (C := R_SS) (T := F_SS) (N := 2) hx hb hts i_SS hown hK hP 0 rfl rfl 0 (by decide) (hts _ wd_198) (fun _ h9 => h9) rfl d_SS_told_25 ?_
    refine va_getN (D := D) (ci := 4) (v := .ref tp) (C := R_Receiver) (T := F_Receiver) (N := 5) hx hb hts i_Receiver hown hK hP 1 rfl rfl 0 (by decide) (hts _ wd_176) (fun _ h9 => h9) rfl d_SS_told_28 ?_
    refine va_getN (D := D) (ci := 0) (v := .int sz9) (C := R_Row) (T := F_Row) (N := 2) hx hb hts i_Row hown hK hP 2 rfl rfl 1 (by decide) (hts _ wd_109) (fun _ h9 => h9) rfl d_SS_told_31 ?_
    have hP9 := hP.sub (ws' := [(h, .inr (11, [.ref rc, .ref d])), (rc, .inr (4, [.ref tp, .ref ln, .ref tb, .ref ct, .ref dp])), (tp, .inr (0, [.ref a, .int sz9])), (tb, .inr (8, [.int lv, .ref pr])), (pr, .inr (12, [.ref b, .int np, .int mo])), (ct, .inl (cI, 10, .inl cn))]) [0, 1, 2, 3, 4, 5] rfl
    have hD9 := hD.sub (ws' := [(h, .inr (11, [.ref rc, .ref d])), (rc, .inr (4, [.ref tp, .ref ln, .ref tb, .ref ct, .ref dp])), (tp, .inr (0, [.ref a, .int sz9])), (tb, .inr (8, [.int lv, .ref pr])), (pr, .inr (12, [.ref b, .int np, .int mo])), (ct, .inl (cI, 10, .inl cn))]) [0, 1, 2, 3, 4, 5] (by decide) rfl
    have hK9 := hK.sub (tys' := [(cI, .int)]) [0] rfl
    refine W.widen (k := 1) (n := 6) (by omega) (by omega) ?_
    exact W.mono MQ.toT (W.iret (v := sz9) hx hb hr (fun t ht hW => Or.inl ⟨_, (), rfl, (if_pos h21).symm, ⟨by rw [ht]; exact hP9, va_K.moved hW.alike hK9, hD9⟩, hS.F ht⟩) hS.2.2 d_SS_told_34)
set_option maxHeartbeats 4000000 in
set_option maxRecDepth 100000 in
theorem c_Lanes_find0 (l : Launch) (D : va_G) (cN : ClassId) (ln hd : Nat) (hf : Nat → Option Nat) (pid : Nat) (hpid : pid < 8192) (hno : hf (pid % 256) = none) : Met l y_Lanes_find [Cond.code y_Lanes_find b_Lanes_find 3 (some (.object "StreamSplitter$Lane"))] ({ frames := 0, cells := 0, slots := 0, locals := 0 }) (zP [.ref ln, .int (nI pid)] D [(ln, .inr (2, [.ref hd])), (hd, .inl (cN, 256, .inr (.inr (.inr (.inr hf)))))] [(cN, .object "StreamSplitter$Lane")]) (va_Sq (fun r => r = none)) 0 0 (fun _ => False) := by
  refine Met.ofW (cc := b_Lanes_find) (maxL := 3) (ret := (some (.object "StreamSplitter$Lane"))) (by decide) rfl ?_
  intro p e s m args below meth cd s₁ Bd hml hv
  obtain ⟨rfl, hP, hK, hN⟩ := hv
  have hx := Bd.exec
  have hb := Bd.bytes
  have hr := Bd.returns
  have hts := hN.use (a := ([.ref ln, .int (nI pid)]).toArray)
  have hown : s.vm.findClass R_Lanes = some m.cls := findClass_of_methodNamed Bd.named
  have hlocks := Bd.notSynchronized
  have hP : va_P D classes [(ln, .inr (2, [.ref hd])), (hd, .inl (cN, 256, .inr (.inr (.inr (.inr hf)))))] s.heap := hP
  have hl := lv_entry ([.ref ln, .int (nI pid)]) (n := 3) (Nat.le_of_ble_eq_true rfl)
  rw [lg_entry_eq]
  generalize (lg_sl ([.ref ln, .int (nI pid)]) ++ List.replicate (3 - (lg_sl ([.ref ln, .int (nI pid)])).length) Slot.unset).toArray = ls at hl ⊢
  have hl : lv_has ls 3 [(0, .ref ln), (1, .int (nI pid))] := hl
  refine lv_aload_n hx hb d_Lanes_find_0 rfl (lv_at hl 0 rfl) ?_
  refine va_get (D := D) (ci := 2) (v := .ref hd) (C := R_Lanes) (T := F_Lanes) (N := 1) hx hb hts i_Lanes hown hK hP 0 rfl rfl 0 (by decide) (hts _ wd_127) (fun _ h9 => h9) rfl d_Lanes_find_1 ?_
  refine lv_iload_n hx hb d_Lanes_find_4 rfl (lv_at hl 1 rfl) ?_
  refine lv_sipush (v := 255) hx hb d_Lanes_find_5 (by decide) ?_
  refine lv_iand hx hb d_Lanes_find_8 ?_
  refine z_topi (w := nI (pid % 256)) (wr_256 (by omega)) ?_
  refine z_aldq hx hb hK hP 1 0 rfl rfl (pid % 256) rfl (by omega) (by omega) d_Lanes_find_9 ?_
  refine z_topq (w := none) hno ?_
  refine lv_astore_nN (lv' := [(2, .null), (0, .ref ln), (1, .int (nI pid))]) hx hb d_Lanes_find_10 rfl hl (by decide) rfl (fun ls hl => ?_)
  refine lv_aload_nN hx hb d_Lanes_find_11 rfl (lv_at hl 0 rfl) ?_
  refine lv_ifnullN (tgt := 33) hx hb d_Lanes_find_12 rfl ?_
  refine lv_null hx hb d_Lanes_find_33 ?_
  exact W.aret (v := va_rf none) hx hb hr (Or.inl ⟨_, rfl⟩) (va_rf_or _) (fun t ht hW => ⟨_, rfl, rfl, ht⟩) (fun _ h => by cases h) d_Lanes_find_34
set_option maxHeartbeats 4000000 in
set_option maxRecDepth 100000 in
theorem c_Lanes_findOrMake0 (l : Launch) (D : va_G) (sz : Nat) (cN : ClassId) (ln hd : Nat) (hf : Nat → Option Nat) (pid : Nat) (hpid : pid < 8192) (hno : hf (pid % 256) = none) : Met l y_Lanes_findOrMake [Cond.code y_Lanes_findOrMake b_Lanes_findOrMake 4 (some (.object "StreamSplitter$Lane"))] ({ frames := 2, cells := 1, slots := 8, locals := 34 }) (zM [.ref ln, .int (nI pid)] D [(ln, .inr (2, [.ref hd])), (hd, .inl (cN, 256, .inr (.inr (.inr (.inr hf)))))] [(cN, .object "StreamSplitter$Lane")] sz) (va_Qr (fun (_ : Unit) => True) (fun (_u : Unit) ra t => zW D (va_A [(ln, .inr (2, [.ref hd])), (hd, .inl (cN, 256, .inr (.inr (.inr (.inr hf)))))] sz) [(ln, .inr (2, [.ref hd])), (hd, .inl (cN, 256, .inr (.inr (.inr (.inr (va_up hf (pid % 256) (some ra))))))), (ra, .inr (1, [.int (nI pid), .null, .int (-1), .int 0, .long (-1), .int 0, .null, .null]))] [(cN, .object "StreamSplitter$Lane")] t) (va_A [(ln, .inr (2, [.ref hd])), (hd, .inl (cN, 256, .inr (.inr (.inr (.inr hf)))))] sz)) 1 8 (va_A [(ln, .inr (2, [.ref hd])), (hd, .inl (cN, 256, .inr (.inr (.inr (.inr hf)))))] sz) := by
  refine Met.ofW (cc := b_Lanes_findOrMake) (maxL := 4) (ret := (some (.object "StreamSplitter$Lane"))) (by decide) rfl ?_
  intro p e s m args below meth cd s₁ Bd hml hv
  obtain ⟨rfl, hsz, hP, hK, hN, hD0⟩ := hv
  have hx := Bd.exec
  have hb := Bd.bytes
  have hr := Bd.returns
  have hts := hN.use (a := ([.ref ln, .int (nI pid)]).toArray)
  have hown : s.vm.findClass R_Lanes = some m.cls := findClass_of_methodNamed Bd.named
  have hlocks := Bd.notSynchronized
  subst hsz
  have hD := hD0.self (sz := s.heap.size)
  clear hD0
  have hA : ∀ q : Nat, s.heap.size ≤ q → va_A [(ln, .inr (2, [.ref hd])), (hd, .inl (cN, 256, .inr (.inr (.inr (.inr hf)))))] s.heap.size q := fun q h => Or.inr h
  have hS : va_S (va_A [(ln, .inr (2, [.ref hd])), (hd, .inl (cN, 256, .inr (.inr (.inr (.inr hf)))))] s.heap.size) s.heap s.heap [] := va_S.rf
  generalize hAe : va_A [(ln, .inr (2, [.ref hd])), (hd, .inl (cN, 256, .inr (.inr (.inr (.inr hf)))))] s.heap.size = A at hD hA hS ⊢
  have hP : va_P D classes [(ln, .inr (2, [.ref hd])), (hd, .inl (cN, 256, .inr (.inr (.inr (.inr hf)))))] s.heap := hP
  have hl := lv_entry ([.ref ln, .int (nI pid)]) (n := 4) (Nat.le_of_ble_eq_true rfl)
  rw [lg_entry_eq]
  generalize (lg_sl ([.ref ln, .int (nI pid)]) ++ List.replicate (4 - (lg_sl ([.ref ln, .int (nI pid)])).length) Slot.unset).toArray = ls at hl ⊢
  have hl : lv_has ls 4 [(0, .ref ln), (1, .int (nI pid))] := hl
  refine lv_aload_n hx hb d_Lanes_findOrMake_0 rfl (lv_at hl 0 rfl) ?_
  refine lv_iload_n hx hb d_Lanes_findOrMake_1 rfl (lv_at hl 1 rfl) ?_
  have hPc := hP.sub (ws' := [(ln, .inr (2, [.ref hd])), (hd, .inl (cN, 256, .inr (.inr (.inr (.inr hf)))))]) [0, 1] rfl
  have hKc := hK.sub (tys' := [(cN, .object "StreamSplitter$Lane")]) [0] rfl
  refine z_cq (va_runV (As := [.int (nI pid)]) (rest := []) ⟨hx, hb, hml, hown, hts⟩ (c_Lanes_find0 l D cN ln hd hf pid hpid hno) (z_cV hN wd_233 wd_62 wd_230 hd_Lanes_find rfl rfl ⟨Nat.le_of_ble_eq_true rfl, Nat.le_of_ble_eq_true rfl⟩ wd_231 wd_232) (z_preV (va_recv (ci := 2) (q0 := 0) hK hP rfl rfl) hPc hKc hN) rfl rfl hl.1 rfl (lv_room (Nat.le_of_ble_eq_true rfl)) d_Lanes_findOrMake_2 ⟨Nat.le_of_ble_eq_true rfl, Nat.le_of_ble_eq_true rfl⟩) (fun r2 e2 => ?_)
  subst e2
  refine z_topq (w := none) rfl ?_
  refine lv_astore_nN (lv' := [(2, .null), (0, .ref ln), (1, .int (nI pid))]) hx hb d_Lanes_findOrMake_5 rfl hl (by decide) rfl (fun ls hl => ?_)
  refine lv_aload_nN hx hb d_Lanes_findOrMake_6 rfl (lv_at hl 0 rfl) ?_
  refine lv_ifnullN (tgt := 12) hx hb d_Lanes_findOrMake_7 rfl ?_
  refine lv_iload_n hx hb d_Lanes_findOrMake_12 rfl (lv_at hl 2 rfl) ?_
  refine lv_sipush (v := 255) hx hb d_Lanes_findOrMake_13 (by decide) ?_
  refine lv_iand hx hb d_Lanes_findOrMake_16 ?_
  refine z_topi (w := nI (pid % 256)) (wr_256 (by omega)) ?_
  refine lv_istore_n (lv' := [(3, .int (nI (pid % 256))), (2, .null), (0, .ref ln), (1, .int (nI pid))]) hx hb d_Lanes_findOrMake_17 rfl hl (by decide) rfl (fun ls hl => ?_)
  refine lv_aload_n hx hb d_Lanes_findOrMake_18 rfl (lv_at hl 2 rfl) ?_
  refine va_get (D := D) (ci := 2) (v := .ref hd) (C := R_Lanes) (T := F_Lanes) (N := 1) hx hb hts i_Lanes hown hK hP 0 rfl rfl 0 (by decide) (hts _ wd_127) (fun _ h9 => h9) rfl d_Lanes_findOrMake_19 ?_
  refine lv_iload_n hx hb d_Lanes_findOrMake_22 rfl (lv_at hl 0 rfl) ?_
  refine va_new (ci := 1) (fs := [.int 0, .null, .int 0, .int 0, .long 0, .int 0, .null, .null]) (C := R_Lane) (T := F_Lane) (N := 8) hx hb hts i_Lane t_Lane t_Lane_ok hown (hts _ wd_125) (hts _ wd_234) (hts _ wd_74) hK hP hD hS hA rfl (fs_Lane) (by show 0 + 1 ≤ 1; omega) (by show 0 + 8 ≤ 8; omega) d_Lanes_findOrMake_23 (fun q23 H hP hD hS => ?_)
  have hP : va_P D classes [(ln, .inr (2, [.ref hd])), (hd, .inl (cN, 256, .inr (.inr (.inr (.inr hf))))), (q23, .inr (1, [.int 0, .null, .int 0, .int 0, .long 0, .int 0, .null, .null]))] H := hP
  have hD : va_D A [(ln, .inr (2, [.ref hd])), (hd, .inl (cN, 256, .inr (.inr (.inr (.inr hf))))), (q23, .inr (1, [.int 0, .null, .int 0, .int 0, .long 0, .int 0, .null, .null]))] := hD
  refine lv_dup hx hb d_Lanes_findOrMake_26 rfl ?_
  refine lv_iload_n hx hb d_Lanes_findOrMake_27 rfl (lv_at hl 3 rfl) ?_
  refine lv_aload_n hx hb d_Lanes_findOrMake_28 rfl (lv_at hl 2 rfl) ?_
  refine va_get (D := D) (ci := 2) (v := .ref hd) (C := R_Lanes) (T := F_Lanes) (N := 1) hx hb hts i_Lanes hown hK hP 0 rfl rfl 0 (by decide) (hts _ wd_127) (fun _ h9 => h9) rfl d_Lanes_findOrMake_29 ?_
  refine lv_iload_n hx hb d_Lanes_findOrMake_32 rfl (lv_at hl 0 rfl) ?_
  refine z_aldq hx hb hK hP 1 0 rfl rfl (pid % 256) rfl (by omega) (by omega) d_Lanes_findOrMake_33 ?_
  refine z_topq (w := none) hno ?_
  have hPc := hP.sub (ws' := [(q23, .inr (1, [.int 0, .null, .int 0, .int 0, .long 0, .int 0, .null, .null]))]) [2] rfl
  have hKc := hK.sub (tys' := []) [] rfl
  have hDc := hD.sub (ws' := [(q23, .inr (1, [.int 0, .null, .int 0, .int 0, .long 0, .int 0, .null, .null]))]) [2] (by decide) rfl
  have hFc := va_free (wc := [(q23, .inr (1, [.int 0, .null, .int 0, .int 0, .long 0, .int 0, .null, .null]))]) hD hS hA [2] rfl
  refine va_callv (va_runI (As := [.int (nI pid), .null]) (rest := [.ref q23, .int (nI (pid % 256)), .ref hd]) ⟨hx, hb, hml, hown, hts⟩ (c_Lane_init0 l D H.size q23 (nI pid) ) (z_cI hN wd_237 wd_74 wd_235 hd_Lane_init rfl rfl ⟨Nat.le_of_ble_eq_true rfl, Nat.le_of_ble_eq_true rfl⟩ wd_236 rfl) (z_preSm hPc hKc hN hDc) rfl rfl hl.1 rfl (lv_room (Nat.le_of_ble_eq_true rfl)) d_Lanes_findOrMake_34 ⟨Nat.le_of_ble_eq_true rfl, Nat.le_of_ble_eq_true rfl⟩) hS (fun q _ h => hFc q h) hFc (fun u34 t H locs ht hvm e34 hB hz1 hk1 hS => ?_)
  obtain ⟨hP1, hK1, hD1⟩ := hB
  rw [ht] at hP1
  obtain ⟨hP, hD⟩ := va_join (wr := [(ln, .inr (2, [.ref hd])), (hd, .inl (cN, 256, .inr (.inr (.inr (.inr hf)))))]) (w1 := [(q23, .inr (1, [.int (nI pid), .null, .int (-1), .int 0, .long (-1), .int 0, .null, .null]))]) hP hD [2] [0, 1] rfl rfl (by decide) (by decide) hk1 hFc hP1 hD1
  clear hk1 hP1 hD1 hFc hPc hDc hz1
  have hP : va_P D classes [(ln, .inr (2, [.ref hd])), (hd, .inl (cN, 256, .inr (.inr (.inr (.inr hf))))), (q23, .inr (1, [.int (nI pid), .null, .int (-1), .int 0, .long (-1), .int 0, .null, .null]))] H := hP
  have hD : va_D A [(ln, .inr (2, [.ref hd])), (hd, .inl (cN, 256, .inr (.inr (.inr (.inr hf))))), (q23, .inr (1, [.int (nI pid), .null, .int (-1), .int 0, .long (-1), .int 0, .null, .null]))] := hD
  refine z_astq hx hb hK hP hD hS 1 0 2 1 rfl rfl rfl rfl (pid % 256) rfl (by omega) (by omega) d_Lanes_findOrMake_37 (fun H locs hP hD hS => ?_)
  have hP : va_P D classes [(ln, .inr (2, [.ref hd])), (hd, .inl (cN, 256, .inr (.inr (.inr (.inr (va_up hf (pid % 256) (some q23))))))), (q23, .inr (1, [.int (nI pid), .null, .int (-1), .int 0, .long (-1), .int 0, .null, .null]))] H := hP
  have hD : va_D A [(ln, .inr (2, [.ref hd])), (hd, .inl (cN, 256, .inr (.inr (.inr (.inr (va_up hf (pid % 256) (some q23))))))), (q23, .inr (1, [.int (nI pid), .null, .int (-1), .int 0, .long (-1), .int 0, .null, .null]))] := hD
  refine lv_aload_n hx hb d_Lanes_findOrMake_38 rfl (lv_at hl 2 rfl) ?_
  refine va_get (D := D) (ci := 2) (v := .ref hd) (C := R_Lanes) (T := F_Lanes) (N := 1) hx hb hts i_Lanes hown hK hP 0 rfl rfl 0 (by decide) (hts _ wd_127) (fun _ h9 => h9) rfl d_Lanes_findOrMake_39 ?_
  refine lv_iload_n hx hb d_Lanes_findOrMake_42 rfl (lv_at hl 0 rfl) ?_
  refine z_aldq hx hb hK hP 1 0 rfl rfl (pid % 256) rfl (by omega) (by omega) d_Lanes_findOrMake_43 ?_
  refine z_topq (w := some q23) (by simp [va_up]) ?_
  have hP9 := hP.sub (ws' := [(ln, .inr (2, [.ref hd])), (hd, .inl (cN, 256, .inr (.inr (.inr (.inr (va_up hf (pid % 256) (some q23))))))), (q23, .inr (1, [.int (nI pid), .null, .int (-1), .int 0, .long (-1), .int 0, .null, .null]))]) [0, 1, 2] rfl
  have hD9 := hD.sub (ws' := [(ln, .inr (2, [.ref hd])), (hd, .inl (cN, 256, .inr (.inr (.inr (.inr (va_up hf (pid % 256) (some q23))))))), (q23, .inr (1, [.int (nI pid), .null, .int (-1), .int 0, .long (-1), .int 0, .null, .null]))]) [0, 1, 2] (by decide) rfl
  have hK9 := hK.sub (tys' := [(cN, .object "StreamSplitter$Lane")]) [0] rfl
  refine W.widen (k := 1) (n := 8) (by omega) (by omega) ?_
  exact W.aret (v := (.ref q23)) hx hb hr (Or.inl ⟨_, rfl⟩) (Or.inr ⟨_, rfl⟩) (fun t ht hW => ⟨⟨(), _, rfl, trivial, ⟨by rw [ht]; exact hP9, va_K.moved hW.alike hK9, hD9⟩⟩, hS.F ht⟩) hS.2.2 d_Lanes_findOrMake_44
set_option maxHeartbeats 4000000 in
set_option maxRecDepth 100000 in
theorem c_SS_writerTo0 (l : Launch) (D : va_G) (sz : Nat) (h rc d tp tb ct dp : Nat) (cN : ClassId) (ln hd : Nat) (hf : Nat → Option Nat) (pid : Nat) (x : Int32) (hpid : pid < 8192) (hno : hf (pid % 256) = none) : Met l y_SS_writerTo [Cond.code y_SS_writerTo b_SS_writerTo 3 (some (.object "StreamSplitter$Writer"))] ({ frames := 3, cells := 2, slots := 14, locals := 57 }) (zM [.ref h, .int (nI pid), .int x] D [(h, .inr (11, [.ref rc, .ref d])), (rc, .inr (4, [.ref tp, .ref ln, .ref tb, .ref ct, .ref dp])), (ln, .inr (2, [.ref hd])), (hd, .inl (cN, 256, .inr (.inr (.inr (.inr hf)))))] [(cN, .object "StreamSplitter$Lane")] sz) (va_Qr (fun (u : Nat) => True) (fun (u : Nat) ra t => zW D (va_A [(h, .inr (11, [.ref rc, .ref d])), (rc, .inr (4, [.ref tp, .ref ln, .ref tb, .ref ct, .ref dp])), (ln, .inr (2, [.ref hd])), (hd, .inl (cN, 256, .inr (.inr (.inr (.inr hf)))))] sz) [(h, .inr (11, [.ref rc, .ref d])), (rc, .inr (4, [.ref tp, .ref ln, .ref tb, .ref ct, .ref dp])), (ln, .inr (2, [.ref hd])), (hd, .inl (cN, 256, .inr (.inr (.inr (.inr (va_up hf (pid % 256) (some u))))))), (u, .inr (1, [.int (nI pid), .null, .int (-1), .int 0, .long (-1), .int 0, .null, .null])), (ra, .inr (10, [.ref tp, .ref u, .int x, .int 0, .int 0, .int 0]))] [(cN, .object "StreamSplitter$Lane")] t) (va_A [(h, .inr (11, [.ref rc, .ref d])), (rc, .inr (4, [.ref tp, .ref ln, .ref tb, .ref ct, .ref dp])), (ln, .inr (2, [.ref hd])), (hd, .inl (cN, 256, .inr (.inr (.inr (.inr hf)))))] sz)) 2 14 (va_A [(h, .inr (11, [.ref rc, .ref d])), (rc, .inr (4, [.ref tp, .ref ln, .ref tb, .ref ct, .ref dp])), (ln, .inr (2, [.ref hd])), (hd, .inl (cN, 256, .inr (.inr (.inr (.inr hf)))))] sz) := by
  refine Met.ofW (cc := b_SS_writerTo) (maxL := 3) (ret := (some (.object "StreamSplitter$Writer"))) (by decide) rfl ?_
  intro p e s m args below meth cd s₁ Bd hml hv
  obtain ⟨rfl, hsz, hP, hK, hN, hD0⟩ := hv
  have hx := Bd.exec
  have hb := Bd.bytes
  have hr := Bd.returns
  have hts := hN.use (a := ([.ref h, .int (nI pid), .int x]).toArray)
  have hown : s.vm.findClass R_SS = some m.cls := findClass_of_methodNamed Bd.named
  have hlocks := Bd.notSynchronized
  subst hsz
  have hD := hD0.self (sz := s.heap.size)
  clear hD0
  have hA : ∀ q : Nat, s.heap.size ≤ q → va_A [(h, .inr (11, [.ref rc, .ref d])), (rc, .inr (4, [.ref tp, .ref ln, .ref tb, .ref ct, .ref dp])), (ln, .inr (2, [.ref hd])), (hd, .inl (cN, 256, .inr (.inr (.inr (.inr hf)))))] s.heap.size q := fun q h => Or.inr h
  have hS : va_S (va_A [(h, .inr (11, [.ref rc, .ref d])), (rc, .inr (4, [.ref tp, .ref ln, .ref tb, .ref ct, .ref dp])), (ln, .inr (2, [.ref hd])), (hd, .inl (cN, 256, .inr (.inr (.inr (.inr hf)))))] s.heap.size) s.heap s.heap [] := va_S.rf
  generalize hAe : va_A [(h, .inr (11, [.ref rc, .ref d])), (rc, .inr (4, [.ref tp, .ref ln, .ref tb, .ref ct, .ref dp])), (ln, .inr (2, [.ref hd])), (hd, .inl (cN, 256, .inr (.inr (.inr (.inr hf)))))] s.heap.size = A at hD hA hS ⊢
  have hP : va_P D classes [(h, .inr (11, [.ref rc, .ref d])), (rc, .inr (4, [.ref tp, .ref ln, .ref tb, .ref ct, .ref dp])), (ln, .inr (2, [.ref hd])), (hd, .inl (cN, 256, .inr (.inr (.inr (.inr hf)))))] s.heap := hP
  have hl := lv_entry ([.ref h, .int (nI pid), .int x]) (n := 3) (Nat.le_of_ble_eq_true rfl)
  rw [lg_entry_eq]
  generalize (lg_sl ([.ref h, .int (nI pid), .int x]) ++ List.replicate (3 - (lg_sl ([.ref h, .int (nI pid), .int x])).length) Slot.unset).toArray = ls at hl ⊢
  have hl : lv_has ls 3 [(0, .ref h), (1, .int (nI pid)), (2, .int x)] := hl
  refine va_new (ci := 10) (fs := [.null, .null, .int 0, .int 0, .int 0, .int 0]) (C := R_Writer) (T := F_Writer) (N := 6) hx hb hts i_Writer t_Writer t_Writer_ok hown (hts _ wd_945) (hts _ wd_946) (hts _ wd_85) hK hP hD hS hA rfl (fs_Writer) (by show 0 + 1 ≤ 2; omega) (by show 0 + 6 ≤ 14; omega) d_SS_writerTo_0 (fun q0 H hP hD hS => ?_)
  have hP : va_P D classes [(h, .inr (11, [.ref rc, .ref d])), (rc, .inr (4, [.ref tp, .ref ln, .ref tb, .ref ct, .ref dp])), (ln, .inr (2, [.ref hd])), (hd, .inl (cN, 256, .inr (.inr (.inr (.inr hf))))), (q0, .inr (10, [.null, .null, .int 0, .int 0, .int 0, .int 0]))] H := hP
  have hD : va_D A [(h, .inr (11, [.ref rc, .ref d])), (rc, .inr (4, [.ref tp, .ref ln, .ref tb, .ref ct, .ref dp])), (ln, .inr (2, [.ref hd])), (hd, .inl (cN, 256, .inr (.inr (.inr (.inr hf))))), (q0, .inr (10, [.null, .null, .int 0, .int 0, .int 0, .int 0]))] := hD
  refine lv_dup hx hb d_SS_writerTo_3 rfl ?_
  refine lv_aload_n hx hb d_SS_writerTo_4 rfl (lv_at hl 0 rfl) ?_
  refine va_get (D := D) (ci := 11) (v := .ref rc) (C := R_SS) (T := F_SS) (N := 2) hx hb hts i_SS hown hK hP 0 rfl rfl 0 (by decide) (hts _ wd_198) (fun _ h9 => h9) rfl d_SS_writerTo_5 ?_
  refine va_getN (D := D) (ci := 4) (v := .ref tp) (C := R_Receiver) (T := F_Receiver) (N := 5) hx hb hts i_Receiver hown hK hP 1 rfl rfl 0 (by decide) (hts _ wd_176) (fun _ h9 => h9) rfl d_SS_writerTo_8 ?_
  refine lv_aload_n hx hb d_SS_writerTo_11 rfl (lv_at hl 0 rfl) ?_
  refine va_get (D := D) (ci := 11) (v := .ref rc) (C := R_SS) (T := F_SS) (N := 2) hx hb hts i_SS hown hK hP 0 rfl rfl 0 (by decide) (hts _ wd_198) (fun _ h9 => h9) rfl d_SS_writerTo_12 ?_
  refine va_getN (D := D) (ci := 4) (v := .ref ln) (C := R_Receiver) (T := F_Receiver) (N := 5) hx hb hts i_Receiver hown hK hP 1 rfl rfl 1 (by decide) (hts _ wd_178) (fun _ h9 => h9) rfl d_SS_writerTo_15 ?_
  refine lv_iload_n hx hb d_SS_writerTo_18 rfl (lv_at hl 1 rfl) ?_
  have hPc := hP.sub (ws' := [(ln, .inr (2, [.ref hd])), (hd, .inl (cN, 256, .inr (.inr (.inr (.inr hf)))))]) [2, 3] rfl
  have hKc := hK.sub (tys' := [(cN, .object "StreamSplitter$Lane")]) [0] rfl
  have hDc := hD.sub (ws' := [(ln, .inr (2, [.ref hd])), (hd, .inl (cN, 256, .inr (.inr (.inr (.inr hf)))))]) [2, 3] (by decide) rfl
  have hFc := va_free (wc := [(ln, .inr (2, [.ref hd])), (hd, .inl (cN, 256, .inr (.inr (.inr (.inr hf)))))]) hD hS hA [2, 3] rfl
  refine va_callr (va_runV (As := [.int (nI pid)]) (rest := [.ref tp, .ref q0, .ref q0]) ⟨hx, hb, hml, hown, hts⟩ (c_Lanes_findOrMake0 l D H.size cN ln hd hf pid hpid hno) (z_cV hN wd_229 wd_62 wd_947 hd_Lanes_findOrMake rfl rfl ⟨Nat.le_of_ble_eq_true rfl, Nat.le_of_ble_eq_true rfl⟩ wd_227 wd_228) (z_preVm (va_recv (ci := 2) (q0 := 2) hK hP rfl rfl) hPc hKc hN hDc) rfl rfl hl.1 rfl (lv_room (Nat.le_of_ble_eq_true rfl)) d_SS_writerTo_19 ⟨Nat.le_of_ble_eq_true rfl, Nat.le_of_ble_eq_true rfl⟩) hS (fun q _ h => hFc q h) hFc (fun u19 la t H locs ht hvm e19 hB hz1 hk1 hS => ?_)
  obtain ⟨hP1, hK1, hD1⟩ := hB
  rw [ht] at hP1
  obtain ⟨hP, hD⟩ := va_join (wr := [(h, .inr (11, [.ref rc, .ref d])), (rc, .inr (4, [.ref tp, .ref ln, .ref tb, .ref ct, .ref dp])), (q0, .inr (10, [.null, .null, .int 0, .int 0, .int 0, .int 0]))]) (w1 := [(ln, .inr (2, [.ref hd])), (hd, .inl (cN, 256, .inr (.inr (.inr (.inr (va_up hf (pid % 256) (some la))))))), (la, .inr (1, [.int (nI pid), .null, .int (-1), .int 0, .long (-1), .int 0, .null, .null]))]) hP hD [2, 3] [0, 1, 4] rfl rfl (by decide) (by decide) hk1 hFc hP1 hD1
  clear hk1 hP1 hD1 hFc hPc hDc hz1
  have hP : va_P D classes [(h, .inr (11, [.ref rc, .ref d])), (rc, .inr (4, [.ref tp, .ref ln, .ref tb, .ref ct, .ref dp])), (q0, .inr (10, [.null, .null, .int 0, .int 0, .int 0, .int 0])), (ln, .inr (2, [.ref hd])), (hd, .inl (cN, 256, .inr (.inr (.inr (.inr (va_up hf (pid % 256) (some la))))))), (la, .inr (1, [.int (nI pid), .null, .int (-1), .int 0, .long (-1), .int 0, .null, .null]))] H := hP
  have hD : va_D A [(h, .inr (11, [.ref rc, .ref d])), (rc, .inr (4, [.ref tp, .ref ln, .ref tb, .ref ct, .ref dp])), (q0, .inr (10, [.null, .null, .int 0, .int 0, .int 0, .int 0])), (ln, .inr (2, [.ref hd])), (hd, .inl (cN, 256, .inr (.inr (.inr (.inr (va_up hf (pid % 256) (some la))))))), (la, .inr (1, [.int (nI pid), .null, .int (-1), .int 0, .long (-1), .int 0, .null, .null]))] := hD
  refine lv_iload_n hx hb d_SS_writerTo_22 rfl (lv_at hl 2 rfl) ?_
  have hPc := hP.sub (ws' := [(q0, .inr (10, [.null, .null, .int 0, .int 0, .int 0, .int 0]))]) [2] rfl
  have hKc := hK.sub (tys' := []) [] rfl
  have hDc := hD.sub (ws' := [(q0, .inr (10, [.null, .null, .int 0, .int 0, .int 0, .int 0]))]) [2] (by decide) rfl
  have hFc := va_free (wc := [(q0, .inr (10, [.null, .null, .int 0, .int 0, .int 0, .int 0]))]) hD hS hA [2] rfl
  refine va_callv (va_runI (As := [.ref tp, .ref la, .int x]) (rest := [.ref q0]) ⟨hx, hb, hml, hown, hts⟩ (c_Writer_init l D H.size q0 tp la x ) (z_cI hN wd_950 wd_85 wd_948 hd_Writer_init rfl rfl ⟨Nat.le_of_ble_eq_true rfl, Nat.le_of_ble_eq_true rfl⟩ wd_949 rfl) (z_preSm hPc hKc hN hDc) rfl rfl hl.1 rfl (lv_room (Nat.le_of_ble_eq_true rfl)) d_SS_writerTo_23 ⟨Nat.le_of_ble_eq_true rfl, Nat.le_of_ble_eq_true rfl⟩) hS (fun q _ h => hFc q h) hFc (fun u23 t H locs ht hvm e23 hB hz1 hk1 hS => ?_)
  obtain ⟨hP1, hK1, hD1⟩ := hB
  rw [ht] at hP1
  obtain ⟨hP, hD⟩ := va_join (wr := [(h, .inr (11, [.ref rc, .ref d])), (rc, .inr (4, [.ref tp, .ref ln, .ref tb, .ref ct, .ref dp])), (ln, .inr (2, [.ref hd])), (hd, .inl (cN, 256, .inr (.inr (.inr (.inr (va_up hf (pid % 256) (some la))))))), (la, .inr (1, [.int (nI pid), .null, .int (-1), .int 0, .long (-1), .int 0, .null, .null]))]) (w1 := [(q0, .inr (10, [.ref tp, .ref la, .int x, .int 0, .int 0, .int 0]))]) hP hD [2] [0, 1, 3, 4, 5] rfl rfl (by decide) (by decide) hk1 hFc hP1 hD1
  clear hk1 hP1 hD1 hFc hPc hDc hz1
  have hP : va_P D classes [(h, .inr (11, [.ref rc, .ref d])), (rc, .inr (4, [.ref tp, .ref ln, .ref tb, .ref ct, .ref dp])), (ln, .inr (2, [.ref hd])), (hd, .inl (cN, 256, .inr (.inr (.inr (.inr (va_up hf (pid % 256) (some la))))))), (la, .inr (1, [.int (nI pid), .null, .int (-1), .int 0, .long (-1), .int 0, .null, .null])), (q0, .inr (10, [.ref tp, .ref la, .int x, .int 0, .int 0, .int 0]))] H := hP
  have hD : va_D A [(h, .inr (11, [.ref rc, .ref d])), (rc, .inr (4, [.ref tp, .ref ln, .ref tb, .ref ct, .ref dp])), (ln, .inr (2, [.ref hd])), (hd, .inl (cN, 256, .inr (.inr (.inr (.inr (va_up hf (pid % 256) (some la))))))), (la, .inr (1, [.int (nI pid), .null, .int (-1), .int 0, .long (-1), .int 0, .null, .null])), (q0, .inr (10, [.ref tp, .ref la, .int x, .int 0, .int 0, .int 0]))] := hD
  have hP9 := hP.sub (ws' := [(h, .inr (11, [.ref rc, .ref d])), (rc, .inr (4, [.ref tp, .ref ln, .ref tb, .ref ct, .ref dp])), (ln, .inr (2, [.ref hd])), (hd, .inl (cN, 256, .inr (.inr (.inr (.inr (va_up hf (pid % 256) (some la))))))), (la, .inr (1, [.int (nI pid), .null, .int (-1), .int 0, .long (-1), .int 0, .null, .null])), (q0, .inr (10, [.ref tp, .ref la, .int x, .int 0, .int 0, .int 0]))]) [0, 1, 2, 3, 4, 5] rfl
  have hD9 := hD.sub (ws' := [(h, .inr (11, [.ref rc, .ref d])), (rc, .inr (4, [.ref tp, .ref ln, .ref tb, .ref ct, .ref dp])), (ln, .inr (2, [.ref hd])), (hd, .inl (cN, 256, .inr (.inr (.inr (.inr (va_up hf (pid % 256) (some la))))))), (la, .inr (1, [.int (nI pid), .null, .int (-1), .int 0, .long (-1), .int 0, .null, .null])), (q0, .inr (10, [.ref tp, .ref la, .int x, .int 0, .int 0, .int 0]))]) [0, 1, 2, 3, 4, 5] (by decide) rfl
  have hK9 := hK.sub (tys' := [(cN, .object "StreamSplitter$Lane")]) [0] rfl
  refine W.widen (k := 2) (n := 14) (by omega) (by omega) ?_
  exact W.aret (v := (.ref q0)) hx hb hr (Or.inl ⟨_, rfl⟩) (Or.inr ⟨_, rfl⟩) (fun t ht hW => ⟨⟨la, _, rfl, trivial, ⟨by rw [ht]; exact hP9, va_K.moved hW.alike hK9, hD9⟩⟩, hS.F ht⟩) hS.2.2 d_SS_writerTo_26
set_option maxHeartbeats 4000000 in
set_option maxRecDepth 100000 in
theorem c_SS_clock_ok0 (l : Launch) (D : va_G) (hfl : l.stackTraces = false) (B0 : State) (hG : zG B0) (sz : Nat) (h rc d tp tb ct dp : Nat) (cN : ClassId) (ln hd : Nat) (hf : Nat → Option Nat) (pid : Nat) (hpid : pid < 8192) (hno : hf (pid % 256) = none) : MetT l y_SS_clock [Cond.code y_SS_clock b_SS_clock 3 (some .long)] ({ frames := 1, cells := 1, slots := 6, locals := 22 }) (zMo [.ref h, .int (nI pid)] D [(h, .inr (11, [.ref rc, .ref d])), (rc, .inr (4, [.ref tp, .ref ln, .ref tb, .ref ct, .ref dp])), (ln, .inr (2, [.ref hd])), (hd, .inl (cN, 256, .inr (.inr (.inr (.inr hf)))))] [(cN, .object "StreamSplitter$Lane")] sz B0) (zQl (fun r0 (_ : Unit) => r0 = -1) (fun (_u : Unit) t => zW D (va_A [(h, .inr (11, [.ref rc, .ref d])), (rc, .inr (4, [.ref tp, .ref ln, .ref tb, .ref ct, .ref dp])), (ln, .inr (2, [.ref hd])), (hd, .inl (cN, 256, .inr (.inr (.inr (.inr hf)))))] sz) [(h, .inr (11, [.ref rc, .ref d])), (rc, .inr (4, [.ref tp, .ref ln, .ref tb, .ref ct, .ref dp])), (ln, .inr (2, [.ref hd])), (hd, .inl (cN, 256, .inr (.inr (.inr (.inr hf)))))] [(cN, .object "StreamSplitter$Lane")] t) (va_A [(h, .inr (11, [.ref rc, .ref d])), (rc, .inr (4, [.ref tp, .ref ln, .ref tb, .ref ct, .ref dp])), (ln, .inr (2, [.ref hd])), (hd, .inl (cN, 256, .inr (.inr (.inr (.inr hf)))))] sz) (fun _ => False)) 1 6 (va_A [(h, .inr (11, [.ref rc, .ref d])), (rc, .inr (4, [.ref tp, .ref ln, .ref tb, .ref ct, .ref dp])), (ln, .inr (2, [.ref hd])), (hd, .inl (cN, 256, .inr (.inr (.inr (.inr hf)))))] sz) := by
  refine MetT.ofW (cc := b_SS_clock) (maxL := 3) (ret := (some .long)) (by decide) rfl ?_
  intro p e s m args below meth cd s₁ Bd hml hem hv
  obtain ⟨rfl, hsz, hP, hK, hN, hD0, hO⟩ := hv
  have hx := Bd.exec
  have hb := Bd.bytes
  have hr := Bd.returns
  have hts := hN.use (a := ([.ref h, .int (nI pid)]).toArray)
  have hown : s.vm.findClass R_SS = some m.cls := findClass_of_methodNamed Bd.named
  have hlocks := Bd.notSynchronized
  subst hsz
  have hD := hD0.self (sz := s.heap.size)
  have hAO := z_AO hD0 hO
  clear hD0
  have hA : ∀ q : Nat, s.heap.size ≤ q → va_A [(h, .inr (11, [.ref rc, .ref d])), (rc, .inr (4, [.ref tp, .ref ln, .ref tb, .ref ct, .ref dp])), (ln, .inr (2, [.ref hd])), (hd, .inl (cN, 256, .inr (.inr (.inr (.inr hf)))))] s.heap.size q := fun q h => Or.inr h
  have hS : va_S (va_A [(h, .inr (11, [.ref rc, .ref d])), (rc, .inr (4, [.ref tp, .ref ln, .ref tb, .ref ct, .ref dp])), (ln, .inr (2, [.ref hd])), (hd, .inl (cN, 256, .inr (.inr (.inr (.inr hf)))))] s.heap.size) s.heap s.heap [] := va_S.rf
  generalize hAe : va_A [(h, .inr (11, [.ref rc, .ref d])), (rc, .inr (4, [.ref tp, .ref ln, .ref tb, .ref ct, .ref dp])), (ln, .inr (2, [.ref hd])), (hd, .inl (cN, 256, .inr (.inr (.inr (.inr hf)))))] s.heap.size = A at hD hA hS hAO ⊢
  have hP : va_P D classes [(h, .inr (11, [.ref rc, .ref d])), (rc, .inr (4, [.ref tp, .ref ln, .ref tb, .ref ct, .ref dp])), (ln, .inr (2, [.ref hd])), (hd, .inl (cN, 256, .inr (.inr (.inr (.inr hf)))))] s.heap := hP
  have hl := lv_entry ([.ref h, .int (nI pid)]) (n := 3) (Nat.le_of_ble_eq_true rfl)
  rw [lg_entry_eq]
  generalize (lg_sl ([.ref h, .int (nI pid)]) ++ List.replicate (3 - (lg_sl ([.ref h, .int (nI pid)])).length) Slot.unset).toArray = ls at hl ⊢
  have hl : lv_has ls 3 [(0, .ref h), (1, .int (nI pid))] := hl
  refine lv_iload_n hx hb d_SS_clock_0 rfl (lv_at hl 1 rfl) ?_
  have hPc := hP.sub (ws' := []) [] rfl
  have hKc := hK.sub (tys' := []) [] rfl
  refine z_ci (va_runS (As := [.int (nI pid)]) (rest := []) ⟨hx, hb, hml, hown, hts⟩ (c_SS_isNoPid l D (nI pid) ) (z_cS hN wd_883 wd_59 wd_881 hd_SS_isNoPid rfl rfl ⟨Nat.le_of_ble_eq_true rfl, Nat.le_of_ble_eq_true rfl⟩ wd_882) (z_preS hPc hKc hN) rfl rfl hl.1 rfl (lv_room (Nat.le_of_ble_eq_true rfl)) d_SS_clock_1 ⟨Nat.le_of_ble_eq_true rfl, Nat.le_of_ble_eq_true rfl⟩) (fun r1 e1 => ?_)
  subst e1
  refine lv_if_eq (tgt := 17) hx hb d_SS_clock_4 rfl (fun h4 => ?_) (fun h9 => absurd (if_neg (fun z => z.elim (nI_pos (by omega)) (Int32.not_lt.mpr (nI_le (a := pid) (b := 8191) (by omega) (by decide))))) h9)
  refine lv_aload_n hx hb d_SS_clock_17 rfl (lv_at hl 0 rfl) ?_
  refine va_get (D := D) (ci := 11) (v := .ref rc) (C := R_SS) (T := F_SS) (N := 2) hx hb hts i_SS hown hK hP 0 rfl rfl 0 (by decide) (hts _ wd_198) (fun _ h9 => h9) rfl d_SS_clock_18 ?_
  refine va_getN (D := D) (ci := 4) (v := .ref ln) (C := R_Receiver) (T := F_Receiver) (N := 5) hx hb hts i_Receiver hown hK hP 1 rfl rfl 1 (by decide) (hts _ wd_178) (fun _ h9 => h9) rfl d_SS_clock_21 ?_
  refine lv_iload_n hx hb d_SS_clock_24 rfl (lv_at hl 1 rfl) ?_
  have hPc := hP.sub (ws' := [(ln, .inr (2, [.ref hd])), (hd, .inl (cN, 256, .inr (.inr (.inr (.inr hf)))))]) [2, 3] rfl
  have hKc := hK.sub (tys' := [(cN, .object "StreamSplitter$Lane")]) [0] rfl
  refine z_cq (va_runV (As := [.int (nI pid)]) (rest := []) ⟨hx, hb, hml, hown, hts⟩ (c_Lanes_find0 l D cN ln hd hf pid hpid hno) (z_cV hN wd_233 wd_62 wd_885 hd_Lanes_find rfl rfl ⟨Nat.le_of_ble_eq_true rfl, Nat.le_of_ble_eq_true rfl⟩ wd_231 wd_232) (z_preV (va_recv (ci := 2) (q0 := 2) hK hP rfl rfl) hPc hKc hN) rfl rfl hl.1 rfl (lv_room (Nat.le_of_ble_eq_true rfl)) d_SS_clock_25 ⟨Nat.le_of_ble_eq_true rfl, Nat.le_of_ble_eq_true rfl⟩) (fun r25 e25 => ?_)
  subst e25
  refine z_topq (w := none) rfl ?_
  refine lv_astore_nN (lv' := [(2, .null), (0, .ref h), (1, .int (nI pid))]) hx hb d_SS_clock_28 rfl hl (by decide) rfl (fun ls hl => ?_)
  refine lv_aload_nN hx hb d_SS_clock_29 rfl (lv_at hl 0 rfl) ?_
  refine lv_ifnonnullN hx hb d_SS_clock_30 ?_
  refine lv_ldc2 hx hb hown (hts _ wd_859) d_SS_clock_33 ?_
  refine lv_goto (tgt := 43) hx hb d_SS_clock_36 rfl ?_
  have hP9 := hP.sub (ws' := [(h, .inr (11, [.ref rc, .ref d])), (rc, .inr (4, [.ref tp, .ref ln, .ref tb, .ref ct, .ref dp])), (ln, .inr (2, [.ref hd])), (hd, .inl (cN, 256, .inr (.inr (.inr (.inr hf)))))]) [0, 1, 2, 3] rfl
  have hD9 := hD.sub (ws' := [(h, .inr (11, [.ref rc, .ref d])), (rc, .inr (4, [.ref tp, .ref ln, .ref tb, .ref ct, .ref dp])), (ln, .inr (2, [.ref hd])), (hd, .inl (cN, 256, .inr (.inr (.inr (.inr hf)))))]) [0, 1, 2, 3] (by decide) rfl
  have hK9 := hK.sub (tys' := [(cN, .object "StreamSplitter$Lane")]) [0] rfl
  refine W.widen (k := 1) (n := 6) (by omega) (by omega) ?_
  exact W.mono MQ.toT (W.lret (v := (-1)) hx hb hr (fun t ht hW => Or.inl ⟨_, (), rfl, rfl, ⟨by rw [ht]; exact hP9, va_K.moved hW.alike hK9, hD9⟩, hS.F ht⟩) hS.2.2 d_SS_clock_43)
set_option maxHeartbeats 4000000 in
set_option maxRecDepth 100000 in
theorem c_Receiver_doneBefore0 (l : Launch) (D : va_G) (cI : ClassId) (rc tp ln tb ct dp : Nat) (cn : Nat → Int32) (k : Int32) (hc : cn 9 = 0) : Met l y_Receiver_doneBefore [Cond.code y_Receiver_doneBefore b_Receiver_doneBefore 2 (some (.object "StreamSplitter$Piece"))] ({ frames := 0, cells := 0, slots := 0, locals := 0 }) (zP [.ref rc, .int k] D [(rc, .inr (4, [.ref tp, .ref ln, .ref tb, .ref ct, .ref dp])), (ct, .inl (cI, 10, .inl cn))] [(cI, .int)]) (va_Sq (fun r => r = none)) 0 0 (fun _ => False) := by
  refine Met.ofW (cc := b_Receiver_doneBefore) (maxL := 2) (ret := (some (.object "StreamSplitter$Piece"))) (by decide) rfl ?_
  intro p e s m args below meth cd s₁ Bd hml hv
  obtain ⟨rfl, hP, hK, hN⟩ := hv
  have hx := Bd.exec
  have hb := Bd.bytes
  have hr := Bd.returns
  have hts := hN.use (a := ([.ref rc, .int k]).toArray)
  have hown : s.vm.findClass R_Receiver = some m.cls := findClass_of_methodNamed Bd.named
  have hlocks := Bd.notSynchronized
  have hP : va_P D classes [(rc, .inr (4, [.ref tp, .ref ln, .ref tb, .ref ct, .ref dp])), (ct, .inl (cI, 10, .inl cn))] s.heap := hP
  have hl := lv_entry ([.ref rc, .int k]) (n := 2) (Nat.le_of_ble_eq_true rfl)
  rw [lg_entry_eq]
  generalize (lg_sl ([.ref rc, .int k]) ++ List.replicate (2 - (lg_sl ([.ref rc, .int k])).length) Slot.unset).toArray = ls at hl ⊢
  have hl : lv_has ls 2 [(0, .ref rc), (1, .int k)] := hl
  refine lv_iload_n hx hb d_Receiver_doneBefore_0 rfl (lv_at hl 1 rfl) ?_
  refine lv_if_lt (tgt := 21) hx hb d_Receiver_doneBefore_1 rfl (fun h1 => ?_) (fun h1 => ?_)
  · refine lv_null hx hb d_Receiver_doneBefore_21 ?_
    exact W.aret (v := va_rf none) hx hb hr (Or.inl ⟨_, rfl⟩) (va_rf_or _) (fun t ht hW => ⟨_, rfl, rfl, ht⟩) (fun _ h => by cases h) d_Receiver_doneBefore_22
  · refine lv_iload_n hx hb d_Receiver_doneBefore_4 rfl (lv_at hl 1 rfl) ?_
    refine lv_bipush (v := 16) hx hb d_Receiver_doneBefore_5 (by decide) ?_
    refine lv_icmp_ge (tgt := 21) hx hb d_Receiver_doneBefore_7 rfl (fun h7 => ?_) (fun h7 => ?_)
    · refine lv_null hx hb d_Receiver_doneBefore_21 ?_
      exact W.aret (v := va_rf none) hx hb hr (Or.inl ⟨_, rfl⟩) (va_rf_or _) (fun t ht hW => ⟨_, rfl, rfl, ht⟩) (fun _ h => by cases h) d_Receiver_doneBefore_22
    · refine lv_iload_n hx hb d_Receiver_doneBefore_10 rfl (lv_at hl 1 rfl) ?_
      refine lv_aload_n hx hb d_Receiver_doneBefore_11 rfl (lv_at hl 0 rfl) ?_
      refine va_get (D := D) (ci := 4) (v := .ref ct) (C := R_Receiver) (T := F_Receiver) (N := 5) hx hb hts i_Receiver hown hK hP 0 rfl rfl 3 (by decide) (hts _ wd_181) (fun _ h9 => h9) rfl d_Receiver_doneBefore_12 ?_
      refine lv_bipush (v := 9) hx hb d_Receiver_doneBefore_15 (by decide) ?_
      refine z_iald hx hb hK hP 1 0 rfl rfl 9 rfl (by decide) (by decide) d_Receiver_doneBefore_17 ?_
      refine z_topi (w := 0) hc ?_
      refine lv_icmp_lt (tgt := 23) hx hb d_Receiver_doneBefore_18 rfl (fun h18 => ?_) (fun h18 => ?_)
      · exact absurd h18 h1
      · refine lv_null hx hb d_Receiver_doneBefore_21 ?_
        exact W.aret (v := va_rf none) hx hb hr (Or.inl ⟨_, rfl⟩) (va_rf_or _) (fun t ht hW => ⟨_, rfl, rfl, ht⟩) (fun _ h => by cases h) d_Receiver_doneBefore_22
set_option maxHeartbeats 4000000 in
set_option maxRecDepth 100000 in
theorem c_SS_piece_ok0 (l : Launch) (D : va_G) (hfl : l.stackTraces = false) (B0 : State) (hG : zG B0) (sz : Nat) (cI : ClassId) (h d rc tp ln tb ct dp : Nat) (cn : Nat → Int32) (k w : Int32) (hc : cn 9 = 0) (h0 : ¬ w < 0) (h4 : ¬ 4 < w) (hk : ¬ k < 0) : MetT l y_SS_piece [Cond.code y_SS_piece b_SS_piece 4 (some .long)] ({ frames := 1, cells := 1, slots := 6, locals := 21 }) (zMo [.ref h, .int k, .int w] D [(h, .inr (11, [.ref rc, .ref d])), (rc, .inr (4, [.ref tp, .ref ln, .ref tb, .ref ct, .ref dp])), (ct, .inl (cI, 10, .inl cn))] [(cI, .int)] sz B0) (zQl (fun r0 (_ : Unit) => r0 = -1) (fun (_u : Unit) t => zW D (va_A [(h, .inr (11, [.ref rc, .ref d])), (rc, .inr (4, [.ref tp, .ref ln, .ref tb, .ref ct, .ref dp])), (ct, .inl (cI, 10, .inl cn))] sz) [(h, .inr (11, [.ref rc, .ref d])), (rc, .inr (4, [.ref tp, .ref ln, .ref tb, .ref ct, .ref dp])), (ct, .inl (cI, 10, .inl cn))] [(cI, .int)] t) (va_A [(h, .inr (11, [.ref rc, .ref d])), (rc, .inr (4, [.ref tp, .ref ln, .ref tb, .ref ct, .ref dp])), (ct, .inl (cI, 10, .inl cn))] sz) (fun _ => False)) 1 6 (va_A [(h, .inr (11, [.ref rc, .ref d])), (rc, .inr (4, [.ref tp, .ref ln, .ref tb, .ref ct, .ref dp])), (ct, .inl (cI, 10, .inl cn))] sz) := by
  refine MetT.ofW (cc := b_SS_piece) (maxL := 4) (ret := (some .long)) (by decide) rfl ?_
  intro p e s m args below meth cd s₁ Bd hml hem hv
  obtain ⟨rfl, hsz, hP, hK, hN, hD0, hO⟩ := hv
  have hx := Bd.exec
  have hb := Bd.bytes
  have hr := Bd.returns
  have hts := hN.use (a := ([.ref h, .int k, .int w]).toArray)
  have hown : s.vm.findClass R_SS = some m.cls := findClass_of_methodNamed Bd.named
  have hlocks := Bd.notSynchronized
  subst hsz
  have hD := hD0.self (sz := s.heap.size)
  have hAO := z_AO hD0 hO
  clear hD0
  have hA : ∀ q : Nat, s.heap.size ≤ q → va_A [(h, .inr (11, [.ref rc, .ref d])), (rc, .inr (4, [.ref tp, .ref ln, .ref tb, .ref ct, .ref dp])), (ct, .inl (cI, 10, .inl cn))] s.heap.size q := fun q h => Or.inr h
  have hS : va_S (va_A [(h, .inr (11, [.ref rc, .ref d])), (rc, .inr (4, [.ref tp, .ref ln, .ref tb, .ref ct, .ref dp])), (ct, .inl (cI, 10, .inl cn))] s.heap.size) s.heap s.heap [] := va_S.rf
  generalize hAe : va_A [(h, .inr (11, [.ref rc, .ref d])), (rc, .inr (4, [.ref tp, .ref ln, .ref tb, .ref ct, .ref dp])), (ct, .inl (cI, 10, .inl cn))] s.heap.size = A at hD hA hS hAO ⊢
  have hP : va_P D classes [(h, .inr (11, [.ref rc, .ref d])), (rc, .inr (4, [.ref tp, .ref ln, .ref tb, .ref ct, .ref dp])), (ct, .inl (cI, 10, .inl cn))] s.heap := hP
  have hl := lv_entry ([.ref h, .int k, .int w]) (n := 4) (Nat.le_of_ble_eq_true rfl)
  rw [lg_entry_eq]
  generalize (lg_sl ([.ref h, .int k, .int w]) ++ List.replicate (4 - (lg_sl ([.ref h, .int k, .int w])).length) Slot.unset).toArray = ls at hl ⊢
  have hl : lv_has ls 4 [(0, .ref h), (1, .int k), (2, .int w)] := hl
  refine lv_iload_n hx hb d_SS_piece_0 rfl (lv_at hl 2 rfl) ?_
  refine lv_if_lt (tgt := 13) hx hb d_SS_piece_1 rfl (fun h9 => absurd h9 h0) (fun h1 => ?_)
  refine lv_iload_n hx hb d_SS_piece_4 rfl (lv_at hl 2 rfl) ?_
  refine lv_iconst (v := 4) hx hb d_SS_piece_5 (by decide) ?_
  refine lv_icmp_gt (tgt := 13) hx hb d_SS_piece_6 rfl (fun h9 => absurd h9 h4) (fun h6 => ?_)
  refine lv_iload_n hx hb d_SS_piece_9 rfl (lv_at hl 1 rfl) ?_
  refine lv_if_ge (tgt := 23) hx hb d_SS_piece_10 rfl (fun h10 => ?_) (fun h9 => absurd (Int32.not_le.mp h9) hk)
  refine lv_aload_n hx hb d_SS_piece_23 rfl (lv_at hl 0 rfl) ?_
  refine va_get (D := D) (ci := 11) (v := .ref rc) (C := R_SS) (T := F_SS) (N := 2) hx hb hts i_SS hown hK hP 0 rfl rfl 0 (by decide) (hts _ wd_198) (fun _ h9 => h9) rfl d_SS_piece_24 ?_
  refine lv_iload_n hx hb d_SS_piece_27 rfl (lv_at hl 1 rfl) ?_
  have hPc := hP.sub (ws' := [(rc, .inr (4, [.ref tp, .ref ln, .ref tb, .ref ct, .ref dp])), (ct, .inl (cI, 10, .inl cn))]) [1, 2] rfl
  have hKc := hK.sub (tys' := [(cI, .int)]) [0] rfl
  refine z_cq (va_runV (As := [.int k]) (rest := []) ⟨hx, hb, hml, hown, hts⟩ (c_Receiver_doneBefore0 l D cI rc tp ln tb ct dp cn k hc) (z_cV hN wd_873 wd_60 wd_870 hd_Receiver_doneBefore rfl rfl ⟨Nat.le_of_ble_eq_true rfl, Nat.le_of_ble_eq_true rfl⟩ wd_871 wd_872) (z_preV (va_recv (ci := 4) (q0 := 1) hK hP rfl rfl) hPc hKc hN) rfl rfl hl.1 rfl (lv_room (Nat.le_of_ble_eq_true rfl)) d_SS_piece_28 ⟨Nat.le_of_ble_eq_true rfl, Nat.le_of_ble_eq_true rfl⟩) (fun r28 e28 => ?_)
  subst e28
  refine z_topq (w := none) rfl ?_
  refine lv_astore_nN (lv' := [(3, .null), (0, .ref h), (1, .int k), (2, .int w)]) hx hb d_SS_piece_31 rfl hl (by decide) rfl (fun ls hl => ?_)
  refine lv_aload_nN hx hb d_SS_piece_32 rfl (lv_at hl 0 rfl) ?_
  refine lv_ifnonnullN hx hb d_SS_piece_33 ?_
  refine lv_ldc2 hx hb hown (hts _ wd_859) d_SS_piece_36 ?_
  have hP9 := hP.sub (ws' := [(h, .inr (11, [.ref rc, .ref d])), (rc, .inr (4, [.ref tp, .ref ln, .ref tb, .ref ct, .ref dp])), (ct, .inl (cI, 10, .inl cn))]) [0, 1, 2] rfl
  have hD9 := hD.sub (ws' := [(h, .inr (11, [.ref rc, .ref d])), (rc, .inr (4, [.ref tp, .ref ln, .ref tb, .ref ct, .ref dp])), (ct, .inl (cI, 10, .inl cn))]) [0, 1, 2] (by decide) rfl
  have hK9 := hK.sub (tys' := [(cI, .int)]) [0] rfl
  refine W.widen (k := 1) (n := 6) (by omega) (by omega) ?_
  exact W.mono MQ.toT (W.lret (v := (-1)) hx hb hr (fun t ht hW => Or.inl ⟨_, (), rfl, rfl, ⟨by rw [ht]; exact hP9, va_K.moved hW.alike hK9, hD9⟩, hS.F ht⟩) hS.2.2 d_SS_piece_39)
set_option maxHeartbeats 4000000 in
set_option maxRecDepth 100000 in
theorem c_SS_plan_ok0 (l : Launch) (D : va_G) (hfl : l.stackTraces = false) (B0 : State) (hG : zG B0) (sz : Nat) (cO : ClassId) (h rc d e0 : Nat) (mo i c : Int32) (he0 : zE0 B0 e0) (hok : ¬ (i < 1 ∨ 65535 < i ∨ c < 0 ∨ 8191 < c)) : MetT l y_SS_plan [Cond.code y_SS_plan b_SS_plan 3 (some .int)] ({ frames := 5, cells := 3, slots := 16, locals := 101 }) (zMo [.ref h, .int i, .int c] D [(h, .inr (11, [.ref rc, .ref d])), (d, .inr (12, [.ref e0, .int 0, .int mo]))] [(cO, .object "java/lang/Object")] sz B0) (zQi (fun r0 (u : Nat × Nat × Nat) => r0 = 1) (fun (u : Nat × Nat × Nat) t => zW D (va_A [(h, .inr (11, [.ref rc, .ref d])), (d, .inr (12, [.ref e0, .int 0, .int mo]))] sz) [(h, .inr (11, [.ref rc, .ref d])), (d, .inr (12, [.ref u.1, .int 1, .int (mo + 1)])), (u.1, .inl (cO, 10, .inr (.inr (.inr (.inr (va_up (fun _ => none) 0 (some u.2.1))))))), (u.2.1, .inr (9, [.int i, .int c, .ref u.2.2])), (u.2.2, .inr (12, [.ref e0, .int 0, .int 0]))] [(cO, .object "java/lang/Object")] t) (va_A [(h, .inr (11, [.ref rc, .ref d])), (d, .inr (12, [.ref e0, .int 0, .int mo]))] sz) (fun _ => False)) 3 16 (va_A [(h, .inr (11, [.ref rc, .ref d])), (d, .inr (12, [.ref e0, .int 0, .int mo]))] sz) := by
  refine MetT.ofW (cc := b_SS_plan) (maxL := 3) (ret := (some .int)) (by decide) rfl ?_
  intro p e s m args below meth cd s₁ Bd hml hem hv
  obtain ⟨rfl, hsz, hP, hK, hN, hD0, hO⟩ := hv
  have hx := Bd.exec
  have hb := Bd.bytes
  have hr := Bd.returns
  have hts := hN.use (a := ([.ref h, .int i, .int c]).toArray)
  have hown : s.vm.findClass R_SS = some m.cls := findClass_of_methodNamed Bd.named
  have hlocks := Bd.notSynchronized
  subst hsz
  have hD := hD0.self (sz := s.heap.size)
  have hAO := z_AO hD0 hO
  clear hD0
  have hA : ∀ q : Nat, s.heap.size ≤ q → va_A [(h, .inr (11, [.ref rc, .ref d])), (d, .inr (12, [.ref e0, .int 0, .int mo]))] s.heap.size q := fun q h => Or.inr h
  have hS : va_S (va_A [(h, .inr (11, [.ref rc, .ref d])), (d, .inr (12, [.ref e0, .int 0, .int mo]))] s.heap.size) s.heap s.heap [] := va_S.rf
  generalize hAe : va_A [(h, .inr (11, [.ref rc, .ref d])), (d, .inr (12, [.ref e0, .int 0, .int mo]))] s.heap.size = A at hD hA hS hAO ⊢
  have hP : va_P D classes [(h, .inr (11, [.ref rc, .ref d])), (d, .inr (12, [.ref e0, .int 0, .int mo]))] s.heap := hP
  have hl := lv_entry ([.ref h, .int i, .int c]) (n := 3) (Nat.le_of_ble_eq_true rfl)
  rw [lg_entry_eq]
  generalize (lg_sl ([.ref h, .int i, .int c]) ++ List.replicate (3 - (lg_sl ([.ref h, .int i, .int c])).length) Slot.unset).toArray = ls at hl ⊢
  have hl : lv_has ls 3 [(0, .ref h), (1, .int i), (2, .int c)] := hl
  refine lv_iload_n hx hb d_SS_plan_0 rfl (lv_at hl 1 rfl) ?_
  refine lv_iconst (v := 1) hx hb d_SS_plan_1 (by decide) ?_
  refine lv_icmp_lt (tgt := 18) hx hb d_SS_plan_2 rfl (fun h9 => absurd (Or.inl h9) hok) (fun h2 => ?_)
  refine lv_iload_n hx hb d_SS_plan_5 rfl (lv_at hl 1 rfl) ?_
  refine lv_ldc hx hb hown (hts _ wd_893) d_SS_plan_6 ?_
  refine lv_icmp_gt (tgt := 18) hx hb d_SS_plan_8 rfl (fun h9 => absurd (Or.inr (Or.inl h9)) hok) (fun h8 => ?_)
  refine lv_iload_n hx hb d_SS_plan_11 rfl (lv_at hl 2 rfl) ?_
  have hPc := hP.sub (ws' := []) [] rfl
  have hKc := hK.sub (tys' := []) [] rfl
  refine z_ci (va_runS (As := [.int c]) (rest := []) ⟨hx, hb, hml, hown, hts⟩ (c_SS_isNoPid l D c ) (z_cS hN wd_883 wd_59 wd_881 hd_SS_isNoPid rfl rfl ⟨Nat.le_of_ble_eq_true rfl, Nat.le_of_ble_eq_true rfl⟩ wd_882) (z_preS hPc hKc hN) rfl rfl hl.1 rfl (lv_room (Nat.le_of_ble_eq_true rfl)) d_SS_plan_12 ⟨Nat.le_of_ble_eq_true rfl, Nat.le_of_ble_eq_true rfl⟩) (fun r12 e12 => ?_)
  subst e12
  refine lv_if_eq (tgt := 28) hx hb d_SS_plan_15 rfl (fun h15 => ?_) (fun h9 => absurd (Or.inr (Or.inr (pd_bad rfl h9))) hok)
  refine lv_aload_n hx hb d_SS_plan_28 rfl (lv_at hl 0 rfl) ?_
  refine va_get (D := D) (ci := 11) (v := .ref d) (C := R_SS) (T := F_SS) (N := 2) hx hb hts i_SS hown hK hP 0 rfl rfl 1 (by decide) (hts _ wd_199) (fun _ h9 => h9) rfl d_SS_plan_29 ?_
  have hPc := hP.sub (ws' := [(d, .inr (12, [.ref e0, .int 0, .int mo]))]) [1] rfl
  have hKc := hK.sub (tys' := []) [] rfl
  refine z_ci (va_runV (As := []) (rest := []) ⟨hx, hb, hml, hown, hts⟩ (c_AL_size l D d e0 0 mo ) (z_cV hN wd_305 wd_66 wd_820 hd_AL_size rfl rfl ⟨Nat.le_of_ble_eq_true rfl, Nat.le_of_ble_eq_true rfl⟩ wd_303 wd_304) (z_preV (va_recv (ci := 12) (q0 := 1) hK hP rfl rfl) hPc hKc hN) rfl rfl hl.1 rfl (lv_room (Nat.le_of_ble_eq_true rfl)) d_SS_plan_32 ⟨Nat.le_of_ble_eq_true rfl, Nat.le_of_ble_eq_true rfl⟩) (fun r32 e32 => ?_)
  subst e32
  refine lv_iconst (v := 4) hx hb d_SS_plan_35 (by decide) ?_
  refine lv_icmp_lt (tgt := 41) hx hb d_SS_plan_36 rfl (fun h36 => ?_) (fun h9 => absurd h9 (by decide))
  refine lv_aload_n hx hb d_SS_plan_41 rfl (lv_at hl 0 rfl) ?_
  refine va_get (D := D) (ci := 11) (v := .ref d) (C := R_SS) (T := F_SS) (N := 2) hx hb hts i_SS hown hK hP 0 rfl rfl 1 (by decide) (hts _ wd_199) (fun _ h9 => h9) rfl d_SS_plan_42 ?_
  refine va_new (ci := 9) (fs := [.int 0, .int 0, .null]) (C := R_Draft) (T := F_Draft) (N := 3) hx hb hts i_Draft t_Draft t_Draft_ok hown (hts _ wd_895) (hts _ wd_896) (hts _ wd_84) hK hP hD hS hA rfl (fs_Draft) (by show 0 + 1 ≤ 3; omega) (by show 0 + 3 ≤ 16; omega) d_SS_plan_45 (fun q45 H hP hD hS => ?_)
  have hP : va_P D classes [(h, .inr (11, [.ref rc, .ref d])), (d, .inr (12, [.ref e0, .int 0, .int mo])), (q45, .inr (9, [.int 0, .int 0, .null]))] H := hP
  have hD : va_D A [(h, .inr (11, [.ref rc, .ref d])), (d, .inr (12, [.ref e0, .int 0, .int mo])), (q45, .inr (9, [.int 0, .int 0, .null]))] := hD
  refine lv_dup hx hb d_SS_plan_48 rfl ?_
  refine lv_iload_n hx hb d_SS_plan_49 rfl (lv_at hl 1 rfl) ?_
  refine lv_iload_n hx hb d_SS_plan_50 rfl (lv_at hl 2 rfl) ?_
  have hPc := hP.sub (ws' := [(q45, .inr (9, [.int 0, .int 0, .null]))]) [2] rfl
  have hKc := hK.sub (tys' := []) [] rfl
  have hDc := hD.sub (ws' := [(q45, .inr (9, [.int 0, .int 0, .null]))]) [2] (by decide) rfl
  have hFc := va_free (wc := [(q45, .inr (9, [.int 0, .int 0, .null]))]) hD hS hA [2] rfl
  refine va_callv (va_runI (As := [.int i, .int c]) (rest := [.ref q45, .ref d]) ⟨hx, hb, hml, hown, hts⟩ (c_Draft_init l D B0 hG H.size q45 e0 i c he0) (z_cI hN wd_899 wd_84 wd_897 hd_Draft_init rfl rfl ⟨Nat.le_of_ble_eq_true rfl, Nat.le_of_ble_eq_true rfl⟩ wd_898 rfl) (z_preSo hPc hKc hN hDc hO hS hAO) rfl rfl hl.1 rfl (lv_room (Nat.le_of_ble_eq_true rfl)) d_SS_plan_51 ⟨Nat.le_of_ble_eq_true rfl, Nat.le_of_ble_eq_true rfl⟩) hS (fun q _ h => hFc q h) hFc (fun q51 t H locs ht hvm e51 hB hz1 hk1 hS => ?_)
  obtain ⟨hP1, hK1, hD1⟩ := hB
  rw [ht] at hP1
  obtain ⟨hP, hD⟩ := va_join (wr := [(h, .inr (11, [.ref rc, .ref d])), (d, .inr (12, [.ref e0, .int 0, .int mo]))]) (w1 := [(q45, .inr (9, [.int i, .int c, .ref q51])), (q51, .inr (12, [.ref e0, .int 0, .int 0]))]) hP hD [2] [0, 1] rfl rfl (by decide) (by decide) hk1 hFc hP1 hD1
  clear hk1 hP1 hD1 hFc hPc hDc hz1
  have hP : va_P D classes [(h, .inr (11, [.ref rc, .ref d])), (d, .inr (12, [.ref e0, .int 0, .int mo])), (q45, .inr (9, [.int i, .int c, .ref q51])), (q51, .inr (12, [.ref e0, .int 0, .int 0]))] H := hP
  have hD : va_D A [(h, .inr (11, [.ref rc, .ref d])), (d, .inr (12, [.ref e0, .int 0, .int mo])), (q45, .inr (9, [.int i, .int c, .ref q51])), (q51, .inr (12, [.ref e0, .int 0, .int 0]))] := hD
  have hPc := hP.sub (ws' := [(d, .inr (12, [.ref e0, .int 0, .int mo])), (q45, .inr (9, [.int i, .int c, .ref q51]))]) [1, 2] rfl
  have hKc := hK.sub (tys' := [(cO, .object "java/lang/Object")]) [0] rfl
  have hDc := hD.sub (ws' := [(d, .inr (12, [.ref e0, .int 0, .int mo])), (q45, .inr (9, [.int i, .int c, .ref q51]))]) [1, 2] (by decide) rfl
  have hFc := va_free (wc := [(d, .inr (12, [.ref e0, .int 0, .int mo])), (q45, .inr (9, [.int i, .int c, .ref q51]))]) hD hS hA [1, 2] rfl
  refine va_calli (va_runV (As := [.ref q45]) (rest := []) ⟨hx, hb, hml, hown, hts⟩ (c_AL_add0e l D B0 hG H.size cO d e0 mo q45 9 [.int i, .int c, .ref q51] (R_Draft, F_Draft, 3) he0 rfl wd_1503) (z_cV hN wd_465 wd_66 wd_918 hd_AL_add0 rfl rfl ⟨Nat.le_of_ble_eq_true rfl, Nat.le_of_ble_eq_true rfl⟩ wd_463 wd_464) (z_preVo (va_recv (ci := 12) (q0 := 1) hK hP rfl rfl) hPc hKc hN hDc hO hS hAO) rfl rfl hl.1 rfl (lv_room (Nat.le_of_ble_eq_true rfl)) d_SS_plan_54 ⟨Nat.le_of_ble_eq_true rfl, Nat.le_of_ble_eq_true rfl⟩) hS (fun q _ h => hFc q h) hFc (fun r54 q54 t H locs ht hvm e54 hB hz1 hk1 hS => ?_)
  obtain ⟨hP1, hK1, hD1⟩ := hB
  rw [ht] at hP1
  obtain ⟨hP, hD⟩ := va_join (wr := [(h, .inr (11, [.ref rc, .ref d])), (q51, .inr (12, [.ref e0, .int 0, .int 0]))]) (w1 := [(d, .inr (12, [.ref q54, .int 1, .int (mo + 1)])), (q54, .inl (cO, 10, .inr (.inr (.inr (.inr (va_up (fun _ => none) 0 (some q45))))))), (q45, .inr (9, [.int i, .int c, .ref q51]))]) hP hD [1, 2] [0, 3] rfl rfl (by decide) (by decide) hk1 hFc hP1 hD1
  clear hk1 hP1 hD1 hFc hPc hDc hz1
  have hP : va_P D classes [(h, .inr (11, [.ref rc, .ref d])), (q51, .inr (12, [.ref e0, .int 0, .int 0])), (d, .inr (12, [.ref q54, .int 1, .int (mo + 1)])), (q54, .inl (cO, 10, .inr (.inr (.inr (.inr (va_up (fun _ => none) 0 (some q45))))))), (q45, .inr (9, [.int i, .int c, .ref q51]))] H := hP
  have hD : va_D A [(h, .inr (11, [.ref rc, .ref d])), (q51, .inr (12, [.ref e0, .int 0, .int 0])), (d, .inr (12, [.ref q54, .int 1, .int (mo + 1)])), (q54, .inl (cO, 10, .inr (.inr (.inr (.inr (va_up (fun _ => none) 0 (some q45))))))), (q45, .inr (9, [.int i, .int c, .ref q51]))] := hD
  refine lv_pop hx hb d_SS_plan_57 rfl ?_
  refine lv_aload_n hx hb d_SS_plan_58 rfl (lv_at hl 0 rfl) ?_
  refine va_get (D := D) (ci := 11) (v := .ref d) (C := R_SS) (T := F_SS) (N := 2) hx hb hts i_SS hown hK hP 0 rfl rfl 1 (by decide) (hts _ wd_199) (fun _ h9 => h9) rfl d_SS_plan_59 ?_
  have hPc := hP.sub (ws' := [(d, .inr (12, [.ref q54, .int 1, .int (mo + 1)]))]) [2] rfl
  have hKc := hK.sub (tys' := []) [] rfl
  refine z_ci (va_runV (As := []) (rest := []) ⟨hx, hb, hml, hown, hts⟩ (c_AL_size l D d q54 1 (mo + 1) ) (z_cV hN wd_305 wd_66 wd_820 hd_AL_size rfl rfl ⟨Nat.le_of_ble_eq_true rfl, Nat.le_of_ble_eq_true rfl⟩ wd_303 wd_304) (z_preV (va_recv (ci := 12) (q0 := 2) hK hP rfl rfl) hPc hKc hN) rfl rfl hl.1 rfl (lv_room (Nat.le_of_ble_eq_true rfl)) d_SS_plan_62 ⟨Nat.le_of_ble_eq_true rfl, Nat.le_of_ble_eq_true rfl⟩) (fun r62 e62 => ?_)
  subst e62
  have hP9 := hP.sub (ws' := [(h, .inr (11, [.ref rc, .ref d])), (d, .inr (12, [.ref q54, .int 1, .int (mo + 1)])), (q54, .inl (cO, 10, .inr (.inr (.inr (.inr (va_up (fun _ => none) 0 (some q45))))))), (q45, .inr (9, [.int i, .int c, .ref q51])), (q51, .inr (12, [.ref e0, .int 0, .int 0]))]) [0, 2, 3, 4, 1] rfl
  have hD9 := hD.sub (ws' := [(h, .inr (11, [.ref rc, .ref d])), (d, .inr (12, [.ref q54, .int 1, .int (mo + 1)])), (q54, .inl (cO, 10, .inr (.inr (.inr (.inr (va_up (fun _ => none) 0 (some q45))))))), (q45, .inr (9, [.int i, .int c, .ref q51])), (q51, .inr (12, [.ref e0, .int 0, .int 0]))]) [0, 2, 3, 4, 1] (by decide) rfl
  have hK9 := hK.sub (tys' := [(cO, .object "java/lang/Object")]) [0] rfl
  refine W.widen (k := 3) (n := 16) (by omega) (by omega) ?_
  exact W.mono MQ.toT (W.iret (v := 1) hx hb hr (fun t ht hW => Or.inl ⟨_, (q54, q45, q51), rfl, rfl, ⟨by rw [ht]; exact hP9, va_K.moved hW.alike hK9, hD9⟩, hS.F ht⟩) hS.2.2 d_SS_plan_65)
set_option maxHeartbeats 4000000 in
set_option maxRecDepth 100000 in
theorem c_AL_clear0 (l : Launch) (D : va_G) (sz : Nat) (a b : Nat) (mo : Int32)  : Met l y_AL_clear [Cond.code y_AL_clear b_AL_clear 4 none] ({ frames := 0, cells := 0, slots := 0, locals := 0 }) (zM [.ref a] D [(a, .inr (12, [.ref b, .int 0, .int mo]))] [] sz) (va_Qv (fun (_ : Unit) => True) (fun (_u : Unit) t => zW D (va_A [(a, .inr (12, [.ref b, .int 0, .int mo]))] sz) [(a, .inr (12, [.ref b, .int 0, .int (mo + 1)]))] [] t) (va_A [(a, .inr (12, [.ref b, .int 0, .int mo]))] sz)) 0 0 (va_A [(a, .inr (12, [.ref b, .int 0, .int mo]))] sz) := by
  refine Met.ofW (cc := b_AL_clear) (maxL := 4) (ret := none) (by decide) rfl ?_
  intro p e s m args below meth cd s₁ Bd hml hv
  obtain ⟨rfl, hsz, hP, hK, hN, hD0⟩ := hv
  have hx := Bd.exec
  have hb := Bd.bytes
  have hr := Bd.returns
  have hts := hN.use (a := ([.ref a]).toArray)
  have hown : s.vm.findClass R_AL = some m.cls := findClass_of_methodNamed Bd.named
  have hlocks := Bd.notSynchronized
  subst hsz
  have hD := hD0.self (sz := s.heap.size)
  clear hD0
  have hA : ∀ q : Nat, s.heap.size ≤ q → va_A [(a, .inr (12, [.ref b, .int 0, .int mo]))] s.heap.size q := fun q h => Or.inr h
  have hS : va_S (va_A [(a, .inr (12, [.ref b, .int 0, .int mo]))] s.heap.size) s.heap s.heap [] := va_S.rf
  generalize hAe : va_A [(a, .inr (12, [.ref b, .int 0, .int mo]))] s.heap.size = A at hD hA hS ⊢
  have hP : va_P D classes [(a, .inr (12, [.ref b, .int 0, .int mo]))] s.heap := hP
  have hl := lv_entry ([.ref a]) (n := 4) (Nat.le_of_ble_eq_true rfl)
  rw [lg_entry_eq]
  generalize (lg_sl ([.ref a]) ++ List.replicate (4 - (lg_sl ([.ref a])).length) Slot.unset).toArray = ls at hl ⊢
  have hl : lv_has ls 4 [(0, .ref a)] := hl
  refine lv_aload_n hx hb d_AL_clear_0 rfl (lv_at hl 0 rfl) ?_
  refine lv_dup hx hb d_AL_clear_1 rfl ?_
  refine va_get (D := D) (ci := 12) (v := .int mo) (C := R_AL) (T := F_AL) (N := 3) hx hb hts i_AL hown hK hP 0 rfl rfl 2 (by decide) (hts _ wd_155) (fun x9 h9 => u_same (hts _ wd_156) x9 h9) rfl d_AL_clear_2 ?_
  refine lv_iconst (v := 1) hx hb d_AL_clear_5 (by decide) ?_
  refine lv_iadd hx hb d_AL_clear_6 ?_
  refine va_put (D := D) (ci := 12) (v := .int (mo + 1)) (ty := .int) (C := R_AL) (T := F_AL) (N := 3) hx hb hts i_AL t_AL t_AL_ok n_AL hown hK hP hD hS 0 rfl rfl 2 (by decide) (hts _ wd_155) (fun x9 h9 => u_same (hts _ wd_156) x9 h9) rfl (by decide +kernel) rfl rfl (Nat.le_of_ble_eq_true rfl) d_AL_clear_7 (fun H locs hP hD hS => ?_)
  have hP : va_P D classes [(a, .inr (12, [.ref b, .int 0, .int (mo + 1)]))] H := hP
  have hD : va_D A [(a, .inr (12, [.ref b, .int 0, .int (mo + 1)]))] := hD
  refine lv_aload_n hx hb d_AL_clear_10 rfl (lv_at hl 0 rfl) ?_
  refine va_get (D := D) (ci := 12) (v := .ref b) (C := R_AL) (T := F_AL) (N := 3) hx hb hts i_AL hown hK hP 0 rfl rfl 0 (by decide) (hts _ wd_152) (fun _ h9 => h9) rfl d_AL_clear_11 ?_
  refine lv_astore_n (lv' := [(1, .ref b), (0, .ref a)]) hx hb d_AL_clear_14 rfl hl (by decide) rfl (fun ls hl => ?_)
  refine lv_aload_n hx hb d_AL_clear_15 rfl (lv_at hl 1 rfl) ?_
  refine va_get (D := D) (ci := 12) (v := .int 0) (C := R_AL) (T := F_AL) (N := 3) hx hb hts i_AL hown hK hP 0 rfl rfl 1 (by decide) (hts _ wd_153) (fun _ h9 => h9) rfl d_AL_clear_16 ?_
  refine lv_istore_n (lv' := [(2, .int 0), (1, .ref b), (0, .ref a)]) hx hb d_AL_clear_19 rfl hl (by decide) rfl (fun ls hl => ?_)
  refine lv_aload_n hx hb d_AL_clear_20 rfl (lv_at hl 2 rfl) ?_
  refine lv_iconst (v := 0) hx hb d_AL_clear_21 (by decide) ?_
  refine lv_dup_x1 hx hb d_AL_clear_22 rfl rfl ?_
  refine va_put (D := D) (ci := 12) (v := .int 0) (ty := .int) (C := R_AL) (T := F_AL) (N := 3) hx hb hts i_AL t_AL t_AL_ok n_AL hown hK hP hD hS 0 rfl rfl 1 (by decide) (hts _ wd_153) (fun _ h9 => h9) rfl (by decide +kernel) rfl rfl (Nat.le_of_ble_eq_true rfl) d_AL_clear_23 (fun H locs hP hD hS => ?_)
  have hP : va_P D classes [(a, .inr (12, [.ref b, .int 0, .int (mo + 1)]))] H := hP
  have hD : va_D A [(a, .inr (12, [.ref b, .int 0, .int (mo + 1)]))] := hD
  refine lv_istore_n (lv' := [(3, .int 0), (2, .int 0), (1, .ref b), (0, .ref a)]) hx hb d_AL_clear_26 rfl hl (by decide) rfl (fun ls hl => ?_)
  refine lv_iload_n hx hb d_AL_clear_27 rfl (lv_at hl 0 rfl) ?_
  refine lv_iload_n hx hb d_AL_clear_28 rfl (lv_at hl 1 rfl) ?_
  refine lv_icmp_ge (tgt := 42) hx hb d_AL_clear_29 rfl (fun h29 => ?_) (fun h9 => absurd h9 (by decide))
  have hP9 := hP.sub (ws' := [(a, .inr (12, [.ref b, .int 0, .int (mo + 1)]))]) [0] rfl
  have hD9 := hD.sub (ws' := [(a, .inr (12, [.ref b, .int 0, .int (mo + 1)]))]) [0] (by decide) rfl
  have hK9 := hK.sub (tys' := []) [] rfl
  exact W.vret hx hb hr (fun t ht hW => ⟨⟨(), rfl, trivial, ⟨by rw [ht]; exact hP9, va_K.moved hW.alike hK9, hD9⟩⟩, hS.F ht⟩) hS.2.2 d_AL_clear_42
set_option maxHeartbeats 4000000 in
set_option maxRecDepth 100000 in
theorem c_SS_forget0 (l : Launch) (D : va_G) (sz : Nat) (h rc d b : Nat) (mo : Int32)  : Met l y_SS_forget [Cond.code y_SS_forget b_SS_forget 1 none] ({ frames := 1, cells := 0, slots := 0, locals := 23 }) (zM [.ref h] D [(h, .inr (11, [.ref rc, .ref d])), (d, .inr (12, [.ref b, .int 0, .int mo]))] [] sz) (va_Qv (fun (_ : Unit) => True) (fun (_u : Unit) t => zW D (va_A [(h, .inr (11, [.ref rc, .ref d])), (d, .inr (12, [.ref b, .int 0, .int mo]))] sz) [(h, .inr (11, [.ref rc, .ref d])), (d, .inr (12, [.ref b, .int 0, .int (mo + 1)]))] [] t) (va_A [(h, .inr (11, [.ref rc, .ref d])), (d, .inr (12, [.ref b, .int 0, .int mo]))] sz)) 0 0 (va_A [(h, .inr (11, [.ref rc, .ref d])), (d, .inr (12, [.ref b, .int 0, .int mo]))] sz) := by
  refine Met.ofW (cc := b_SS_forget) (maxL := 1) (ret := none) (by decide) rfl ?_
  intro p e s m args below meth cd s₁ Bd hml hv
  obtain ⟨rfl, hsz, hP, hK, hN, hD0⟩ := hv
  have hx := Bd.exec
  have hb := Bd.bytes
  have hr := Bd.returns
  have hts := hN.use (a := ([.ref h]).toArray)
  have hown : s.vm.findClass R_SS = some m.cls := findClass_of_methodNamed Bd.named
  have hlocks := Bd.notSynchronized
  subst hsz
  have hD := hD0.self (sz := s.heap.size)
  clear hD0
  have hA : ∀ q : Nat, s.heap.size ≤ q → va_A [(h, .inr (11, [.ref rc, .ref d])), (d, .inr (12, [.ref b, .int 0, .int mo]))] s.heap.size q := fun q h => Or.inr h
  have hS : va_S (va_A [(h, .inr (11, [.ref rc, .ref d])), (d, .inr (12, [.ref b, .int 0, .int mo]))] s.heap.size) s.heap s.heap [] := va_S.rf
  generalize hAe : va_A [(h, .inr (11, [.ref rc, .ref d])), (d, .inr (12, [.ref b, .int 0, .int mo]))] s.heap.size = A at hD hA hS ⊢
  have hP : va_P D classes [(h, .inr (11, [.ref rc, .ref d])), (d, .inr (12, [.ref b, .int 0, .int mo]))] s.heap := hP
  have hl := lv_entry ([.ref h]) (n := 1) (Nat.le_of_ble_eq_true rfl)
  rw [lg_entry_eq]
  generalize (lg_sl ([.ref h]) ++ List.replicate (1 - (lg_sl ([.ref h])).length) Slot.unset).toArray = ls at hl ⊢
  have hl : lv_has ls 1 [(0, .ref h)] := hl
  refine lv_aload_n hx hb d_SS_forget_0 rfl (lv_at hl 0 rfl) ?_
  refine va_get (D := D) (ci := 11) (v := .ref d) (C := R_SS) (T := F_SS) (N := 2) hx hb hts i_SS hown hK hP 0 rfl rfl 1 (by decide) (hts _ wd_199) (fun _ h9 => h9) rfl d_SS_forget_1 ?_
  have hPc := hP.sub (ws' := [(d, .inr (12, [.ref b, .int 0, .int mo]))]) [1] rfl
  have hKc := hK.sub (tys' := []) [] rfl
  have hDc := hD.sub (ws' := [(d, .inr (12, [.ref b, .int 0, .int mo]))]) [1] (by decide) rfl
  have hFc := va_free (wc := [(d, .inr (12, [.ref b, .int 0, .int mo]))]) hD hS hA [1] rfl
  refine va_callv (va_runV (As := []) (rest := []) ⟨hx, hb, hml, hown, hts⟩ (c_AL_clear0 l D s.heap.size d b mo ) (z_cV hN wd_691 wd_66 wd_688 hd_AL_clear rfl rfl ⟨Nat.le_of_ble_eq_true rfl, Nat.le_of_ble_eq_true rfl⟩ wd_689 wd_690) (z_preVm (va_recv (ci := 12) (q0 := 1) hK hP rfl rfl) hPc hKc hN hDc) rfl rfl hl.1 rfl (lv_room (Nat.le_of_ble_eq_true rfl)) d_SS_forget_4 ⟨Nat.le_of_ble_eq_true rfl, Nat.le_of_ble_eq_true rfl⟩) hS (fun q _ h => hFc q h) hFc (fun u4 t H locs ht hvm e4 hB hz1 hk1 hS => ?_)
  obtain ⟨hP1, hK1, hD1⟩ := hB
  rw [ht] at hP1
  obtain ⟨hP, hD⟩ := va_join (wr := [(h, .inr (11, [.ref rc, .ref d]))]) (w1 := [(d, .inr (12, [.ref b, .int 0, .int (mo + 1)]))]) hP hD [1] [0] rfl rfl (by decide) (by decide) hk1 hFc hP1 hD1
  clear hk1 hP1 hD1 hFc hPc hDc hz1
  have hP : va_P D classes [(h, .inr (11, [.ref rc, .ref d])), (d, .inr (12, [.ref b, .int 0, .int (mo + 1)]))] H := hP
  have hD : va_D A [(h, .inr (11, [.ref rc, .ref d])), (d, .inr (12, [.ref b, .int 0, .int (mo + 1)]))] := hD
  have hP9 := hP.sub (ws' := [(h, .inr (11, [.ref rc, .ref d])), (d, .inr (12, [.ref b, .int 0, .int (mo + 1)]))]) [0, 1] rfl
  have hD9 := hD.sub (ws' := [(h, .inr (11, [.ref rc, .ref d])), (d, .inr (12, [.ref b, .int 0, .int (mo + 1)]))]) [0, 1] (by decide) rfl
  have hK9 := hK.sub (tys' := []) [] rfl
  exact W.vret hx hb hr (fun t ht hW => ⟨⟨(), rfl, trivial, ⟨by rw [ht]; exact hP9, va_K.moved hW.alike hK9, hD9⟩⟩, hS.F ht⟩) hS.2.2 d_SS_forget_7
set_option maxHeartbeats 4000000 in
set_option maxRecDepth 100000 in
theorem c_SS_take0 (l : Launch) (D : va_G) (sz : Nat) (cB : ClassId) (h d rc ln tb ct dp tp : Nat) (a n : Nat) (f : Nat → Int32) (hf : sb_Fit f) : Met l y_SS_take [Cond.code y_SS_take b_SS_take 6 (some .int)] ({ frames := 2, cells := 0, slots := 0, locals := 40 }) (zM [.ref h] D [(h, .inr (11, [.ref rc, .ref d])), (rc, .inr (4, [.ref tp, .ref ln, .ref tb, .ref ct, .ref dp])), (tp, .inr (0, [.ref a, .int (nI 0)])), (a, .inl (cB, 9400, .inl f))] [(cB, .byte)] sz) (va_Qi (fun r0 (_ : Unit) => r0 = 0) (fun (_u : Unit) t => zW D (va_A [(h, .inr (11, [.ref rc, .ref d])), (rc, .inr (4, [.ref tp, .ref ln, .ref tb, .ref ct, .ref dp])), (tp, .inr (0, [.ref a, .int (nI 0)])), (a, .inl (cB, 9400, .inl f))] sz) [(h, .inr (11, [.ref rc, .ref d])), (rc, .inr (4, [.ref tp, .ref ln, .ref tb, .ref ct, .ref dp])), (tp, .inr (0, [.ref a, .int (nI 0)])), (a, .inl (cB, 9400, .inl (va_cpy f f (0 + 0) 0 (0 - 0 - 0))))] [(cB, .byte)] t) (va_A [(h, .inr (11, [.ref rc, .ref d])), (rc, .inr (4, [.ref tp, .ref ln, .ref tb, .ref ct, .ref dp])), (tp, .inr (0, [.ref a, .int (nI 0)])), (a, .inl (cB, 9400, .inl f))] sz)) 0 0 (va_A [(h, .inr (11, [.ref rc, .ref d])), (rc, .inr (4, [.ref tp, .ref ln, .ref tb, .ref ct, .ref dp])), (tp, .inr (0, [.ref a, .int (nI 0)])), (a, .inl (cB, 9400, .inl f))] sz) := by
  refine Met.ofW (cc := b_SS_take) (maxL := 6) (ret := (some .int)) (by decide) rfl ?_
  intro p e s m args below meth cd s₁ Bd hml hv
  obtain ⟨rfl, hsz, hP, hK, hN, hD0⟩ := hv
  have hx := Bd.exec
  have hb := Bd.bytes
  have hr := Bd.returns
  have hts := hN.use (a := ([.ref h]).toArray)
  have hown : s.vm.findClass R_SS = some m.cls := findClass_of_methodNamed Bd.named
  have hlocks := Bd.notSynchronized
  subst hsz
  have hD := hD0.self (sz := s.heap.size)
  clear hD0
  have hA : ∀ q : Nat, s.heap.size ≤ q → va_A [(h, .inr (11, [.ref rc, .ref d])), (rc, .inr (4, [.ref tp, .ref ln, .ref tb, .ref ct, .ref dp])), (tp, .inr (0, [.ref a, .int (nI 0)])), (a, .inl (cB, 9400, .inl f))] s.heap.size q := fun q h => Or.inr h
  have hS : va_S (va_A [(h, .inr (11, [.ref rc, .ref d])), (rc, .inr (4, [.ref tp, .ref ln, .ref tb, .ref ct, .ref dp])), (tp, .inr (0, [.ref a, .int (nI 0)])), (a, .inl (cB, 9400, .inl f))] s.heap.size) s.heap s.heap [] := va_S.rf
  generalize hAe : va_A [(h, .inr (11, [.ref rc, .ref d])), (rc, .inr (4, [.ref tp, .ref ln, .ref tb, .ref ct, .ref dp])), (tp, .inr (0, [.ref a, .int (nI 0)])), (a, .inl (cB, 9400, .inl f))] s.heap.size = A at hD hA hS ⊢
  have hP : va_P D classes [(h, .inr (11, [.ref rc, .ref d])), (rc, .inr (4, [.ref tp, .ref ln, .ref tb, .ref ct, .ref dp])), (tp, .inr (0, [.ref a, .int (nI 0)])), (a, .inl (cB, 9400, .inl f))] s.heap := hP
  have hl := lv_entry ([.ref h]) (n := 6) (Nat.le_of_ble_eq_true rfl)
  rw [lg_entry_eq]
  generalize (lg_sl ([.ref h]) ++ List.replicate (6 - (lg_sl ([.ref h])).length) Slot.unset).toArray = ls at hl ⊢
  have hl : lv_has ls 6 [(0, .ref h)] := hl
  refine lv_aload_n hx hb d_SS_take_0 rfl (lv_at hl 0 rfl) ?_
  refine va_get (D := D) (ci := 11) (v := .ref rc) (C := R_SS) (T := F_SS) (N := 2) hx hb hts i_SS hown hK hP 0 rfl rfl 0 (by decide) (hts _ wd_198) (fun _ h9 => h9) rfl d_SS_take_1 ?_
  refine va_getN (D := D) (ci := 4) (v := .ref tp) (C := R_Receiver) (T := F_Receiver) (N := 5) hx hb hts i_Receiver hown hK hP 1 rfl rfl 0 (by decide) (hts _ wd_176) (fun _ h9 => h9) rfl d_SS_take_4 ?_
  refine lv_astore_n (lv' := [(1, .ref tp), (0, .ref h)]) hx hb d_SS_take_7 rfl hl (by decide) rfl (fun ls hl => ?_)
  refine lv_iconst (v := 0) hx hb d_SS_take_8 (by decide) ?_
  refine lv_istore_n (lv' := [(2, .int 0), (1, .ref tp), (0, .ref h)]) hx hb d_SS_take_9 rfl hl (by decide) rfl (fun ls hl => ?_)
  refine lv_iconst (v := 0) hx hb d_SS_take_10 (by decide) ?_
  refine lv_istore_n (lv' := [(3, .int 0), (2, .int 0), (1, .ref tp), (0, .ref h)]) hx hb d_SS_take_11 rfl hl (by decide) rfl (fun ls hl => ?_)
  refine lv_iload_n hx hb d_SS_take_12 rfl (lv_at hl 0 rfl) ?_
  refine lv_aload_n hx hb d_SS_take_13 rfl (lv_at hl 2 rfl) ?_
  refine va_getN (D := D) (ci := 0) (v := .int (nI 0)) (C := R_Row) (T := F_Row) (N := 2) hx hb hts i_Row hown hK hP 2 rfl rfl 1 (by decide) (hts _ wd_109) (fun _ h9 => h9) rfl d_SS_take_14 ?_
  refine lv_icmp_ge (tgt := 153) hx hb d_SS_take_17 rfl (fun h17 => ?_) (fun h9 => absurd (Int32.le_refl 0) h9)
  refine lv_aload_n hx hb d_SS_take_153 rfl (lv_at hl 2 rfl) ?_
  refine lv_iconst (v := 0) hx hb d_SS_take_154 (by decide) ?_
  refine lv_iload_n hx hb d_SS_take_155 rfl (lv_at hl 0 rfl) ?_
  refine z_topi (w := nI 0) rfl ?_
  have hPc := hP.sub (ws' := [(tp, .inr (0, [.ref a, .int (nI 0)])), (a, .inl (cB, 9400, .inl f))]) [2, 3] rfl
  have hKc := hK.sub (tys' := [(cB, .byte)]) [0] rfl
  have hDc := hD.sub (ws' := [(tp, .inr (0, [.ref a, .int (nI 0)])), (a, .inl (cB, 9400, .inl f))]) [2, 3] (by decide) rfl
  have hFc := va_free (wc := [(tp, .inr (0, [.ref a, .int (nI 0)])), (a, .inl (cB, 9400, .inl f))]) hD hS hA [2, 3] rfl
  refine va_callv (va_runV (As := [.int (nI 0), .int (nI 0)]) (rest := []) ⟨hx, hb, hml, hown, hts⟩ (c_Row_cut l D s.heap.size cB tp a 0 9400 f 0 0 (by omega) (by omega) (by omega) hf) (z_cV hN wd_682 wd_61 wd_679 hd_Row_cut rfl rfl ⟨Nat.le_of_ble_eq_true rfl, Nat.le_of_ble_eq_true rfl⟩ wd_680 wd_681) (z_preVm (va_recv (ci := 0) (q0 := 2) hK hP rfl rfl) hPc hKc hN hDc) rfl rfl hl.1 rfl (lv_room (Nat.le_of_ble_eq_true rfl)) d_SS_take_156 ⟨Nat.le_of_ble_eq_true rfl, Nat.le_of_ble_eq_true rfl⟩) hS (fun q _ h => hFc q h) hFc (fun u156 t H locs ht hvm e156 hB hz1 hk1 hS => ?_)
  obtain ⟨hP1, hK1, hD1⟩ := hB
  rw [ht] at hP1
  obtain ⟨hP, hD⟩ := va_join (wr := [(h, .inr (11, [.ref rc, .ref d])), (rc, .inr (4, [.ref tp, .ref ln, .ref tb, .ref ct, .ref dp]))]) (w1 := [(tp, .inr (0, [.ref a, .int (nI (0 - 0))])), (a, .inl (cB, 9400, .inl (va_cpy f f (0 + 0) 0 (0 - 0 - 0))))]) hP hD [2, 3] [0, 1] rfl rfl (by decide) (by decide) hk1 hFc hP1 hD1
  clear hk1 hP1 hD1 hFc hPc hDc hz1
  have hP : va_P D classes [(h, .inr (11, [.ref rc, .ref d])), (rc, .inr (4, [.ref tp, .ref ln, .ref tb, .ref ct, .ref dp])), (tp, .inr (0, [.ref a, .int (nI (0 - 0))])), (a, .inl (cB, 9400, .inl (va_cpy f f (0 + 0) 0 (0 - 0 - 0))))] H := hP
  have hD : va_D A [(h, .inr (11, [.ref rc, .ref d])), (rc, .inr (4, [.ref tp, .ref ln, .ref tb, .ref ct, .ref dp])), (tp, .inr (0, [.ref a, .int (nI (0 - 0))])), (a, .inl (cB, 9400, .inl (va_cpy f f (0 + 0) 0 (0 - 0 - 0))))] := hD
  refine lv_iload_n hx hb d_SS_take_159 rfl (lv_at hl 1 rfl) ?_
  have hP9 := hP.sub (ws' := [(h, .inr (11, [.ref rc, .ref d])), (rc, .inr (4, [.ref tp, .ref ln, .ref tb, .ref ct, .ref dp])), (tp, .inr (0, [.ref a, .int (nI (0 - 0))])), (a, .inl (cB, 9400, .inl (va_cpy f f (0 + 0) 0 (0 - 0 - 0))))]) [0, 1, 2, 3] rfl
  have hD9 := hD.sub (ws' := [(h, .inr (11, [.ref rc, .ref d])), (rc, .inr (4, [.ref tp, .ref ln, .ref tb, .ref ct, .ref dp])), (tp, .inr (0, [.ref a, .int (nI (0 - 0))])), (a, .inl (cB, 9400, .inl (va_cpy f f (0 + 0) 0 (0 - 0 - 0))))]) [0, 1, 2, 3] (by decide) rfl
  have hK9 := hK.sub (tys' := [(cB, .byte)]) [0] rfl
  exact W.iret (v := 0) hx hb hr (fun t ht hW => ⟨⟨_, (), rfl, rfl, ⟨by rw [ht]; exact hP9, va_K.moved hW.alike hK9, hD9⟩⟩, hS.F ht⟩) hS.2.2 d_SS_take_160
set_option maxHeartbeats 4000000 in
set_option maxRecDepth 100000 in
theorem c_Mo_take0 (l : Launch) (D : va_G) (sz : Nat) (cI : ClassId) (h : Nat) (r : Nat → Nat) (th le lv pg pn pl rs : Int32) (tp : Nat → Int32)  : Met l y_Mo_take [Cond.code y_Mo_take b_Mo_take 4 (some .int)] ({ frames := 1, cells := 0, slots := 0, locals := 23 }) (zM [.ref h] D [(h, .inr (13, mO r th (nI 0) le lv pg pn pl rs)), (r 1, .inl (cI, 9400, .inl tp))] [(cI, .int)] sz) (va_Qi (fun r0 (_ : Unit) => r0 = 0) (fun (_u : Unit) t => zW D (va_A [(h, .inr (13, mO r th (nI 0) le lv pg pn pl rs)), (r 1, .inl (cI, 9400, .inl tp))] sz) [(h, .inr (13, mO r 0 (nI 0) le lv pg pn pl rs)), (r 1, .inl (cI, 9400, .inl (rm_f tp 0 0 0)))] [(cI, .int)] t) (va_A [(h, .inr (13, mO r th (nI 0) le lv pg pn pl rs)), (r 1, .inl (cI, 9400, .inl tp))] sz)) 0 0 (va_A [(h, .inr (13, mO r th (nI 0) le lv pg pn pl rs)), (r 1, .inl (cI, 9400, .inl tp))] sz) := by
  refine Met.ofW (cc := b_Mo_take) (maxL := 4) (ret := (some .int)) (by decide) rfl ?_
  intro p e s m args below meth cd s₁ Bd hml hv
  obtain ⟨rfl, hsz, hP, hK, hN, hD0⟩ := hv
  have hx := Bd.exec
  have hb := Bd.bytes
  have hr := Bd.returns
  have hts := hN.use (a := ([.ref h]).toArray)
  have hown : s.vm.findClass R_Mo = some m.cls := findClass_of_methodNamed Bd.named
  have hlocks := Bd.notSynchronized
  subst hsz
  have hD := hD0.self (sz := s.heap.size)
  clear hD0
  have hA : ∀ q : Nat, s.heap.size ≤ q → va_A [(h, .inr (13, mO r th (nI 0) le lv pg pn pl rs)), (r 1, .inl (cI, 9400, .inl tp))] s.heap.size q := fun q h => Or.inr h
  have hS : va_S (va_A [(h, .inr (13, mO r th (nI 0) le lv pg pn pl rs)), (r 1, .inl (cI, 9400, .inl tp))] s.heap.size) s.heap s.heap [] := va_S.rf
  generalize hAe : va_A [(h, .inr (13, mO r th (nI 0) le lv pg pn pl rs)), (r 1, .inl (cI, 9400, .inl tp))] s.heap.size = A at hD hA hS ⊢
  have hP : va_P D classes [(h, .inr (13, mO r th (nI 0) le lv pg pn pl rs)), (r 1, .inl (cI, 9400, .inl tp))] s.heap := hP
  have hl := lv_entry ([.ref h]) (n := 4) (Nat.le_of_ble_eq_true rfl)
  rw [lg_entry_eq]
  generalize (lg_sl ([.ref h]) ++ List.replicate (4 - (lg_sl ([.ref h])).length) Slot.unset).toArray = ls at hl ⊢
  have hl : lv_has ls 4 [(0, .ref h)] := hl
  refine lv_aload_n hx hb d_Mo_take_0 rfl (lv_at hl 0 rfl) ?_
  refine lv_iconst (v := 0) hx hb d_Mo_take_1 (by decide) ?_
  refine va_put (D := D) (ci := 13) (v := .int 0) (ty := .int) (C := R_Mo) (T := F_Mo) (N := 54) hx hb hts i_Mo t_Mo t_Mo_ok n_Mo hown hK hP hD hS 0 rfl rfl 0 (by decide) (hts _ wd_1088) (fun _ h9 => h9) rfl (by decide +kernel) rfl rfl (Nat.le_of_ble_eq_true rfl) d_Mo_take_2 (fun H locs hP hD hS => ?_)
  have hP : va_P D classes [(h, .inr (13, mO r 0 (nI 0) le lv pg pn pl rs)), (r 1, .inl (cI, 9400, .inl tp))] H := hP
  have hD : va_D A [(h, .inr (13, mO r 0 (nI 0) le lv pg pn pl rs)), (r 1, .inl (cI, 9400, .inl tp))] := hD
  refine lv_iconst (v := 0) hx hb d_Mo_take_5 (by decide) ?_
  refine lv_istore_n (lv' := [(1, .int 0), (0, .ref h)]) hx hb d_Mo_take_6 rfl hl (by decide) rfl (fun ls hl => ?_)
  refine lv_iconst (v := 0) hx hb d_Mo_take_7 (by decide) ?_
  refine lv_istore_n (lv' := [(2, .int 0), (1, .int 0), (0, .ref h)]) hx hb d_Mo_take_8 rfl hl (by decide) rfl (fun ls hl => ?_)
  refine lv_iconst (v := 1) hx hb d_Mo_take_9 (by decide) ?_
  refine lv_istore_n (lv' := [(3, .int 1), (2, .int 0), (1, .int 0), (0, .ref h)]) hx hb d_Mo_take_10 rfl hl (by decide) rfl (fun ls hl => ?_)
  refine lv_iload_n hx hb d_Mo_take_11 rfl (lv_at hl 0 rfl) ?_
  refine lv_if_eq (tgt := 84) hx hb d_Mo_take_12 rfl (fun h9 => absurd h9 (by decide)) (fun h12 => ?_)
  refine lv_iload_n hx hb d_Mo_take_15 rfl (lv_at hl 2 rfl) ?_
  refine lv_aload_n hx hb d_Mo_take_16 rfl (lv_at hl 3 rfl) ?_
  refine va_get (D := D) (ci := 13) (v := .int (nI 0)) (C := R_Mo) (T := F_Mo) (N := 54) hx hb hts i_Mo hown hK hP 0 rfl rfl 2 (by decide) (hts _ wd_1090) (fun _ h9 => h9) rfl d_Mo_take_17 ?_
  refine lv_icmp_ge (tgt := 84) hx hb d_Mo_take_20 rfl (fun h20 => ?_) (fun h9 => absurd (Int32.le_refl 0) h9)
  refine lv_aload_n hx hb d_Mo_take_84 rfl (lv_at hl 3 rfl) ?_
  refine lv_iconst (v := 0) hx hb d_Mo_take_85 (by decide) ?_
  refine lv_iload_n hx hb d_Mo_take_86 rfl (lv_at hl 2 rfl) ?_
  have hPc := hP.sub (ws' := [(h, .inr (13, mO r 0 (nI 0) le lv pg pn pl rs)), (r 1, .inl (cI, 9400, .inl tp))]) [0, 1] rfl
  have hKc := hK.sub (tys' := [(cI, .int)]) [0] rfl
  have hDc := hD.sub (ws' := [(h, .inr (13, mO r 0 (nI 0) le lv pg pn pl rs)), (r 1, .inl (cI, 9400, .inl tp))]) [0, 1] (by decide) rfl
  have hFc := va_free (wc := [(h, .inr (13, mO r 0 (nI 0) le lv pg pn pl rs)), (r 1, .inl (cI, 9400, .inl tp))]) hD hS hA [0, 1] rfl
  refine va_callv (va_runV (As := [.int (nI 0), .int (nI 0)]) (rest := []) ⟨hx, hb, hml, hown, hts⟩ (c_Mo_remove l D H.size cI h r 0 le lv pg pn pl rs 0 tp 0 0 (by omega) (by omega)) (z_cV hN wd_1277 wd_67 wd_1274 hd_Mo_remove rfl rfl ⟨Nat.le_of_ble_eq_true rfl, Nat.le_of_ble_eq_true rfl⟩ wd_1276 wd_28) (z_preVm (va_recv (ci := 13) (q0 := 0) hK hP rfl rfl) hPc hKc hN hDc) rfl rfl hl.1 rfl (lv_room (Nat.le_of_ble_eq_true rfl)) d_Mo_take_87 ⟨Nat.le_of_ble_eq_true rfl, Nat.le_of_ble_eq_true rfl⟩) hS (fun q _ h => hFc q h) hFc (fun u87 t H locs ht hvm e87 hB hz1 hk1 hS => ?_)
  obtain ⟨hP1, hK1, hD1⟩ := hB
  rw [ht] at hP1
  obtain ⟨hP, hD⟩ := va_join (wr := []) (w1 := [(h, .inr (13, mO r 0 (nI (0 - 0)) le lv pg pn pl rs)), (r 1, .inl (cI, 9400, .inl (rm_f tp 0 0 (0 - 0 - 0))))]) hP hD [0, 1] [] rfl rfl (by decide) (by decide) hk1 hFc hP1 hD1
  clear hk1 hP1 hD1 hFc hPc hDc hz1
  have hP : va_P D classes [(h, .inr (13, mO r 0 (nI (0 - 0)) le lv pg pn pl rs)), (r 1, .inl (cI, 9400, .inl (rm_f tp 0 0 (0 - 0 - 0))))] H := hP
  have hD : va_D A [(h, .inr (13, mO r 0 (nI (0 - 0)) le lv pg pn pl rs)), (r 1, .inl (cI, 9400, .inl (rm_f tp 0 0 (0 - 0 - 0))))] := hD
  refine lv_iload_n hx hb d_Mo_take_90 rfl (lv_at hl 1 rfl) ?_
  have hP9 := hP.sub (ws' := [(h, .inr (13, mO r 0 (nI (0 - 0)) le lv pg pn pl rs)), (r 1, .inl (cI, 9400, .inl (rm_f tp 0 0 (0 - 0 - 0))))]) [0, 1] rfl
  have hD9 := hD.sub (ws' := [(h, .inr (13, mO r 0 (nI (0 - 0)) le lv pg pn pl rs)), (r 1, .inl (cI, 9400, .inl (rm_f tp 0 0 (0 - 0 - 0))))]) [0, 1] (by decide) rfl
  have hK9 := hK.sub (tys' := [(cI, .int)]) [0] rfl
  exact W.iret (v := 0) hx hb hr (fun t ht hW => ⟨⟨_, (), rfl, rfl, ⟨by rw [ht]; exact hP9, va_K.moved hW.alike hK9, hD9⟩⟩, hS.F ht⟩) hS.2.2 d_Mo_take_91
