theorem wd_112 : (Jvm.Cond.fieldLinkNest "StreamSplitter$Tables" (73 : Nat) "StreamSplitter$Row" "size" "I" "StreamSplitter") ∈ lw_ok := List.mem_filter.mpr ⟨List.mem_of_getElem? (i := 112) (by decide +kernel), rfl⟩
theorem wd_278 : (Jvm.Cond.instanceMethod ({ cls := "StreamSplitter$Row", name := "bits", desc := "(II)J" } : Jvm.MethodName)) ∈ lw_ok := List.mem_filter.mpr ⟨List.mem_of_getElem? (i := 278) (by decide +kernel), rfl⟩
theorem wd_279 : (Jvm.Cond.selects "StreamSplitter$Row" ({ cls := "StreamSplitter$Row", name := "bits", desc := "(II)J" } : Jvm.MethodName) ({ cls := "StreamSplitter$Row", name := "bits", desc := "(II)J" } : Jvm.MethodName)) ∈ lw_ok := List.mem_filter.mpr ⟨List.mem_of_getElem? (i := 279) (by decide +kernel), rfl⟩
set_option maxRecDepth 100000 in
theorem wd_280 : (Jvm.Cond.code ({ cls := "StreamSplitter$Row", name := "bits", desc := "(II)J" } : Jvm.MethodName) prog_9_method_6_code (7 : Nat) (Option.some Jvm.ClassFile.FieldType.long)) ∈ lw_ok := List.mem_filter.mpr ⟨List.mem_of_getElem? (i := 280) (by rfl), rfl⟩
theorem wd_356 : (Jvm.Cond.methodLink "StreamSplitter$Piece" (1 : Nat) ({ cls := "java/lang/Object", name := "<init>", desc := "()V" } : Jvm.MethodName)) ∈ lw_ok := List.mem_filter.mpr ⟨List.mem_of_getElem? (i := 356) (by decide +kernel), rfl⟩
theorem wd_357 : (Jvm.Cond.fieldLink "StreamSplitter$Piece" (7 : Nat) "StreamSplitter$Piece" "open" "Z") ∈ lw_ok := List.mem_filter.mpr ⟨List.mem_of_getElem? (i := 357) (by decide +kernel), rfl⟩
theorem wd_360 : (Jvm.Cond.fieldLink "StreamSplitter$Piece" (13 : Nat) "StreamSplitter$Piece" "pid" "I") ∈ lw_ok := List.mem_filter.mpr ⟨List.mem_of_getElem? (i := 360) (by decide +kernel), rfl⟩
theorem wd_362 : (Jvm.Cond.fieldLink "StreamSplitter$Piece" (17 : Nat) "StreamSplitter$Piece" "kind" "I") ∈ lw_ok := List.mem_filter.mpr ⟨List.mem_of_getElem? (i := 362) (by decide +kernel), rfl⟩
theorem wd_364 : (Jvm.Cond.fieldLink "StreamSplitter$Piece" (20 : Nat) "StreamSplitter$Piece" "time" "J") ∈ lw_ok := List.mem_filter.mpr ⟨List.mem_of_getElem? (i := 364) (by decide +kernel), rfl⟩
theorem wd_366 : (Jvm.Cond.fieldLink "StreamSplitter$Piece" (24 : Nat) "StreamSplitter$Piece" "bytes" "I") ∈ lw_ok := List.mem_filter.mpr ⟨List.mem_of_getElem? (i := 366) (by decide +kernel), rfl⟩
theorem wd_368 : (Jvm.Cond.fieldLink "StreamSplitter$Piece" (27 : Nat) "StreamSplitter$Piece" "sum" "I") ∈ lw_ok := List.mem_filter.mpr ⟨List.mem_of_getElem? (i := 368) (by decide +kernel), rfl⟩
theorem wd_370 : (Jvm.Cond.fieldLink "StreamSplitter$Piece" (30 : Nat) "StreamSplitter$Piece" "due" "I") ∈ lw_ok := List.mem_filter.mpr ⟨List.mem_of_getElem? (i := 370) (by decide +kernel), rfl⟩
theorem wd_440 : (Jvm.Cond.methodLink "StreamSplitter$Order" (1 : Nat) ({ cls := "java/lang/Object", name := "<init>", desc := "()V" } : Jvm.MethodName)) ∈ lw_ok := List.mem_filter.mpr ⟨List.mem_of_getElem? (i := 440) (by decide +kernel), rfl⟩
theorem wd_441 : (Jvm.Cond.fieldLink "StreamSplitter$Order" (7 : Nat) "StreamSplitter$Order" "time" "J") ∈ lw_ok := List.mem_filter.mpr ⟨List.mem_of_getElem? (i := 441) (by decide +kernel), rfl⟩
theorem wd_444 : (Jvm.Cond.fieldLink "StreamSplitter$Order" (13 : Nat) "StreamSplitter$Order" "name" "I") ∈ lw_ok := List.mem_filter.mpr ⟨List.mem_of_getElem? (i := 444) (by decide +kernel), rfl⟩
theorem wd_447 : (Jvm.Cond.fieldLink "StreamSplitter$Order" (17 : Nat) "StreamSplitter$Order" "away" "Z") ∈ lw_ok := List.mem_filter.mpr ⟨List.mem_of_getElem? (i := 447) (by decide +kernel), rfl⟩
theorem wd_450 : (Jvm.Cond.fieldLink "StreamSplitter$Order" (21 : Nat) "StreamSplitter$Order" "length" "J") ∈ lw_ok := List.mem_filter.mpr ⟨List.mem_of_getElem? (i := 450) (by decide +kernel), rfl⟩
theorem wd_556 : (Jvm.Cond.methodLink "StreamSplitter$Tables" (51 : Nat) ({ cls := "StreamSplitter$Row", name := "at", desc := "(I)I" } : Jvm.MethodName)) ∈ lw_ok := List.mem_filter.mpr ⟨List.mem_of_getElem? (i := 556) (by decide +kernel), rfl⟩
theorem wd_560 : (Jvm.Cond.methodLink "StreamSplitter$Tables" (57 : Nat) ({ cls := "StreamSplitter$Row", name := "bit", desc := "(I)Z" } : Jvm.MethodName)) ∈ lw_ok := List.mem_filter.mpr ⟨List.mem_of_getElem? (i := 560) (by decide +kernel), rfl⟩
theorem wd_561 : (Jvm.Cond.instanceMethod ({ cls := "StreamSplitter$Row", name := "bit", desc := "(I)Z" } : Jvm.MethodName)) ∈ lw_ok := List.mem_filter.mpr ⟨List.mem_of_getElem? (i := 561) (by decide +kernel), rfl⟩
theorem wd_562 : (Jvm.Cond.selects "StreamSplitter$Row" ({ cls := "StreamSplitter$Row", name := "bit", desc := "(I)Z" } : Jvm.MethodName) ({ cls := "StreamSplitter$Row", name := "bit", desc := "(I)Z" } : Jvm.MethodName)) ∈ lw_ok := List.mem_filter.mpr ⟨List.mem_of_getElem? (i := 562) (by decide +kernel), rfl⟩
set_option maxRecDepth 100000 in
theorem wd_563 : (Jvm.Cond.code ({ cls := "StreamSplitter$Row", name := "bit", desc := "(I)Z" } : Jvm.MethodName) prog_9_method_7_code (2 : Nat) (Option.some Jvm.ClassFile.FieldType.boolean)) ∈ lw_ok := List.mem_filter.mpr ⟨List.mem_of_getElem? (i := 563) (by rfl), rfl⟩
theorem wd_564 : (Jvm.Cond.methodLink "StreamSplitter$Tables" (61 : Nat) ({ cls := "StreamSplitter$Row", name := "bits", desc := "(II)J" } : Jvm.MethodName)) ∈ lw_ok := List.mem_filter.mpr ⟨List.mem_of_getElem? (i := 564) (by decide +kernel), rfl⟩
theorem wd_633 : (Jvm.Cond.methodLink "StreamSplitter$Stream" (1 : Nat) ({ cls := "java/lang/Object", name := "<init>", desc := "()V" } : Jvm.MethodName)) ∈ lw_ok := List.mem_filter.mpr ⟨List.mem_of_getElem? (i := 633) (by decide +kernel), rfl⟩
theorem wd_634 : (Jvm.Cond.fieldLink "StreamSplitter$Stream" (7 : Nat) "StreamSplitter$Stream" "type" "I") ∈ lw_ok := List.mem_filter.mpr ⟨List.mem_of_getElem? (i := 634) (by decide +kernel), rfl⟩
theorem wd_638 : (Jvm.Cond.fieldLink "StreamSplitter$Stream" (13 : Nat) "StreamSplitter$Stream" "pid" "I") ∈ lw_ok := List.mem_filter.mpr ⟨List.mem_of_getElem? (i := 638) (by decide +kernel), rfl⟩
theorem hd_Row_bit : y_Row_bit.cls ≠ "java/lang/invoke/MethodHandle" ∧ y_Row_bit.cls ≠ "java/lang/invoke/VarHandle" ∧ (parseMethodDescriptor y_Row_bit.desc).map (fun d => d.parameters.length) = some 1 := by decide +kernel
theorem hd_Row_bits : y_Row_bits.cls ≠ "java/lang/invoke/MethodHandle" ∧ y_Row_bits.cls ≠ "java/lang/invoke/VarHandle" ∧ (parseMethodDescriptor y_Row_bits.desc).map (fun d => d.parameters.length) = some 2 := by decide +kernel
theorem d_Order_init_0 : decode b_Order_init 0 = .ok (.aload_n 0, 1) := by decide +kernel
theorem d_Order_init_1 : decode b_Order_init 1 = .ok (.invokespecial 1, 3) := by decide +kernel
theorem d_Order_init_4 : decode b_Order_init 4 = .ok (.aload_n 0, 1) := by decide +kernel
theorem d_Order_init_5 : decode b_Order_init 5 = .ok (.lload_n 1, 1) := by decide +kernel
theorem d_Order_init_6 : decode b_Order_init 6 = .ok (.putfield 7, 3) := by decide +kernel
theorem d_Order_init_9 : decode b_Order_init 9 = .ok (.aload_n 0, 1) := by decide +kernel
theorem d_Order_init_10 : decode b_Order_init 10 = .ok (.iload_n 3, 1) := by decide +kernel
theorem d_Order_init_11 : decode b_Order_init 11 = .ok (.putfield 13, 3) := by decide +kernel
theorem d_Order_init_14 : decode b_Order_init 14 = .ok (.aload_n 0, 1) := by decide +kernel
theorem d_Order_init_15 : decode b_Order_init 15 = .ok (.iload 4, 2) := by decide +kernel
theorem d_Order_init_17 : decode b_Order_init 17 = .ok (.putfield 17, 3) := by decide +kernel
theorem d_Order_init_20 : decode b_Order_init 20 = .ok (.aload_n 0, 1) := by decide +kernel
theorem d_Order_init_21 : decode b_Order_init 21 = .ok (.lload 5, 2) := by decide +kernel
theorem d_Order_init_23 : decode b_Order_init 23 = .ok (.putfield 21, 3) := by decide +kernel
theorem d_Order_init_26 : decode b_Order_init 26 = .ok (.return_, 1) := by decide +kernel
theorem d_Piece_add_0 : decode b_Piece_add 0 = .ok (.aload_n 0, 1) := by decide +kernel
theorem d_Piece_add_1 : decode b_Piece_add 1 = .ok (.dup, 1) := by decide +kernel
theorem d_Piece_add_2 : decode b_Piece_add 2 = .ok (.getfield 24, 3) := by decide +kernel
theorem d_Piece_add_5 : decode b_Piece_add 5 = .ok (.iconst 1, 1) := by decide +kernel
theorem d_Piece_add_6 : decode b_Piece_add 6 = .ok (.iadd, 1) := by decide +kernel
theorem d_Piece_add_7 : decode b_Piece_add 7 = .ok (.putfield 24, 3) := by decide +kernel
theorem d_Piece_add_10 : decode b_Piece_add 10 = .ok (.aload_n 0, 1) := by decide +kernel
theorem d_Piece_add_11 : decode b_Piece_add 11 = .ok (.bipush 31, 2) := by decide +kernel
theorem d_Piece_add_13 : decode b_Piece_add 13 = .ok (.aload_n 0, 1) := by decide +kernel
theorem d_Piece_add_14 : decode b_Piece_add 14 = .ok (.getfield 27, 3) := by decide +kernel
theorem d_Piece_add_17 : decode b_Piece_add 17 = .ok (.imul, 1) := by decide +kernel
theorem d_Piece_add_18 : decode b_Piece_add 18 = .ok (.iload_n 1, 1) := by decide +kernel
theorem d_Piece_add_19 : decode b_Piece_add 19 = .ok (.iadd, 1) := by decide +kernel
theorem d_Piece_add_20 : decode b_Piece_add 20 = .ok (.putfield 27, 3) := by decide +kernel
theorem d_Piece_add_23 : decode b_Piece_add 23 = .ok (.aload_n 0, 1) := by decide +kernel
theorem d_Piece_add_24 : decode b_Piece_add 24 = .ok (.getfield 30, 3) := by decide +kernel
theorem d_Piece_add_27 : decode b_Piece_add 27 = .ok (.ifCond .le 13, 3) := by decide +kernel
theorem d_Piece_add_30 : decode b_Piece_add 30 = .ok (.aload_n 0, 1) := by decide +kernel
theorem d_Piece_add_31 : decode b_Piece_add 31 = .ok (.dup, 1) := by decide +kernel
theorem d_Piece_add_32 : decode b_Piece_add 32 = .ok (.getfield 30, 3) := by decide +kernel
theorem d_Piece_add_35 : decode b_Piece_add 35 = .ok (.iconst 1, 1) := by decide +kernel
theorem d_Piece_add_36 : decode b_Piece_add 36 = .ok (.isub, 1) := by decide +kernel
theorem d_Piece_add_37 : decode b_Piece_add 37 = .ok (.putfield 30, 3) := by decide +kernel
theorem d_Piece_add_40 : decode b_Piece_add 40 = .ok (.return_, 1) := by decide +kernel
theorem d_Piece_begin_0 : decode b_Piece_begin 0 = .ok (.aload_n 0, 1) := by decide +kernel
theorem d_Piece_begin_1 : decode b_Piece_begin 1 = .ok (.iconst 1, 1) := by decide +kernel
theorem d_Piece_begin_2 : decode b_Piece_begin 2 = .ok (.putfield 7, 3) := by decide +kernel
theorem d_Piece_begin_5 : decode b_Piece_begin 5 = .ok (.aload_n 0, 1) := by decide +kernel
theorem d_Piece_begin_6 : decode b_Piece_begin 6 = .ok (.iload_n 1, 1) := by decide +kernel
theorem d_Piece_begin_7 : decode b_Piece_begin 7 = .ok (.putfield 13, 3) := by decide +kernel
theorem d_Piece_begin_10 : decode b_Piece_begin 10 = .ok (.aload_n 0, 1) := by decide +kernel
theorem d_Piece_begin_11 : decode b_Piece_begin 11 = .ok (.iload_n 2, 1) := by decide +kernel
theorem d_Piece_begin_12 : decode b_Piece_begin 12 = .ok (.putfield 17, 3) := by decide +kernel
theorem d_Piece_begin_15 : decode b_Piece_begin 15 = .ok (.aload_n 0, 1) := by decide +kernel
theorem d_Piece_begin_16 : decode b_Piece_begin 16 = .ok (.lload_n 3, 1) := by decide +kernel
theorem d_Piece_begin_17 : decode b_Piece_begin 17 = .ok (.putfield 20, 3) := by decide +kernel
theorem d_Piece_begin_20 : decode b_Piece_begin 20 = .ok (.aload_n 0, 1) := by decide +kernel
theorem d_Piece_begin_21 : decode b_Piece_begin 21 = .ok (.iconst 0, 1) := by decide +kernel
theorem d_Piece_begin_22 : decode b_Piece_begin 22 = .ok (.putfield 24, 3) := by decide +kernel
theorem d_Piece_begin_25 : decode b_Piece_begin 25 = .ok (.aload_n 0, 1) := by decide +kernel
theorem d_Piece_begin_26 : decode b_Piece_begin 26 = .ok (.iconst 0, 1) := by decide +kernel
theorem d_Piece_begin_27 : decode b_Piece_begin 27 = .ok (.putfield 27, 3) := by decide +kernel
theorem d_Piece_begin_30 : decode b_Piece_begin 30 = .ok (.aload_n 0, 1) := by decide +kernel
theorem d_Piece_begin_31 : decode b_Piece_begin 31 = .ok (.iload 5, 2) := by decide +kernel
theorem d_Piece_begin_33 : decode b_Piece_begin 33 = .ok (.putfield 30, 3) := by decide +kernel
theorem d_Piece_begin_36 : decode b_Piece_begin 36 = .ok (.return_, 1) := by decide +kernel
theorem d_Piece_copy_0 : decode b_Piece_copy 0 = .ok (.aload_n 0, 1) := by decide +kernel
theorem d_Piece_copy_1 : decode b_Piece_copy 1 = .ok (.aload_n 1, 1) := by decide +kernel
theorem d_Piece_copy_2 : decode b_Piece_copy 2 = .ok (.getfield 13, 3) := by decide +kernel
theorem d_Piece_copy_5 : decode b_Piece_copy 5 = .ok (.putfield 13, 3) := by decide +kernel
theorem d_Piece_copy_8 : decode b_Piece_copy 8 = .ok (.aload_n 0, 1) := by decide +kernel
theorem d_Piece_copy_9 : decode b_Piece_copy 9 = .ok (.aload_n 1, 1) := by decide +kernel
theorem d_Piece_copy_10 : decode b_Piece_copy 10 = .ok (.getfield 17, 3) := by decide +kernel
theorem d_Piece_copy_13 : decode b_Piece_copy 13 = .ok (.putfield 17, 3) := by decide +kernel
theorem d_Piece_copy_16 : decode b_Piece_copy 16 = .ok (.aload_n 0, 1) := by decide +kernel
theorem d_Piece_copy_17 : decode b_Piece_copy 17 = .ok (.aload_n 1, 1) := by decide +kernel
theorem d_Piece_copy_18 : decode b_Piece_copy 18 = .ok (.getfield 20, 3) := by decide +kernel
theorem d_Piece_copy_21 : decode b_Piece_copy 21 = .ok (.putfield 20, 3) := by decide +kernel
theorem d_Piece_copy_24 : decode b_Piece_copy 24 = .ok (.aload_n 0, 1) := by decide +kernel
theorem d_Piece_copy_25 : decode b_Piece_copy 25 = .ok (.aload_n 1, 1) := by decide +kernel
theorem d_Piece_copy_26 : decode b_Piece_copy 26 = .ok (.getfield 24, 3) := by decide +kernel
theorem d_Piece_copy_29 : decode b_Piece_copy 29 = .ok (.putfield 24, 3) := by decide +kernel
theorem d_Piece_copy_32 : decode b_Piece_copy 32 = .ok (.aload_n 0, 1) := by decide +kernel
theorem d_Piece_copy_33 : decode b_Piece_copy 33 = .ok (.aload_n 1, 1) := by decide +kernel
theorem d_Piece_copy_34 : decode b_Piece_copy 34 = .ok (.getfield 27, 3) := by decide +kernel
theorem d_Piece_copy_37 : decode b_Piece_copy 37 = .ok (.putfield 27, 3) := by decide +kernel
theorem d_Piece_copy_40 : decode b_Piece_copy 40 = .ok (.return_, 1) := by decide +kernel
theorem d_Piece_init_0 : decode b_Piece_init 0 = .ok (.aload_n 0, 1) := by decide +kernel
theorem d_Piece_init_1 : decode b_Piece_init 1 = .ok (.invokespecial 1, 3) := by decide +kernel
theorem d_Piece_init_4 : decode b_Piece_init 4 = .ok (.return_, 1) := by decide +kernel
theorem d_Stream_init_0 : decode b_Stream_init 0 = .ok (.aload_n 0, 1) := by decide +kernel
theorem d_Stream_init_1 : decode b_Stream_init 1 = .ok (.invokespecial 1, 3) := by decide +kernel
theorem d_Stream_init_4 : decode b_Stream_init 4 = .ok (.aload_n 0, 1) := by decide +kernel
theorem d_Stream_init_5 : decode b_Stream_init 5 = .ok (.iload_n 1, 1) := by decide +kernel
theorem d_Stream_init_6 : decode b_Stream_init 6 = .ok (.putfield 7, 3) := by decide +kernel
theorem d_Stream_init_9 : decode b_Stream_init 9 = .ok (.aload_n 0, 1) := by decide +kernel
theorem d_Stream_init_10 : decode b_Stream_init 10 = .ok (.iload_n 2, 1) := by decide +kernel
theorem d_Stream_init_11 : decode b_Stream_init 11 = .ok (.putfield 13, 3) := by decide +kernel
theorem d_Stream_init_14 : decode b_Stream_init 14 = .ok (.return_, 1) := by decide +kernel
theorem d_Tables_isOrder_0 : decode b_Tables_isOrder 0 = .ok (.aload_n 0, 1) := by decide +kernel
theorem d_Tables_isOrder_1 : decode b_Tables_isOrder 1 = .ok (.iconst 0, 1) := by decide +kernel
theorem d_Tables_isOrder_2 : decode b_Tables_isOrder 2 = .ok (.invokevirtual 51, 3) := by decide +kernel
theorem d_Tables_isOrder_5 : decode b_Tables_isOrder 5 = .ok (.sipush 252, 3) := by decide +kernel
theorem d_Tables_isOrder_8 : decode b_Tables_isOrder 8 = .ok (.if_icmp .ne 43, 3) := by decide +kernel
theorem d_Tables_isOrder_11 : decode b_Tables_isOrder 11 = .ok (.aload_n 0, 1) := by decide +kernel
theorem d_Tables_isOrder_12 : decode b_Tables_isOrder 12 = .ok (.iconst 3, 1) := by decide +kernel
theorem d_Tables_isOrder_13 : decode b_Tables_isOrder 13 = .ok (.invokevirtual 51, 3) := by decide +kernel
theorem d_Tables_isOrder_16 : decode b_Tables_isOrder 16 = .ok (.ifCond .ne 35, 3) := by decide +kernel
theorem d_Tables_isOrder_19 : decode b_Tables_isOrder 19 = .ok (.aload_n 0, 1) := by decide +kernel
theorem d_Tables_isOrder_20 : decode b_Tables_isOrder 20 = .ok (.bipush 32, 2) := by decide +kernel
theorem d_Tables_isOrder_22 : decode b_Tables_isOrder 22 = .ok (.invokevirtual 57, 3) := by decide +kernel
theorem d_Tables_isOrder_25 : decode b_Tables_isOrder 25 = .ok (.ifCond .ne 26, 3) := by decide +kernel
theorem d_Tables_isOrder_28 : decode b_Tables_isOrder 28 = .ok (.aload_n 0, 1) := by decide +kernel
theorem d_Tables_isOrder_29 : decode b_Tables_isOrder 29 = .ok (.bipush 13, 2) := by decide +kernel
theorem d_Tables_isOrder_31 : decode b_Tables_isOrder 31 = .ok (.invokevirtual 51, 3) := by decide +kernel
theorem d_Tables_isOrder_34 : decode b_Tables_isOrder 34 = .ok (.iconst 5, 1) := by decide +kernel
theorem d_Tables_isOrder_35 : decode b_Tables_isOrder 35 = .ok (.if_icmp .ne 16, 3) := by decide +kernel
theorem d_Tables_isOrder_38 : decode b_Tables_isOrder 38 = .ok (.aload_n 0, 1) := by decide +kernel
theorem d_Tables_isOrder_39 : decode b_Tables_isOrder 39 = .ok (.getfield 73, 3) := by decide +kernel
theorem d_Tables_isOrder_42 : decode b_Tables_isOrder 42 = .ok (.bipush 19, 2) := by decide +kernel
theorem d_Tables_isOrder_44 : decode b_Tables_isOrder 44 = .ok (.if_icmp .lt 7, 3) := by decide +kernel
theorem d_Tables_isOrder_47 : decode b_Tables_isOrder 47 = .ok (.iconst 1, 1) := by decide +kernel
theorem d_Tables_isOrder_48 : decode b_Tables_isOrder 48 = .ok (.goto 4, 3) := by decide +kernel
theorem d_Tables_isOrder_51 : decode b_Tables_isOrder 51 = .ok (.iconst 0, 1) := by decide +kernel
theorem d_Tables_isOrder_52 : decode b_Tables_isOrder 52 = .ok (.ireturn, 1) := by decide +kernel
theorem d_Tables_isTable_0 : decode b_Tables_isTable 0 = .ok (.aload_n 0, 1) := by decide +kernel
theorem d_Tables_isTable_1 : decode b_Tables_isTable 1 = .ok (.iconst 0, 1) := by decide +kernel
theorem d_Tables_isTable_2 : decode b_Tables_isTable 2 = .ok (.invokevirtual 51, 3) := by decide +kernel
theorem d_Tables_isTable_5 : decode b_Tables_isTable 5 = .ok (.iload_n 1, 1) := by decide +kernel
theorem d_Tables_isTable_6 : decode b_Tables_isTable 6 = .ok (.if_icmp .ne 29, 3) := by decide +kernel
theorem d_Tables_isTable_9 : decode b_Tables_isTable 9 = .ok (.aload_n 0, 1) := by decide +kernel
theorem d_Tables_isTable_10 : decode b_Tables_isTable 10 = .ok (.bipush 47, 2) := by decide +kernel
theorem d_Tables_isTable_12 : decode b_Tables_isTable 12 = .ok (.invokevirtual 57, 3) := by decide +kernel
theorem d_Tables_isTable_15 : decode b_Tables_isTable 15 = .ok (.ifCond .eq 20, 3) := by decide +kernel
theorem d_Tables_isTable_18 : decode b_Tables_isTable 18 = .ok (.aload_n 0, 1) := by decide +kernel
theorem d_Tables_isTable_19 : decode b_Tables_isTable 19 = .ok (.bipush 48, 2) := by decide +kernel
theorem d_Tables_isTable_21 : decode b_Tables_isTable 21 = .ok (.bipush 16, 2) := by decide +kernel
theorem d_Tables_isTable_23 : decode b_Tables_isTable 23 = .ok (.invokevirtual 61, 3) := by decide +kernel
theorem d_Tables_isTable_26 : decode b_Tables_isTable 26 = .ok (.lconst 0, 1) := by decide +kernel
theorem d_Tables_isTable_27 : decode b_Tables_isTable 27 = .ok (.lcmp, 1) := by decide +kernel
theorem d_Tables_isTable_28 : decode b_Tables_isTable 28 = .ok (.ifCond .ne 7, 3) := by decide +kernel
theorem d_Tables_isTable_31 : decode b_Tables_isTable 31 = .ok (.iconst 1, 1) := by decide +kernel
theorem d_Tables_isTable_32 : decode b_Tables_isTable 32 = .ok (.goto 4, 3) := by decide +kernel
theorem d_Tables_isTable_35 : decode b_Tables_isTable 35 = .ok (.iconst 0, 1) := by decide +kernel
theorem d_Tables_isTable_36 : decode b_Tables_isTable 36 = .ok (.ireturn, 1) := by decide +kernel
theorem d_Tables_versionOf_0 : decode b_Tables_versionOf 0 = .ok (.aload_n 0, 1) := by decide +kernel
theorem d_Tables_versionOf_1 : decode b_Tables_versionOf 1 = .ok (.iconst 5, 1) := by decide +kernel
theorem d_Tables_versionOf_2 : decode b_Tables_versionOf 2 = .ok (.invokevirtual 51, 3) := by decide +kernel
theorem d_Tables_versionOf_5 : decode b_Tables_versionOf 5 = .ok (.iconst 1, 1) := by decide +kernel
theorem d_Tables_versionOf_6 : decode b_Tables_versionOf 6 = .ok (.ishr, 1) := by decide +kernel
theorem d_Tables_versionOf_7 : decode b_Tables_versionOf 7 = .ok (.bipush 31, 2) := by decide +kernel
theorem d_Tables_versionOf_9 : decode b_Tables_versionOf 9 = .ok (.iand, 1) := by decide +kernel
theorem d_Tables_versionOf_10 : decode b_Tables_versionOf 10 = .ok (.ireturn, 1) := by decide +kernel
/-! The small methods of pieces, orders, streams and tables -/

set_option maxHeartbeats 4000000 in
set_option maxRecDepth 100000 in
theorem c_Order_init (l : Launch) (D : va_G) (sz : Nat) (h : Nat) (t0 l0 : Int64) (nm a0 : Int32) (ha0 : a0 = 0 ∨ a0 = 1) : Met l y_Order_init [Cond.code y_Order_init b_Order_init 7 none] ({ frames := 1, cells := 0, slots := 0, locals := 12 }) (zM [.ref h, .long t0, .int nm, .int a0, .long l0] D [(h, .inr (6, [.long 0, .int 0, .int 0, .long 0]))] [] sz) (va_Qv (fun (_ : Unit) => True) (fun (_u : Unit) t => zW D (va_A [(h, .inr (6, [.long 0, .int 0, .int 0, .long 0]))] sz) [(h, .inr (6, [.long t0, .int nm, .int a0, .long l0]))] [] t) (va_A [(h, .inr (6, [.long 0, .int 0, .int 0, .long 0]))] sz)) 0 0 (va_A [(h, .inr (6, [.long 0, .int 0, .int 0, .long 0]))] sz) := by
  refine Met.ofW (cc := b_Order_init) (maxL := 7) (ret := none) (by decide) rfl ?_
  intro p e s m args below meth cd s₁ Bd hml hv
  obtain ⟨rfl, hsz, hP, hK, hN, hD0⟩ := hv
  have hx := Bd.exec
  have hb := Bd.bytes
  have hr := Bd.returns
  have hts := hN.use (a := ([.ref h, .long t0, .int nm, .int a0, .long l0]).toArray)
  have hown : s.vm.findClass R_Order = some m.cls := findClass_of_methodNamed Bd.named
  have hlocks := Bd.notSynchronized
  have hin : meth.name = "<init>" := (name_of_methodNamed Bd.named Bd.method).1
  subst hsz
  have hD := hD0.self (sz := s.heap.size)
  clear hD0
  have hA : ∀ q : Nat, s.heap.size ≤ q → va_A [(h, .inr (6, [.long 0, .int 0, .int 0, .long 0]))] s.heap.size q := fun q h => Or.inr h
  have hS : va_S (va_A [(h, .inr (6, [.long 0, .int 0, .int 0, .long 0]))] s.heap.size) s.heap s.heap [] := va_S.rf
  generalize hAe : va_A [(h, .inr (6, [.long 0, .int 0, .int 0, .long 0]))] s.heap.size = A at hD hA hS ⊢
  have hP : va_P D classes [(h, .inr (6, [.long 0, .int 0, .int 0, .long 0]))] s.heap := hP
  have hl := lv_entry ([.ref h, .long t0, .int nm, .int a0, .long l0]) (n := 7) (Nat.le_of_ble_eq_true rfl)
  rw [lg_entry_eq]
  generalize (lg_sl ([.ref h, .long t0, .int nm, .int a0, .long l0]) ++ List.replicate (7 - (lg_sl ([.ref h, .long t0, .int nm, .int a0, .long l0])).length) Slot.unset).toArray = ls at hl ⊢
  have hl : lv_has ls 7 [(0, .ref h), (1, .long t0), (3, .int nm), (4, .int a0), (5, .long l0)] := hl
  refine lv_aload_n hx hb d_Order_init_0 rfl (lv_at hl 0 rfl) ?_
  refine W.objInit hx hb hown (hts _ wd_440) (hts _ wd_92) (hts _ wd_93) rfl (by rw [hml]; exact hl.1) rfl d_Order_init_1 (Nat.le_of_ble_eq_true rfl) (Nat.le_of_ble_eq_true rfl) ?_
  refine W.eq (g2 := F0 m 4 ls []) rfl ?_
  refine lv_aload_n hx hb d_Order_init_4 rfl (lv_at hl 0 rfl) ?_
  refine lv_lload_n hx hb d_Order_init_5 rfl (lv_at hl 1 rfl) ?_
  refine va_putF (D := D) (ci := 6) (v := .long t0) (ty := .long) (C := R_Order) (T := F_Order) (N := 4) hx hb hts i_Order t_Order t_Order_ok n_Order hown hK hP hD hS 0 rfl rfl 0 (by decide) (hts _ wd_441) (fun _ h9 => h9) rfl hin rfl (by decide +kernel) rfl rfl (Nat.le_of_ble_eq_true rfl) d_Order_init_6 (fun H locs hP hD hS => ?_)
  have hP : va_P D classes [(h, .inr (6, [.long t0, .int 0, .int 0, .long 0]))] H := hP
  have hD : va_D A [(h, .inr (6, [.long t0, .int 0, .int 0, .long 0]))] := hD
  refine lv_aload_n hx hb d_Order_init_9 rfl (lv_at hl 0 rfl) ?_
  refine lv_iload_n hx hb d_Order_init_10 rfl (lv_at hl 2 rfl) ?_
  refine va_putF (D := D) (ci := 6) (v := .int nm) (ty := .int) (C := R_Order) (T := F_Order) (N := 4) hx hb hts i_Order t_Order t_Order_ok n_Order hown hK hP hD hS 0 rfl rfl 1 (by decide) (hts _ wd_444) (fun _ h9 => h9) rfl hin rfl (by decide +kernel) rfl rfl (Nat.le_of_ble_eq_true rfl) d_Order_init_11 (fun H locs hP hD hS => ?_)
  have hP : va_P D classes [(h, .inr (6, [.long t0, .int nm, .int 0, .long 0]))] H := hP
  have hD : va_D A [(h, .inr (6, [.long t0, .int nm, .int 0, .long 0]))] := hD
  refine lv_aload_n hx hb d_Order_init_14 rfl (lv_at hl 0 rfl) ?_
  refine lv_iload hx hb d_Order_init_15 (lv_at hl 3 rfl) ?_
  refine va_putF (D := D) (ci := 6) (v := .int a0) (ty := .boolean) (C := R_Order) (T := F_Order) (N := 4) hx hb hts i_Order t_Order t_Order_ok n_Order hown hK hP hD hS 0 rfl rfl 2 (by decide) (hts _ wd_447) (fun _ h9 => h9) rfl hin rfl (by decide +kernel) (by rcases ha0 with q9 | q9 <;> subst q9 <;> rfl) (by rcases ha0 with q9 | q9 <;> subst q9 <;> rfl) (Nat.le_of_ble_eq_true rfl) d_Order_init_17 (fun H locs hP hD hS => ?_)
  have hP : va_P D classes [(h, .inr (6, [.long t0, .int nm, .int a0, .long 0]))] H := hP
  have hD : va_D A [(h, .inr (6, [.long t0, .int nm, .int a0, .long 0]))] := hD
  refine lv_aload_n hx hb d_Order_init_20 rfl (lv_at hl 0 rfl) ?_
  refine lv_lload hx hb d_Order_init_21 (lv_at hl 4 rfl) ?_
  refine va_putF (D := D) (ci := 6) (v := .long l0) (ty := .long) (C := R_Order) (T := F_Order) (N := 4) hx hb hts i_Order t_Order t_Order_ok n_Order hown hK hP hD hS 0 rfl rfl 3 (by decide) (hts _ wd_450) (fun _ h9 => h9) rfl hin rfl (by decide +kernel) rfl rfl (Nat.le_of_ble_eq_true rfl) d_Order_init_23 (fun H locs hP hD hS => ?_)
  have hP : va_P D classes [(h, .inr (6, [.long t0, .int nm, .int a0, .long l0]))] H := hP
  have hD : va_D A [(h, .inr (6, [.long t0, .int nm, .int a0, .long l0]))] := hD
  have hP9 := hP.sub (ws' := [(h, .inr (6, [.long t0, .int nm, .int a0, .long l0]))]) [0] rfl
  have hD9 := hD.sub (ws' := [(h, .inr (6, [.long t0, .int nm, .int a0, .long l0]))]) [0] (by decide) rfl
  have hK9 := hK.sub (tys' := []) [] rfl
  exact W.vret hx hb hr (fun t ht hW => ⟨⟨(), rfl, trivial, ⟨by rw [ht]; exact hP9, va_K.moved hW.alike hK9, hD9⟩⟩, hS.F ht⟩) hS.2.2 d_Order_init_26
set_option maxHeartbeats 4000000 in
set_option maxRecDepth 100000 in
theorem c_Stream_init (l : Launch) (D : va_G) (sz : Nat) (h : Nat) (x y : Int32)  : Met l y_Stream_init [Cond.code y_Stream_init b_Stream_init 3 none] ({ frames := 1, cells := 0, slots := 0, locals := 12 }) (zM [.ref h, .int x, .int y] D [(h, .inr (5, [.int 0, .int 0]))] [] sz) (va_Qv (fun (_ : Unit) => True) (fun (_u : Unit) t => zW D (va_A [(h, .inr (5, [.int 0, .int 0]))] sz) [(h, .inr (5, [.int x, .int y]))] [] t) (va_A [(h, .inr (5, [.int 0, .int 0]))] sz)) 0 0 (va_A [(h, .inr (5, [.int 0, .int 0]))] sz) := by
  refine Met.ofW (cc := b_Stream_init) (maxL := 3) (ret := none) (by decide) rfl ?_
  intro p e s m args below meth cd s₁ Bd hml hv
  obtain ⟨rfl, hsz, hP, hK, hN, hD0⟩ := hv
  have hx := Bd.exec
  have hb := Bd.bytes
  have hr := Bd.returns
  have hts := hN.use (a := ([.ref h, .int x, .int y]).toArray)
  have hown : s.vm.findClass R_Stream = some m.cls := findClass_of_methodNamed Bd.named
  have hlocks := Bd.notSynchronized
  have hin : meth.name = "<init>" := (name_of_methodNamed Bd.named Bd.method).1
  subst hsz
  have hD := hD0.self (sz := s.heap.size)
  clear hD0
  have hA : ∀ q : Nat, s.heap.size ≤ q → va_A [(h, .inr (5, [.int 0, .int 0]))] s.heap.size q := fun q h => Or.inr h
  have hS : va_S (va_A [(h, .inr (5, [.int 0, .int 0]))] s.heap.size) s.heap s.heap [] := va_S.rf
  generalize hAe : va_A [(h, .inr (5, [.int 0, .int 0]))] s.heap.size = A at hD hA hS ⊢
  have hP : va_P D classes [(h, .inr (5, [.int 0, .int 0]))] s.heap := hP
  have hl := lv_entry ([.ref h, .int x, .int y]) (n := 3) (Nat.le_of_ble_eq_true rfl)
  rw [lg_entry_eq]
  generalize (lg_sl ([.ref h, .int x, .int y]) ++ List.replicate (3 - (lg_sl ([.ref h, .int x, .int y])).length) Slot.unset).toArray = ls at hl ⊢
  have hl : lv_has ls 3 [(0, .ref h), (1, .int x), (2, .int y)] := hl
  refine lv_aload_n hx hb d_Stream_init_0 rfl (lv_at hl 0 rfl) ?_
  refine W.objInit hx hb hown (hts _ wd_633) (hts _ wd_92) (hts _ wd_93) rfl (by rw [hml]; exact hl.1) rfl d_Stream_init_1 (Nat.le_of_ble_eq_true rfl) (Nat.le_of_ble_eq_true rfl) ?_
  refine W.eq (g2 := F0 m 4 ls []) rfl ?_
  refine lv_aload_n hx hb d_Stream_init_4 rfl (lv_at hl 0 rfl) ?_
  refine lv_iload_n hx hb d_Stream_init_5 rfl (lv_at hl 1 rfl) ?_
  refine va_putF (D := D) (ci := 5) (v := .int x) (ty := .int) (C := R_Stream) (T := F_Stream) (N := 2) hx hb hts i_Stream t_Stream t_Stream_ok n_Stream hown hK hP hD hS 0 rfl rfl 0 (by decide) (hts _ wd_634) (fun _ h9 => h9) rfl hin rfl (by decide +kernel) rfl rfl (Nat.le_of_ble_eq_true rfl) d_Stream_init_6 (fun H locs hP hD hS => ?_)
  have hP : va_P D classes [(h, .inr (5, [.int x, .int 0]))] H := hP
  have hD : va_D A [(h, .inr (5, [.int x, .int 0]))] := hD
  refine lv_aload_n hx hb d_Stream_init_9 rfl (lv_at hl 0 rfl) ?_
  refine lv_iload_n hx hb d_Stream_init_10 rfl (lv_at hl 2 rfl) ?_
  refine va_putF (D := D) (ci := 5) (v := .int y) (ty := .int) (C := R_Stream) (T := F_Stream) (N := 2) hx hb hts i_Stream t_Stream t_Stream_ok n_Stream hown hK hP hD hS 0 rfl rfl 1 (by decide) (hts _ wd_638) (fun _ h9 => h9) rfl hin rfl (by decide +kernel) rfl rfl (Nat.le_of_ble_eq_true rfl) d_Stream_init_11 (fun H locs hP hD hS => ?_)
  have hP : va_P D classes [(h, .inr (5, [.int x, .int y]))] H := hP
  have hD : va_D A [(h, .inr (5, [.int x, .int y]))] := hD
  have hP9 := hP.sub (ws' := [(h, .inr (5, [.int x, .int y]))]) [0] rfl
  have hD9 := hD.sub (ws' := [(h, .inr (5, [.int x, .int y]))]) [0] (by decide) rfl
  have hK9 := hK.sub (tys' := []) [] rfl
  exact W.vret hx hb hr (fun t ht hW => ⟨⟨(), rfl, trivial, ⟨by rw [ht]; exact hP9, va_K.moved hW.alike hK9, hD9⟩⟩, hS.F ht⟩) hS.2.2 d_Stream_init_14
set_option maxHeartbeats 4000000 in
set_option maxRecDepth 100000 in
theorem c_Piece_init (l : Launch) (D : va_G) (sz : Nat) (h : Nat) (op pi kd by9 su du : Int32) (t0 : Int64)  : Met l y_Piece_init [Cond.code y_Piece_init b_Piece_init 1 none] ({ frames := 1, cells := 0, slots := 0, locals := 12 }) (zM [.ref h] D [(h, .inr (3, [.int op, .int pi, .int kd, .long t0, .int by9, .int su, .int du]))] [] sz) (va_Qv (fun (_ : Unit) => True) (fun (_u : Unit) t => zW D (va_A [(h, .inr (3, [.int op, .int pi, .int kd, .long t0, .int by9, .int su, .int du]))] sz) [(h, .inr (3, [.int op, .int pi, .int kd, .long t0, .int by9, .int su, .int du]))] [] t) (va_A [(h, .inr (3, [.int op, .int pi, .int kd, .long t0, .int by9, .int su, .int du]))] sz)) 0 0 (va_A [(h, .inr (3, [.int op, .int pi, .int kd, .long t0, .int by9, .int su, .int du]))] sz) := by
  refine Met.ofW (cc := b_Piece_init) (maxL := 1) (ret := none) (by decide) rfl ?_
  intro p e s m args below meth cd s₁ Bd hml hv
  obtain ⟨rfl, hsz, hP, hK, hN, hD0⟩ := hv
  have hx := Bd.exec
  have hb := Bd.bytes
  have hr := Bd.returns
  have hts := hN.use (a := ([.ref h]).toArray)
  have hown : s.vm.findClass R_Piece = some m.cls := findClass_of_methodNamed Bd.named
  have hlocks := Bd.notSynchronized
  have hin : meth.name = "<init>" := (name_of_methodNamed Bd.named Bd.method).1
  subst hsz
  have hD := hD0.self (sz := s.heap.size)
  clear hD0
  have hA : ∀ q : Nat, s.heap.size ≤ q → va_A [(h, .inr (3, [.int op, .int pi, .int kd, .long t0, .int by9, .int su, .int du]))] s.heap.size q := fun q h => Or.inr h
  have hS : va_S (va_A [(h, .inr (3, [.int op, .int pi, .int kd, .long t0, .int by9, .int su, .int du]))] s.heap.size) s.heap s.heap [] := va_S.rf
  generalize hAe : va_A [(h, .inr (3, [.int op, .int pi, .int kd, .long t0, .int by9, .int su, .int du]))] s.heap.size = A at hD hA hS ⊢
  have hP : va_P D classes [(h, .inr (3, [.int op, .int pi, .int kd, .long t0, .int by9, .int su, .int du]))] s.heap := hP
  have hl := lv_entry ([.ref h]) (n := 1) (Nat.le_of_ble_eq_true rfl)
  rw [lg_entry_eq]
  generalize (lg_sl ([.ref h]) ++ List.replicate (1 - (lg_sl ([.ref h])).length) Slot.unset).toArray = ls at hl ⊢
  have hl : lv_has ls 1 [(0, .ref h)] := hl
  refine lv_aload_n hx hb d_Piece_init_0 rfl (lv_at hl 0 rfl) ?_
  refine W.objInit hx hb hown (hts _ wd_356) (hts _ wd_92) (hts _ wd_93) rfl (by rw [hml]; exact hl.1) rfl d_Piece_init_1 (Nat.le_of_ble_eq_true rfl) (Nat.le_of_ble_eq_true rfl) ?_
  refine W.eq (g2 := F0 m 4 ls []) rfl ?_
  have hP9 := hP.sub (ws' := [(h, .inr (3, [.int op, .int pi, .int kd, .long t0, .int by9, .int su, .int du]))]) [0] rfl
  have hD9 := hD.sub (ws' := [(h, .inr (3, [.int op, .int pi, .int kd, .long t0, .int by9, .int su, .int du]))]) [0] (by decide) rfl
  have hK9 := hK.sub (tys' := []) [] rfl
  exact W.vret hx hb hr (fun t ht hW => ⟨⟨(), rfl, trivial, ⟨by rw [ht]; exact hP9, va_K.moved hW.alike hK9, hD9⟩⟩, hS.F ht⟩) hS.2.2 d_Piece_init_4
set_option maxHeartbeats 4000000 in
set_option maxRecDepth 100000 in
theorem c_Piece_begin (l : Launch) (D : va_G) (sz : Nat) (h : Nat) (op pi kd by9 su du : Int32) (t0 : Int64) (x y w : Int32) (t1 : Int64)  : Met l y_Piece_begin [Cond.code y_Piece_begin b_Piece_begin 6 none] ({ frames := 0, cells := 0, slots := 0, locals := 0 }) (zM [.ref h, .int x, .int y, .long t1, .int w] D [(h, .inr (3, [.int op, .int pi, .int kd, .long t0, .int by9, .int su, .int du]))] [] sz) (va_Qv (fun (_ : Unit) => True) (fun (_u : Unit) t => zW D (va_A [(h, .inr (3, [.int op, .int pi, .int kd, .long t0, .int by9, .int su, .int du]))] sz) [(h, .inr (3, [.int 1, .int x, .int y, .long t1, .int 0, .int 0, .int w]))] [] t) (va_A [(h, .inr (3, [.int op, .int pi, .int kd, .long t0, .int by9, .int su, .int du]))] sz)) 0 0 (va_A [(h, .inr (3, [.int op, .int pi, .int kd, .long t0, .int by9, .int su, .int du]))] sz) := by
  refine Met.ofW (cc := b_Piece_begin) (maxL := 6) (ret := none) (by decide) rfl ?_
  intro p e s m args below meth cd s₁ Bd hml hv
  obtain ⟨rfl, hsz, hP, hK, hN, hD0⟩ := hv
  have hx := Bd.exec
  have hb := Bd.bytes
  have hr := Bd.returns
  have hts := hN.use (a := ([.ref h, .int x, .int y, .long t1, .int w]).toArray)
  have hown : s.vm.findClass R_Piece = some m.cls := findClass_of_methodNamed Bd.named
  have hlocks := Bd.notSynchronized
  subst hsz
  have hD := hD0.self (sz := s.heap.size)
  clear hD0
  have hA : ∀ q : Nat, s.heap.size ≤ q → va_A [(h, .inr (3, [.int op, .int pi, .int kd, .long t0, .int by9, .int su, .int du]))] s.heap.size q := fun q h => Or.inr h
  have hS : va_S (va_A [(h, .inr (3, [.int op, .int pi, .int kd, .long t0, .int by9, .int su, .int du]))] s.heap.size) s.heap s.heap [] := va_S.rf
  generalize hAe : va_A [(h, .inr (3, [.int op, .int pi, .int kd, .long t0, .int by9, .int su, .int du]))] s.heap.size = A at hD hA hS ⊢
  have hP : va_P D classes [(h, .inr (3, [.int op, .int pi, .int kd, .long t0, .int by9, .int su, .int du]))] s.heap := hP
  have hl := lv_entry ([.ref h, .int x, .int y, .long t1, .int w]) (n := 6) (Nat.le_of_ble_eq_true rfl)
  rw [lg_entry_eq]
  generalize (lg_sl ([.ref h, .int x, .int y, .long t1, .int w]) ++ List.replicate (6 - (lg_sl ([.ref h, .int x, .int y, .long t1, .int w])).length) Slot.unset).toArray = ls at hl ⊢
  have hl : lv_has ls 6 [(0, .ref h), (1, .int x), (2, .int y), (3, .long t1), (5, .int w)] := hl
  refine lv_aload_n hx hb d_Piece_begin_0 rfl (lv_at hl 0 rfl) ?_
  refine lv_iconst (v := 1) hx hb d_Piece_begin_1 (by decide) ?_
  refine va_put (D := D) (ci := 3) (v := .int 1) (ty := .boolean) (C := R_Piece) (T := F_Piece) (N := 7) hx hb hts i_Piece t_Piece t_Piece_ok n_Piece hown hK hP hD hS 0 rfl rfl 0 (by decide) (hts _ wd_357) (fun _ h9 => h9) rfl (by decide +kernel) rfl rfl (Nat.le_of_ble_eq_true rfl) d_Piece_begin_2 (fun H locs hP hD hS => ?_)
  have hP : va_P D classes [(h, .inr (3, [.int 1, .int pi, .int kd, .long t0, .int by9, .int su, .int du]))] H := hP
  have hD : va_D A [(h, .inr (3, [.int 1, .int pi, .int kd, .long t0, .int by9, .int su, .int du]))] := hD
  refine lv_aload_n hx hb d_Piece_begin_5 rfl (lv_at hl 0 rfl) ?_
  refine lv_iload_n hx hb d_Piece_begin_6 rfl (lv_at hl 1 rfl) ?_
  refine va_put (D := D) (ci := 3) (v := .int x) (ty := .int) (C := R_Piece) (T := F_Piece) (N := 7) hx hb hts i_Piece t_Piece t_Piece_ok n_Piece hown hK hP hD hS 0 rfl rfl 1 (by decide) (hts _ wd_360) (fun _ h9 => h9) rfl (by decide +kernel) rfl rfl (Nat.le_of_ble_eq_true rfl) d_Piece_begin_7 (fun H locs hP hD hS => ?_)
  have hP : va_P D classes [(h, .inr (3, [.int 1, .int x, .int kd, .long t0, .int by9, .int su, .int du]))] H := hP
  have hD : va_D A [(h, .inr (3, [.int 1, .int x, .int kd, .long t0, .int by9, .int su, .int du]))] := hD
  refine lv_aload_n hx hb d_Piece_begin_10 rfl (lv_at hl 0 rfl) ?_
  refine lv_iload_n hx hb d_Piece_begin_11 rfl (lv_at hl 2 rfl) ?_
  refine va_put (D := D) (ci := 3) (v := .int y) (ty := .int) (C := R_Piece) (T := F_Piece) (N := 7) hx hb hts i_Piece t_Piece t_Piece_ok n_Piece hown hK hP hD hS 0 rfl rfl 2 (by decide) (hts _ wd_362) (fun _ h9 => h9) rfl (by decide +kernel) rfl rfl (Nat.le_of_ble_eq_true rfl) d_Piece_begin_12 (fun H locs hP hD hS => ?_)
  have hP : va_P D classes [(h, .inr (3, [.int 1, .int x, .int y, .long t0, .int by9, .int su, .int du]))] H := hP
  have hD : va_D A [(h, .inr (3, [.int 1, .int x, .int y, .long t0, .int by9, .int su, .int du]))] := hD
  refine lv_aload_n hx hb d_Piece_begin_15 rfl (lv_at hl 0 rfl) ?_
  refine lv_lload_n hx hb d_Piece_begin_16 rfl (lv_at hl 3 rfl) ?_
  refine va_put (D := D) (ci := 3) (v := .long t1) (ty := .long) (C := R_Piece) (T := F_Piece) (N := 7) hx hb hts i_Piece t_Piece t_Piece_ok n_Piece hown hK hP hD hS 0 rfl rfl 3 (by decide) (hts _ wd_364) (fun _ h9 => h9) rfl (by decide +kernel) rfl rfl (Nat.le_of_ble_eq_true rfl) d_Piece_begin_17 (fun H locs hP hD hS => ?_)
  have hP : va_P D classes [(h, .inr (3, [.int 1, .int x, .int y, .long t1, .int by9, .int su, .int du]))] H := hP
  have hD : va_D A [(h, .inr (3, [.int 1, .int x, .int y, .long t1, .int by9, .int su, .int du]))] := hD
  refine lv_aload_n hx hb d_Piece_begin_20 rfl (lv_at hl 0 rfl) ?_
  refine lv_iconst (v := 0) hx hb d_Piece_begin_21 (by decide) ?_
  refine va_put (D := D) (ci := 3) (v := .int 0) (ty := .int) (C := R_Piece) (T := F_Piece) (N := 7) hx hb hts i_Piece t_Piece t_Piece_ok n_Piece hown hK hP hD hS 0 rfl rfl 4 (by decide) (hts _ wd_366) (fun _ h9 => h9) rfl (by decide +kernel) rfl rfl (Nat.le_of_ble_eq_true rfl) d_Piece_begin_22 (fun H locs hP hD hS => ?_)
  have hP : va_P D classes [(h, .inr (3, [.int 1, .int x, .int y, .long t1, .int 0, .int su, .int du]))] H := hP
  have hD : va_D A [(h, .inr (3, [.int 1, .int x, .int y, .long t1, .int 0, .int su, .int du]))] := hD
  refine lv_aload_n hx hb d_Piece_begin_25 rfl (lv_at hl 0 rfl) ?_
  refine lv_iconst (v := 0) hx hb d_Piece_begin_26 (by decide) ?_
  refine va_put (D := D) (ci := 3) (v := .int 0) (ty := .int) (C := R_Piece) (T := F_Piece) (N := 7) hx hb hts i_Piece t_Piece t_Piece_ok n_Piece hown hK hP hD hS 0 rfl rfl 5 (by decide) (hts _ wd_368) (fun _ h9 => h9) rfl (by decide +kernel) rfl rfl (Nat.le_of_ble_eq_true rfl) d_Piece_begin_27 (fun H locs hP hD hS => ?_)
  have hP : va_P D classes [(h, .inr (3, [.int 1, .int x, .int y, .long t1, .int 0, .int 0, .int du]))] H := hP
  have hD : va_D A [(h, .inr (3, [.int 1, .int x, .int y, .long t1, .int 0, .int 0, .int du]))] := hD
  refine lv_aload_n hx hb d_Piece_begin_30 rfl (lv_at hl 0 rfl) ?_
  refine lv_iload hx hb d_Piece_begin_31 (lv_at hl 4 rfl) ?_
  refine va_put (D := D) (ci := 3) (v := .int w) (ty := .int) (C := R_Piece) (T := F_Piece) (N := 7) hx hb hts i_Piece t_Piece t_Piece_ok n_Piece hown hK hP hD hS 0 rfl rfl 6 (by decide) (hts _ wd_370) (fun _ h9 => h9) rfl (by decide +kernel) rfl rfl (Nat.le_of_ble_eq_true rfl) d_Piece_begin_33 (fun H locs hP hD hS => ?_)
  have hP : va_P D classes [(h, .inr (3, [.int 1, .int x, .int y, .long t1, .int 0, .int 0, .int w]))] H := hP
  have hD : va_D A [(h, .inr (3, [.int 1, .int x, .int y, .long t1, .int 0, .int 0, .int w]))] := hD
  have hP9 := hP.sub (ws' := [(h, .inr (3, [.int 1, .int x, .int y, .long t1, .int 0, .int 0, .int w]))]) [0] rfl
  have hD9 := hD.sub (ws' := [(h, .inr (3, [.int 1, .int x, .int y, .long t1, .int 0, .int 0, .int w]))]) [0] (by decide) rfl
  have hK9 := hK.sub (tys' := []) [] rfl
  exact W.vret hx hb hr (fun t ht hW => ⟨⟨(), rfl, trivial, ⟨by rw [ht]; exact hP9, va_K.moved hW.alike hK9, hD9⟩⟩, hS.F ht⟩) hS.2.2 d_Piece_begin_36
set_option maxHeartbeats 4000000 in
set_option maxRecDepth 100000 in
theorem c_Piece_add (l : Launch) (D : va_G) (sz : Nat) (h : Nat) (op pi kd by9 su du : Int32) (t0 : Int64) (x : Int32)  : Met l y_Piece_add [Cond.code y_Piece_add b_Piece_add 2 none] ({ frames := 0, cells := 0, slots := 0, locals := 0 }) (zM [.ref h, .int x] D [(h, .inr (3, [.int op, .int pi, .int kd, .long t0, .int by9, .int su, .int du]))] [] sz) (va_Qv (fun (u : Int32) => u = if du ≤ 0 then du else du - 1) (fun (u : Int32) t => zW D (va_A [(h, .inr (3, [.int op, .int pi, .int kd, .long t0, .int by9, .int su, .int du]))] sz) [(h, .inr (3, [.int op, .int pi, .int kd, .long t0, .int (by9 + 1), .int (31 * su + x), .int u]))] [] t) (va_A [(h, .inr (3, [.int op, .int pi, .int kd, .long t0, .int by9, .int su, .int du]))] sz)) 0 0 (va_A [(h, .inr (3, [.int op, .int pi, .int kd, .long t0, .int by9, .int su, .int du]))] sz) := by
  refine Met.ofW (cc := b_Piece_add) (maxL := 2) (ret := none) (by decide) rfl ?_
  intro p e s m args below meth cd s₁ Bd hml hv
  obtain ⟨rfl, hsz, hP, hK, hN, hD0⟩ := hv
  have hx := Bd.exec
  have hb := Bd.bytes
  have hr := Bd.returns
  have hts := hN.use (a := ([.ref h, .int x]).toArray)
  have hown : s.vm.findClass R_Piece = some m.cls := findClass_of_methodNamed Bd.named
  have hlocks := Bd.notSynchronized
  subst hsz
  have hD := hD0.self (sz := s.heap.size)
  clear hD0
  have hA : ∀ q : Nat, s.heap.size ≤ q → va_A [(h, .inr (3, [.int op, .int pi, .int kd, .long t0, .int by9, .int su, .int du]))] s.heap.size q := fun q h => Or.inr h
  have hS : va_S (va_A [(h, .inr (3, [.int op, .int pi, .int kd, .long t0, .int by9, .int su, .int du]))] s.heap.size) s.heap s.heap [] := va_S.rf
  generalize hAe : va_A [(h, .inr (3, [.int op, .int pi, .int kd, .long t0, .int by9, .int su, .int du]))] s.heap.size = A at hD hA hS ⊢
  have hP : va_P D classes [(h, .inr (3, [.int op, .int pi, .int kd, .long t0, .int by9, .int su, .int du]))] s.heap := hP
  have hl := lv_entry ([.ref h, .int x]) (n := 2) (Nat.le_of_ble_eq_true rfl)
  rw [lg_entry_eq]
  generalize (lg_sl ([.ref h, .int x]) ++ List.replicate (2 - (lg_sl ([.ref h, .int x])).length) Slot.unset).toArray = ls at hl ⊢
  have hl : lv_has ls 2 [(0, .ref h), (1, .int x)] := hl
  refine lv_aload_n hx hb d_Piece_add_0 rfl (lv_at hl 0 rfl) ?_
  refine lv_dup hx hb d_Piece_add_1 rfl ?_
  refine va_get (D := D) (ci := 3) (v := .int by9) (C := R_Piece) (T := F_Piece) (N := 7) hx hb hts i_Piece hown hK hP 0 rfl rfl 4 (by decide) (hts _ wd_366) (fun _ h9 => h9) rfl d_Piece_add_2 ?_
  refine lv_iconst (v := 1) hx hb d_Piece_add_5 (by decide) ?_
  refine lv_iadd hx hb d_Piece_add_6 ?_
  refine va_put (D := D) (ci := 3) (v := .int (by9 + 1)) (ty := .int) (C := R_Piece) (T := F_Piece) (N := 7) hx hb hts i_Piece t_Piece t_Piece_ok n_Piece hown hK hP hD hS 0 rfl rfl 4 (by decide) (hts _ wd_366) (fun _ h9 => h9) rfl (by decide +kernel) rfl rfl (Nat.le_of_ble_eq_true rfl) d_Piece_add_7 (fun H locs hP hD hS => ?_)
  have hP : va_P D classes [(h, .inr (3, [.int op, .int pi, .int kd, .long t0, .int (by9 + 1), .int su, .int du]))] H := hP
  have hD : va_D A [(h, .inr (3, [.int op, .int pi, .int kd, .long t0, .int (by9 + 1), .int su, .int du]))] := hD
  refine lv_aload_n hx hb d_Piece_add_10 rfl (lv_at hl 0 rfl) ?_
  refine lv_bipush (v := 31) hx hb d_Piece_add_11 (by decide) ?_
  refine lv_aload_n hx hb d_Piece_add_13 rfl (lv_at hl 0 rfl) ?_
  refine va_get (D := D) (ci := 3) (v := .int su) (C := R_Piece) (T := F_Piece) (N := 7) hx hb hts i_Piece hown hK hP 0 rfl rfl 5 (by decide) (hts _ wd_368) (fun _ h9 => h9) rfl d_Piece_add_14 ?_
  refine lv_imul hx hb d_Piece_add_17 ?_
  refine lv_iload_n hx hb d_Piece_add_18 rfl (lv_at hl 1 rfl) ?_
  refine lv_iadd hx hb d_Piece_add_19 ?_
  refine va_put (D := D) (ci := 3) (v := .int ((31 * su) + x)) (ty := .int) (C := R_Piece) (T := F_Piece) (N := 7) hx hb hts i_Piece t_Piece t_Piece_ok n_Piece hown hK hP hD hS 0 rfl rfl 5 (by decide) (hts _ wd_368) (fun _ h9 => h9) rfl (by decide +kernel) rfl rfl (Nat.le_of_ble_eq_true rfl) d_Piece_add_20 (fun H locs hP hD hS => ?_)
  have hP : va_P D classes [(h, .inr (3, [.int op, .int pi, .int kd, .long t0, .int (by9 + 1), .int ((31 * su) + x), .int du]))] H := hP
  have hD : va_D A [(h, .inr (3, [.int op, .int pi, .int kd, .long t0, .int (by9 + 1), .int ((31 * su) + x), .int du]))] := hD
  refine lv_aload_n hx hb d_Piece_add_23 rfl (lv_at hl 0 rfl) ?_
  refine va_get (D := D) (ci := 3) (v := .int du) (C := R_Piece) (T := F_Piece) (N := 7) hx hb hts i_Piece hown hK hP 0 rfl rfl 6 (by decide) (hts _ wd_370) (fun _ h9 => h9) rfl d_Piece_add_24 ?_
  refine lv_if_le (tgt := 40) hx hb d_Piece_add_27 rfl (fun h27 => ?_) (fun h27 => ?_)
  · have hP9 := hP.sub (ws' := [(h, .inr (3, [.int op, .int pi, .int kd, .long t0, .int (by9 + 1), .int ((31 * su) + x), .int du]))]) [0] rfl
    have hD9 := hD.sub (ws' := [(h, .inr (3, [.int op, .int pi, .int kd, .long t0, .int (by9 + 1), .int ((31 * su) + x), .int du]))]) [0] (by decide) rfl
    have hK9 := hK.sub (tys' := []) [] rfl
    exact W.vret hx hb hr (fun t ht hW => ⟨⟨du, rfl, (if_pos h27).symm, ⟨by rw [ht]; exact hP9, va_K.moved hW.alike hK9, hD9⟩⟩, hS.F ht⟩) hS.2.2 d_Piece_add_40
  · refine lv_aload_n hx hb d_Piece_add_30 rfl (lv_at hl 0 rfl) ?_
    refine lv_dup hx hb d_Piece_add_31 rfl ?_
    refine va_get (D := D) (ci := 3) (v := .int du) (C := R_Piece) (T := F_Piece) (N := 7) hx hb hts i_Piece hown hK hP 0 rfl rfl 6 (by decide) (hts _ wd_370) (fun _ h9 => h9) rfl d_Piece_add_32 ?_
    refine lv_iconst (v := 1) hx hb d_Piece_add_35 (by decide) ?_
    refine lv_isub hx hb d_Piece_add_36 ?_
    refine va_put (D := D) (ci := 3) (v := .int (du - 1)) (ty := .int) (C := R_Piece) (T := F_Piece) (N := 7) hx hb hts i_Piece t_Piece t_Piece_ok n_Piece hown hK hP hD hS 0 rfl rfl 6 (by decide) (hts _ wd_370) (fun _ h9 => h9) rfl (by decide +kernel) rfl rfl (Nat.le_of_ble_eq_true rfl) d_Piece_add_37 (fun H locs hP hD hS => ?_)
    have hP : va_P D classes [(h, .inr (3, [.int op, .int pi, .int kd, .long t0, .int (by9 + 1), .int ((31 * su) + x), .int (du - 1)]))] H := hP
    have hD : va_D A [(h, .inr (3, [.int op, .int pi, .int kd, .long t0, .int (by9 + 1), .int ((31 * su) + x), .int (du - 1)]))] := hD
    have hP9 := hP.sub (ws' := [(h, .inr (3, [.int op, .int pi, .int kd, .long t0, .int (by9 + 1), .int ((31 * su) + x), .int (du - 1)]))]) [0] rfl
    have hD9 := hD.sub (ws' := [(h, .inr (3, [.int op, .int pi, .int kd, .long t0, .int (by9 + 1), .int ((31 * su) + x), .int (du - 1)]))]) [0] (by decide) rfl
    have hK9 := hK.sub (tys' := []) [] rfl
    exact W.vret hx hb hr (fun t ht hW => ⟨⟨du - 1, rfl, (if_neg h27).symm, ⟨by rw [ht]; exact hP9, va_K.moved hW.alike hK9, hD9⟩⟩, hS.F ht⟩) hS.2.2 d_Piece_add_40
set_option maxHeartbeats 4000000 in
set_option maxRecDepth 100000 in
theorem c_Piece_copy (l : Launch) (D : va_G) (sz : Nat) (h h2 : Nat) (op pi kd by9 su du : Int32) (t0 : Int64) (op2 pi2 kd2 by2 su2 du2 : Int32) (t2 : Int64)  : Met l y_Piece_copy [Cond.code y_Piece_copy b_Piece_copy 2 none] ({ frames := 0, cells := 0, slots := 0, locals := 0 }) (zM [.ref h, .ref h2] D [(h, .inr (3, [.int op, .int pi, .int kd, .long t0, .int by9, .int su, .int du])), (h2, .inr (3, [.int op2, .int pi2, .int kd2, .long t2, .int by2, .int su2, .int du2]))] [] sz) (va_Qv (fun (_ : Unit) => True) (fun (_u : Unit) t => zW D (va_A [(h, .inr (3, [.int op, .int pi, .int kd, .long t0, .int by9, .int su, .int du])), (h2, .inr (3, [.int op2, .int pi2, .int kd2, .long t2, .int by2, .int su2, .int du2]))] sz) [(h, .inr (3, [.int op, .int pi2, .int kd2, .long t2, .int by2, .int su2, .int du])), (h2, .inr (3, [.int op2, .int pi2, .int kd2, .long t2, .int by2, .int su2, .int du2]))] [] t) (va_A [(h, .inr (3, [.int op, .int pi, .int kd, .long t0, .int by9, .int su, .int du])), (h2, .inr (3, [.int op2, .int pi2, .int kd2, .long t2, .int by2, .int su2, .int du2]))] sz)) 0 0 (va_A [(h, .inr (3, [.int op, .int pi, .int kd, .long t0, .int by9, .int su, .int du])), (h2, .inr (3, [.int op2, .int pi2, .int kd2, .long t2, .int by2, .int su2, .int du2]))] sz) := by
  refine Met.ofW (cc := b_Piece_copy) (maxL := 2) (ret := none) (by decide) rfl ?_
  intro p e s m args below meth cd s₁ Bd hml hv
  obtain ⟨rfl, hsz, hP, hK, hN, hD0⟩ := hv
  have hx := Bd.exec
  have hb := Bd.bytes
  have hr := Bd.returns
  have hts := hN.use (a := ([.ref h, .ref h2]).toArray)
  have hown : s.vm.findClass R_Piece = some m.cls := findClass_of_methodNamed Bd.named
  have hlocks := Bd.notSynchronized
  subst hsz
  have hD := hD0.self (sz := s.heap.size)
  clear hD0
  have hA : ∀ q : Nat, s.heap.size ≤ q → va_A [(h, .inr (3, [.int op, .int pi, .int kd, .long t0, .int by9, .int su, .int du])), (h2, .inr (3, [.int op2, .int pi2, .int kd2, .long t2, .int by2, .int su2, .int du2]))] s.heap.size q := fun q h => Or.inr h
  have hS : va_S (va_A [(h, .inr (3, [.int op, .int pi, .int kd, .long t0, .int by9, .int su, .int du])), (h2, .inr (3, [.int op2, .int pi2, .int kd2, .long t2, .int by2, .int su2, .int du2]))] s.heap.size) s.heap s.heap [] := va_S.rf
  generalize hAe : va_A [(h, .inr (3, [.int op, .int pi, .int kd, .long t0, .int by9, .int su, .int du])), (h2, .inr (3, [.int op2, .int pi2, .int kd2, .long t2, .int by2, .int su2, .int du2]))] s.heap.size = A at hD hA hS ⊢
  have hP : va_P D classes [(h, .inr (3, [.int op, .int pi, .int kd, .long t0, .int by9, .int su, .int du])), (h2, .inr (3, [.int op2, .int pi2, .int kd2, .long t2, .int by2, .int su2, .int du2]))] s.heap := hP
  have hl := lv_entry ([.ref h, .ref h2]) (n := 2) (Nat.le_of_ble_eq_true rfl)
  rw [lg_entry_eq]
  generalize (lg_sl ([.ref h, .ref h2]) ++ List.replicate (2 - (lg_sl ([.ref h, .ref h2])).length) Slot.unset).toArray = ls at hl ⊢
  have hl : lv_has ls 2 [(0, .ref h), (1, .ref h2)] := hl
  refine lv_aload_n hx hb d_Piece_copy_0 rfl (lv_at hl 0 rfl) ?_
  refine lv_aload_n hx hb d_Piece_copy_1 rfl (lv_at hl 1 rfl) ?_
  refine va_get (D := D) (ci := 3) (v := .int pi2) (C := R_Piece) (T := F_Piece) (N := 7) hx hb hts i_Piece hown hK hP 1 rfl rfl 1 (by decide) (hts _ wd_360) (fun _ h9 => h9) rfl d_Piece_copy_2 ?_
  refine va_put (D := D) (ci := 3) (v := .int pi2) (ty := .int) (C := R_Piece) (T := F_Piece) (N := 7) hx hb hts i_Piece t_Piece t_Piece_ok n_Piece hown hK hP hD hS 0 rfl rfl 1 (by decide) (hts _ wd_360) (fun _ h9 => h9) rfl (by decide +kernel) rfl rfl (Nat.le_of_ble_eq_true rfl) d_Piece_copy_5 (fun H locs hP hD hS => ?_)
  have hP : va_P D classes [(h, .inr (3, [.int op, .int pi2, .int kd, .long t0, .int by9, .int su, .int du])), (h2, .inr (3, [.int op2, .int pi2, .int kd2, .long t2, .int by2, .int su2, .int du2]))] H := hP
  have hD : va_D A [(h, .inr (3, [.int op, .int pi2, .int kd, .long t0, .int by9, .int su, .int du])), (h2, .inr (3, [.int op2, .int pi2, .int kd2, .long t2, .int by2, .int su2, .int du2]))] := hD
  refine lv_aload_n hx hb d_Piece_copy_8 rfl (lv_at hl 0 rfl) ?_
  refine lv_aload_n hx hb d_Piece_copy_9 rfl (lv_at hl 1 rfl) ?_
  refine va_get (D := D) (ci := 3) (v := .int kd2) (C := R_Piece) (T := F_Piece) (N := 7) hx hb hts i_Piece hown hK hP 1 rfl rfl 2 (by decide) (hts _ wd_362) (fun _ h9 => h9) rfl d_Piece_copy_10 ?_
  refine va_put (D := D) (ci := 3) (v := .int kd2) (ty := .int) (C := R_Piece) (T := F_Piece) (N := 7) hx hb hts i_Piece t_Piece t_Piece_ok n_Piece hown hK hP hD hS 0 rfl rfl 2 (by decide) (hts _ wd_362) (fun _ h9 => h9) rfl (by decide +kernel) rfl rfl (Nat.le_of_ble_eq_true rfl) d_Piece_copy_13 (fun H locs hP hD hS => ?_)
  have hP : va_P D classes [(h, .inr (3, [.int op, .int pi2, .int kd2, .long t0, .int by9, .int su, .int du])), (h2, .inr (3, [.int op2, .int pi2, .int kd2, .long t2, .int by2, .int su2, .int du2]))] H := hP
  have hD : va_D A [(h, .inr (3, [.int op, .int pi2, .int kd2, .long t0, .int by9, .int su, .int du])), (h2, .inr (3, [.int op2, .int pi2, .int kd2, .long t2, .int by2, .int su2, .int du2]))] := hD
  refine lv_aload_n hx hb d_Piece_copy_16 rfl (lv_at hl 0 rfl) ?_
  refine lv_aload_n hx hb d_Piece_copy_17 rfl (lv_at hl 1 rfl) ?_
  refine va_get (D := D) (ci := 3) (v := .long t2) (C := R_Piece) (T := F_Piece) (N := 7) hx hb hts i_Piece hown hK hP 1 rfl rfl 3 (by decide) (hts _ wd_364) (fun _ h9 => h9) rfl d_Piece_copy_18 ?_
  refine va_put (D := D) (ci := 3) (v := .long t2) (ty := .long) (C := R_Piece) (T := F_Piece) (N := 7) hx hb hts i_Piece t_Piece t_Piece_ok n_Piece hown hK hP hD hS 0 rfl rfl 3 (by decide) (hts _ wd_364) (fun _ h9 => h9) rfl (by decide +kernel) rfl rfl (Nat.le_of_ble_eq_true rfl) d_Piece_copy_21 (fun H locs hP hD hS => ?_)
  have hP : va_P D classes [(h, .inr (3, [.int op, .int pi2, .int kd2, .long t2, .int by9, .int su, .int du])), (h2, .inr (3, [.int op2, .int pi2, .int kd2, .long t2, .int by2, .int su2, .int du2]))] H := hP
  have hD : va_D A [(h, .inr (3, [.int op, .int pi2, .int kd2, .long t2, .int by9, .int su, .int du])), (h2, .inr (3, [.int op2, .int pi2, .int kd2, .long t2, .int by2, .int su2, .int du2]))] := hD
  refine lv_aload_n hx hb d_Piece_copy_24 rfl (lv_at hl 0 rfl) ?_
  refine lv_aload_n hx hb d_Piece_copy_25 rfl (lv_at hl 1 rfl) ?_
  refine va_get (D := D) (ci := 3) (v := .int by2) (C := R_Piece) (T := F_Piece) (N := 7) hx hb hts i_Piece hown hK hP 1 rfl rfl 4 (by decide) (hts _ wd_366) (fun _ h9 => h9) rfl d_Piece_copy_26 ?_
  refine va_put (D := D) (ci := 3) (v := .int by2) (ty := .int) (C := R_Piece) (T := F_Piece) (N := 7) hx hb hts i_Piece t_Piece t_Piece_ok n_Piece hown hK hP hD hS 0 rfl rfl 4 (by decide) (hts _ wd_366) (fun _ h9 => h9) rfl (by decide +kernel) rfl rfl (Nat.le_of_ble_eq_true rfl) d_Piece_copy_29 (fun H locs hP hD hS => ?_)
  have hP : va_P D classes [(h, .inr (3, [.int op, .int pi2, .int kd2, .long t2, .int by2, .int su, .int du])), (h2, .inr (3, [.int op2, .int pi2, .int kd2, .long t2, .int by2, .int su2, .int du2]))] H := hP
  have hD : va_D A [(h, .inr (3, [.int op, .int pi2, .int kd2, .long t2, .int by2, .int su, .int du])), (h2, .inr (3, [.int op2, .int pi2, .int kd2, .long t2, .int by2, .int su2, .int du2]))] := hD
  refine lv_aload_n hx hb d_Piece_copy_32 rfl (lv_at hl 0 rfl) ?_
  refine lv_aload_n hx hb d_Piece_copy_33 rfl (lv_at hl 1 rfl) ?_
  refine va_get (D := D) (ci := 3) (v := .int su2) (C := R_Piece) (T := F_Piece) (N := 7) hx hb hts i_Piece hown hK hP 1 rfl rfl 5 (by decide) (hts _ wd_368) (fun _ h9 => h9) rfl d_Piece_copy_34 ?_
  refine va_put (D := D) (ci := 3) (v := .int su2) (ty := .int) (C := R_Piece) (T := F_Piece) (N := 7) hx hb hts i_Piece t_Piece t_Piece_ok n_Piece hown hK hP hD hS 0 rfl rfl 5 (by decide) (hts _ wd_368) (fun _ h9 => h9) rfl (by decide +kernel) rfl rfl (Nat.le_of_ble_eq_true rfl) d_Piece_copy_37 (fun H locs hP hD hS => ?_)
  have hP : va_P D classes [(h, .inr (3, [.int op, .int pi2, .int kd2, .long t2, .int by2, .int su2, .int du])), (h2, .inr (3, [.int op2, .int pi2, .int kd2, .long t2, .int by2, .int su2, .int du2]))] H := hP
  have hD : va_D A [(h, .inr (3, [.int op, .int pi2, .int kd2, .long t2, .int by2, .int su2, .int du])), (h2, .inr (3, [.int op2, .int pi2, .int kd2, .long t2, .int by2, .int su2, .int du2]))] := hD
  have hP9 := hP.sub (ws' := [(h, .inr (3, [.int op, .int pi2, .int kd2, .long t2, .int by2, .int su2, .int du])), (h2, .inr (3, [.int op2, .int pi2, .int kd2, .long t2, .int by2, .int su2, .int du2]))]) [0, 1] rfl
  have hD9 := hD.sub (ws' := [(h, .inr (3, [.int op, .int pi2, .int kd2, .long t2, .int by2, .int su2, .int du])), (h2, .inr (3, [.int op2, .int pi2, .int kd2, .long t2, .int by2, .int su2, .int du2]))]) [0, 1] (by decide) rfl
  have hK9 := hK.sub (tys' := []) [] rfl
  exact W.vret hx hb hr (fun t ht hW => ⟨⟨(), rfl, trivial, ⟨by rw [ht]; exact hP9, va_K.moved hW.alike hK9, hD9⟩⟩, hS.F ht⟩) hS.2.2 d_Piece_copy_40
set_option maxHeartbeats 4000000 in
set_option maxRecDepth 100000 in
theorem c_Tables_versionOf (l : Launch) (D : va_G) (cB : ClassId) (h a n ln : Nat) (f : Nat → Int32) (hln : ln < 2 ^ 31) : Met l y_Tables_versionOf [Cond.code y_Tables_versionOf b_Tables_versionOf 1 (some .int)] ({ frames := 1, cells := 0, slots := 0, locals := 21 }) (zP [.ref h] D [(h, .inr (0, [.ref a, .int (nI n)])), (a, .inl (cB, ln, .inl f))] [(cB, .byte)]) (vp_Si (fun r0 => r0 = ((rw_at f n ln 5) >>> ((1 : Int32) &&& 31)) &&& 31)) 0 0 (fun _ => False) := by
  refine Met.ofW (cc := b_Tables_versionOf) (maxL := 1) (ret := (some .int)) (by decide) rfl ?_
  intro p e s m args below meth cd s₁ Bd hml hv
  obtain ⟨rfl, hP, hK, hN⟩ := hv
  have hx := Bd.exec
  have hb := Bd.bytes
  have hr := Bd.returns
  have hts := hN.use (a := ([.ref h]).toArray)
  have hown : s.vm.findClass R_Tables = some m.cls := findClass_of_methodNamed Bd.named
  have hlocks := Bd.notSynchronized
  have hP : va_P D classes [(h, .inr (0, [.ref a, .int (nI n)])), (a, .inl (cB, ln, .inl f))] s.heap := hP
  have hl := lv_entry ([.ref h]) (n := 1) (Nat.le_of_ble_eq_true rfl)
  rw [lg_entry_eq]
  generalize (lg_sl ([.ref h]) ++ List.replicate (1 - (lg_sl ([.ref h])).length) Slot.unset).toArray = ls at hl ⊢
  have hl : lv_has ls 1 [(0, .ref h)] := hl
  refine lv_aload_n hx hb d_Tables_versionOf_0 rfl (lv_at hl 0 rfl) ?_
  refine lv_iconst (v := 5) hx hb d_Tables_versionOf_1 (by decide) ?_
  have hPc := hP.sub (ws' := [(h, .inr (0, [.ref a, .int (nI n)])), (a, .inl (cB, ln, .inl f))]) [0, 1] rfl
  have hKc := hK.sub (tys' := [(cB, .byte)]) [0] rfl
  refine z_ci (va_runV (As := [.int 5]) (rest := []) ⟨hx, hb, hml, hown, hts⟩ (c_Row_at l D cB h a n ln f 5 hln) (z_cV hN wd_212 wd_61 wd_556 hd_Row_at rfl rfl ⟨Nat.le_of_ble_eq_true rfl, Nat.le_of_ble_eq_true rfl⟩ wd_210 wd_211) (z_preV (va_recv (ci := 0) (q0 := 0) hK hP rfl rfl) hPc hKc hN) rfl rfl hl.1 rfl (lv_room (Nat.le_of_ble_eq_true rfl)) d_Tables_versionOf_2 ⟨Nat.le_of_ble_eq_true rfl, Nat.le_of_ble_eq_true rfl⟩) (fun r2 e2 => ?_)
  subst e2
  refine lv_iconst (v := 1) hx hb d_Tables_versionOf_5 (by decide) ?_
  refine lv_ishr hx hb d_Tables_versionOf_6 ?_
  refine lv_bipush (v := 31) hx hb d_Tables_versionOf_7 (by decide) ?_
  refine lv_iand hx hb d_Tables_versionOf_9 ?_
  refine z_topi (w := ((rw_at f n ln 5) >>> ((1 : Int32) &&& 31)) &&& 31) rfl ?_
  exact W.iret (v := (((rw_at f n ln 5) >>> ((1 : Int32) &&& 31)) &&& 31)) hx hb hr (fun t ht hW => ⟨_, rfl, rfl, ht⟩) (fun _ h => by cases h) d_Tables_versionOf_10
set_option maxHeartbeats 4000000 in
set_option maxRecDepth 100000 in
theorem c_Tables_isTable (l : Launch) (D : va_G) (cB : ClassId) (h a n ln : Nat) (f : Nat → Int32) (x : Int32) (hln : ln < 2 ^ 31) : Met l y_Tables_isTable [Cond.code y_Tables_isTable b_Tables_isTable 2 (some .boolean)] ({ frames := 2, cells := 0, slots := 0, locals := 47 }) (zP [.ref h, .int x] D [(h, .inr (0, [.ref a, .int (nI n)])), (a, .inl (cB, ln, .inl f))] [(cB, .byte)]) (vp_Si (fun r0 => r0 = if rw_at f n ln 0 = x ∧ rw_bit f n ln 47 = 1 ∧ rw_bits f n ln 48 16 = 0 then 1 else 0)) 0 0 (fun _ => False) := by
  refine Met.ofW (cc := b_Tables_isTable) (maxL := 2) (ret := (some .boolean)) (by decide) rfl ?_
  intro p e s m args below meth cd s₁ Bd hml hv
  obtain ⟨rfl, hP, hK, hN⟩ := hv
  have hx := Bd.exec
  have hb := Bd.bytes
  have hr := Bd.returns
  have hts := hN.use (a := ([.ref h, .int x]).toArray)
  have hown : s.vm.findClass R_Tables = some m.cls := findClass_of_methodNamed Bd.named
  have hlocks := Bd.notSynchronized
  have hP : va_P D classes [(h, .inr (0, [.ref a, .int (nI n)])), (a, .inl (cB, ln, .inl f))] s.heap := hP
  have hl := lv_entry ([.ref h, .int x]) (n := 2) (Nat.le_of_ble_eq_true rfl)
  rw [lg_entry_eq]
  generalize (lg_sl ([.ref h, .int x]) ++ List.replicate (2 - (lg_sl ([.ref h, .int x])).length) Slot.unset).toArray = ls at hl ⊢
  have hl : lv_has ls 2 [(0, .ref h), (1, .int x)] := hl
  refine lv_aload_n hx hb d_Tables_isTable_0 rfl (lv_at hl 0 rfl) ?_
  refine lv_iconst (v := 0) hx hb d_Tables_isTable_1 (by decide) ?_
  have hPc := hP.sub (ws' := [(h, .inr (0, [.ref a, .int (nI n)])), (a, .inl (cB, ln, .inl f))]) [0, 1] rfl
  have hKc := hK.sub (tys' := [(cB, .byte)]) [0] rfl
  refine z_ci (va_runV (As := [.int 0]) (rest := []) ⟨hx, hb, hml, hown, hts⟩ (c_Row_at l D cB h a n ln f 0 hln) (z_cV hN wd_212 wd_61 wd_556 hd_Row_at rfl rfl ⟨Nat.le_of_ble_eq_true rfl, Nat.le_of_ble_eq_true rfl⟩ wd_210 wd_211) (z_preV (va_recv (ci := 0) (q0 := 0) hK hP rfl rfl) hPc hKc hN) rfl rfl hl.1 rfl (lv_room (Nat.le_of_ble_eq_true rfl)) d_Tables_isTable_2 ⟨Nat.le_of_ble_eq_true rfl, Nat.le_of_ble_eq_true rfl⟩) (fun r2 e2 => ?_)
  subst e2
  refine lv_iload_n hx hb d_Tables_isTable_5 rfl (lv_at hl 1 rfl) ?_
  refine lv_icmp_ne (tgt := 35) hx hb d_Tables_isTable_6 rfl (fun h6 => ?_) (fun h6 => ?_)
  · refine lv_iconst (v := 0) hx hb d_Tables_isTable_35 (by decide) ?_
    exact W.zret (v := 0) hx hb hr rfl (fun t ht hW => ⟨_, rfl, (by first | exact (if_neg (fun z => h6 z.1)).symm | exact (if_neg (fun z => h15 z.2.1)).symm | exact (if_neg (fun z => h28 z.2.2)).symm | exact (if_pos ⟨h6, h15, h28⟩).symm), ht⟩) (fun _ h => by cases h) d_Tables_isTable_36
  · refine lv_aload_n hx hb d_Tables_isTable_9 rfl (lv_at hl 0 rfl) ?_
    refine lv_bipush (v := 47) hx hb d_Tables_isTable_10 (by decide) ?_
    have hPc := hP.sub (ws' := [(h, .inr (0, [.ref a, .int (nI n)])), (a, .inl (cB, ln, .inl f))]) [0, 1] rfl
    have hKc := hK.sub (tys' := [(cB, .byte)]) [0] rfl
    refine z_ci (va_runV (As := [.int (nI 47)]) (rest := []) ⟨hx, hb, hml, hown, hts⟩ (c_Row_bit l D cB h a n ln f 47 hln (by omega)) (z_cV hN wd_563 wd_61 wd_560 hd_Row_bit rfl rfl ⟨Nat.le_of_ble_eq_true rfl, Nat.le_of_ble_eq_true rfl⟩ wd_561 wd_562) (z_preV (va_recv (ci := 0) (q0 := 0) hK hP rfl rfl) hPc hKc hN) rfl rfl hl.1 rfl (lv_room (Nat.le_of_ble_eq_true rfl)) d_Tables_isTable_12 ⟨Nat.le_of_ble_eq_true rfl, Nat.le_of_ble_eq_true rfl⟩) (fun r12 e12 => ?_)
    subst e12
    refine lv_if_eq (tgt := 35) hx hb d_Tables_isTable_15 rfl (fun h15 => ?_) (fun h15 => ?_)
    · have h15 := mo_0 h15
      refine lv_iconst (v := 0) hx hb d_Tables_isTable_35 (by decide) ?_
      exact W.zret (v := 0) hx hb hr rfl (fun t ht hW => ⟨_, rfl, (by first | exact (if_neg (fun z => h6 z.1)).symm | exact (if_neg (fun z => h15 z.2.1)).symm | exact (if_neg (fun z => h28 z.2.2)).symm | exact (if_pos ⟨h6, h15, h28⟩).symm), ht⟩) (fun _ h => by cases h) d_Tables_isTable_36
    · have h15 := mo_1 h15
      refine lv_aload_n hx hb d_Tables_isTable_18 rfl (lv_at hl 0 rfl) ?_
      refine lv_bipush (v := 48) hx hb d_Tables_isTable_19 (by decide) ?_
      refine lv_bipush (v := 16) hx hb d_Tables_isTable_21 (by decide) ?_
      have hPc := hP.sub (ws' := [(h, .inr (0, [.ref a, .int (nI n)])), (a, .inl (cB, ln, .inl f))]) [0, 1] rfl
      have hKc := hK.sub (tys' := [(cB, .byte)]) [0] rfl
      refine z_cl (va_runV (As := [.int (nI 48), .int (nI 16)]) (rest := []) ⟨hx, hb, hml, hown, hts⟩ (c_Row_bits l D cB h a n ln f 48 16 hln (by omega)) (z_cV hN wd_280 wd_61 wd_564 hd_Row_bits rfl rfl ⟨Nat.le_of_ble_eq_true rfl, Nat.le_of_ble_eq_true rfl⟩ wd_278 wd_279) (z_preV (va_recv (ci := 0) (q0 := 0) hK hP rfl rfl) hPc hKc hN) rfl rfl hl.1 rfl (lv_room (Nat.le_of_ble_eq_true rfl)) d_Tables_isTable_23 ⟨Nat.le_of_ble_eq_true rfl, Nat.le_of_ble_eq_true rfl⟩) (fun r23 e23 => ?_)
      subst e23
      refine lv_lconst (v := 0) hx hb d_Tables_isTable_26 (by decide) ?_
      refine W.lcmp hx hb d_Tables_isTable_27 ?_
      refine lv_if_ne (tgt := 35) hx hb d_Tables_isTable_28 rfl (fun h28 => ?_) (fun h28 => ?_)
      · have h28 := mt (lg_cmp_eq _ _).mpr h28
        refine lv_iconst (v := 0) hx hb d_Tables_isTable_35 (by decide) ?_
        exact W.zret (v := 0) hx hb hr rfl (fun t ht hW => ⟨_, rfl, (by first | exact (if_neg (fun z => h6 z.1)).symm | exact (if_neg (fun z => h15 z.2.1)).symm | exact (if_neg (fun z => h28 z.2.2)).symm | exact (if_pos ⟨h6, h15, h28⟩).symm), ht⟩) (fun _ h => by cases h) d_Tables_isTable_36
      · have h28 := (lg_cmp_eq _ _).mp h28
        refine lv_iconst (v := 1) hx hb d_Tables_isTable_31 (by decide) ?_
        refine lv_goto (tgt := 36) hx hb d_Tables_isTable_32 rfl ?_
        exact W.zret (v := 1) hx hb hr rfl (fun t ht hW => ⟨_, rfl, (by first | exact (if_neg (fun z => h6 z.1)).symm | exact (if_neg (fun z => h15 z.2.1)).symm | exact (if_neg (fun z => h28 z.2.2)).symm | exact (if_pos ⟨h6, h15, h28⟩).symm), ht⟩) (fun _ h => by cases h) d_Tables_isTable_36
set_option maxHeartbeats 4000000 in
set_option maxRecDepth 100000 in
theorem c_Tables_isOrder (l : Launch) (D : va_G) (cB : ClassId) (h a n ln : Nat) (f : Nat → Int32) (hln : ln < 2 ^ 31) (hn : n ≤ ln) : Met l y_Tables_isOrder [Cond.code y_Tables_isOrder b_Tables_isOrder 1 (some .boolean)] ({ frames := 2, cells := 0, slots := 0, locals := 42 }) (zP [.ref h] D [(h, .inr (0, [.ref a, .int (nI n)])), (a, .inl (cB, ln, .inl f))] [(cB, .byte)]) (vp_Si (fun r0 => r0 = if rw_at f n ln 0 = 252 ∧ rw_at f n ln 3 = 0 ∧ ¬ rw_bit f n ln 32 = 1 ∧ rw_at f n ln 13 = 5 ∧ 19 ≤ n then 1 else 0)) 0 0 (fun _ => False) := by
  refine Met.ofW (cc := b_Tables_isOrder) (maxL := 1) (ret := (some .boolean)) (by decide) rfl ?_
  intro p e s m args below meth cd s₁ Bd hml hv
  obtain ⟨rfl, hP, hK, hN⟩ := hv
  have hx := Bd.exec
  have hb := Bd.bytes
  have hr := Bd.returns
  have hts := hN.use (a := ([.ref h]).toArray)
  have hown : s.vm.findClass R_Tables = some m.cls := findClass_of_methodNamed Bd.named
  have hlocks := Bd.notSynchronized
  have hP : va_P D classes [(h, .inr (0, [.ref a, .int (nI n)])), (a, .inl (cB, ln, .inl f))] s.heap := hP
  have hl := lv_entry ([.ref h]) (n := 1) (Nat.le_of_ble_eq_true rfl)
  rw [lg_entry_eq]
  generalize (lg_sl ([.ref h]) ++ List.replicate (1 - (lg_sl ([.ref h])).length) Slot.unset).toArray = ls at hl ⊢
  have hl : lv_has ls 1 [(0, .ref h)] := hl
  refine lv_aload_n hx hb d_Tables_isOrder_0 rfl (lv_at hl 0 rfl) ?_
  refine lv_iconst (v := 0) hx hb d_Tables_isOrder_1 (by decide) ?_
  have hPc := hP.sub (ws' := [(h, .inr (0, [.ref a, .int (nI n)])), (a, .inl (cB, ln, .inl f))]) [0, 1] rfl
  have hKc := hK.sub (tys' := [(cB, .byte)]) [0] rfl
  refine z_ci (va_runV (As := [.int 0]) (rest := []) ⟨hx, hb, hml, hown, hts⟩ (c_Row_at l D cB h a n ln f 0 hln) (z_cV hN wd_212 wd_61 wd_556 hd_Row_at rfl rfl ⟨Nat.le_of_ble_eq_true rfl, Nat.le_of_ble_eq_true rfl⟩ wd_210 wd_211) (z_preV (va_recv (ci := 0) (q0 := 0) hK hP rfl rfl) hPc hKc hN) rfl rfl hl.1 rfl (lv_room (Nat.le_of_ble_eq_true rfl)) d_Tables_isOrder_2 ⟨Nat.le_of_ble_eq_true rfl, Nat.le_of_ble_eq_true rfl⟩) (fun r2 e2 => ?_)
  subst e2
  refine lv_sipush (v := 252) hx hb d_Tables_isOrder_5 (by decide) ?_
  refine lv_icmp_ne (tgt := 51) hx hb d_Tables_isOrder_8 rfl (fun h8 => ?_) (fun h8 => ?_)
  · refine lv_iconst (v := 0) hx hb d_Tables_isOrder_51 (by decide) ?_
    exact W.zret (v := 0) hx hb hr rfl (fun t ht hW => ⟨_, rfl, (by first | exact (if_neg (fun z => h8 z.1)).symm | exact (if_neg (fun z => h16 z.2.1)).symm | exact (if_pos ⟨h8, h16, h25, h35, by omega⟩).symm | exact (if_neg (fun z => h35 z.2.2.2.1)).symm | exact (if_neg (fun z => Nat.not_le_of_lt h44 z.2.2.2.2)).symm | exact (if_neg (fun z => z.2.2.1 h25)).symm), ht⟩) (fun _ h => by cases h) d_Tables_isOrder_52
  · refine lv_aload_n hx hb d_Tables_isOrder_11 rfl (lv_at hl 0 rfl) ?_
    refine lv_iconst (v := 3) hx hb d_Tables_isOrder_12 (by decide) ?_
    have hPc := hP.sub (ws' := [(h, .inr (0, [.ref a, .int (nI n)])), (a, .inl (cB, ln, .inl f))]) [0, 1] rfl
    have hKc := hK.sub (tys' := [(cB, .byte)]) [0] rfl
    refine z_ci (va_runV (As := [.int 3]) (rest := []) ⟨hx, hb, hml, hown, hts⟩ (c_Row_at l D cB h a n ln f 3 hln) (z_cV hN wd_212 wd_61 wd_556 hd_Row_at rfl rfl ⟨Nat.le_of_ble_eq_true rfl, Nat.le_of_ble_eq_true rfl⟩ wd_210 wd_211) (z_preV (va_recv (ci := 0) (q0 := 0) hK hP rfl rfl) hPc hKc hN) rfl rfl hl.1 rfl (lv_room (Nat.le_of_ble_eq_true rfl)) d_Tables_isOrder_13 ⟨Nat.le_of_ble_eq_true rfl, Nat.le_of_ble_eq_true rfl⟩) (fun r13 e13 => ?_)
    subst e13
    refine lv_if_ne (tgt := 51) hx hb d_Tables_isOrder_16 rfl (fun h16 => ?_) (fun h16 => ?_)
    · refine lv_iconst (v := 0) hx hb d_Tables_isOrder_51 (by decide) ?_
      exact W.zret (v := 0) hx hb hr rfl (fun t ht hW => ⟨_, rfl, (by first | exact (if_neg (fun z => h8 z.1)).symm | exact (if_neg (fun z => h16 z.2.1)).symm | exact (if_pos ⟨h8, h16, h25, h35, by omega⟩).symm | exact (if_neg (fun z => h35 z.2.2.2.1)).symm | exact (if_neg (fun z => Nat.not_le_of_lt h44 z.2.2.2.2)).symm | exact (if_neg (fun z => z.2.2.1 h25)).symm), ht⟩) (fun _ h => by cases h) d_Tables_isOrder_52
    · refine lv_aload_n hx hb d_Tables_isOrder_19 rfl (lv_at hl 0 rfl) ?_
      refine lv_bipush (v := 32) hx hb d_Tables_isOrder_20 (by decide) ?_
      have hPc := hP.sub (ws' := [(h, .inr (0, [.ref a, .int (nI n)])), (a, .inl (cB, ln, .inl f))]) [0, 1] rfl
      have hKc := hK.sub (tys' := [(cB, .byte)]) [0] rfl
      refine z_ci (va_runV (As := [.int (nI 32)]) (rest := []) ⟨hx, hb, hml, hown, hts⟩ (c_Row_bit l D cB h a n ln f 32 hln (by omega)) (z_cV hN wd_563 wd_61 wd_560 hd_Row_bit rfl rfl ⟨Nat.le_of_ble_eq_true rfl, Nat.le_of_ble_eq_true rfl⟩ wd_561 wd_562) (z_preV (va_recv (ci := 0) (q0 := 0) hK hP rfl rfl) hPc hKc hN) rfl rfl hl.1 rfl (lv_room (Nat.le_of_ble_eq_true rfl)) d_Tables_isOrder_22 ⟨Nat.le_of_ble_eq_true rfl, Nat.le_of_ble_eq_true rfl⟩) (fun r22 e22 => ?_)
      subst e22
      refine lv_if_ne (tgt := 51) hx hb d_Tables_isOrder_25 rfl (fun h25 => ?_) (fun h25 => ?_)
      · have h25 := mo_1 h25
        refine lv_iconst (v := 0) hx hb d_Tables_isOrder_51 (by decide) ?_
        exact W.zret (v := 0) hx hb hr rfl (fun t ht hW => ⟨_, rfl, (by first | exact (if_neg (fun z => h8 z.1)).symm | exact (if_neg (fun z => h16 z.2.1)).symm | exact (if_pos ⟨h8, h16, h25, h35, by omega⟩).symm | exact (if_neg (fun z => h35 z.2.2.2.1)).symm | exact (if_neg (fun z => Nat.not_le_of_lt h44 z.2.2.2.2)).symm | exact (if_neg (fun z => z.2.2.1 h25)).symm), ht⟩) (fun _ h => by cases h) d_Tables_isOrder_52
      · have h25 := mo_0 h25
        refine lv_aload_n hx hb d_Tables_isOrder_28 rfl (lv_at hl 0 rfl) ?_
        refine lv_bipush (v := 13) hx hb d_Tables_isOrder_29 (by decide) ?_
        have hPc := hP.sub (ws' := [(h, .inr (0, [.ref a, .int (nI n)])), (a, .inl (cB, ln, .inl f))]) [0, 1] rfl
        have hKc := hK.sub (tys' := [(cB, .byte)]) [0] rfl
        refine z_ci (va_runV (As := [.int 13]) (rest := []) ⟨hx, hb, hml, hown, hts⟩ (c_Row_at l D cB h a n ln f 13 hln) (z_cV hN wd_212 wd_61 wd_556 hd_Row_at rfl rfl ⟨Nat.le_of_ble_eq_true rfl, Nat.le_of_ble_eq_true rfl⟩ wd_210 wd_211) (z_preV (va_recv (ci := 0) (q0 := 0) hK hP rfl rfl) hPc hKc hN) rfl rfl hl.1 rfl (lv_room (Nat.le_of_ble_eq_true rfl)) d_Tables_isOrder_31 ⟨Nat.le_of_ble_eq_true rfl, Nat.le_of_ble_eq_true rfl⟩) (fun r31 e31 => ?_)
        subst e31
        refine lv_iconst (v := 5) hx hb d_Tables_isOrder_34 (by decide) ?_
        refine lv_icmp_ne (tgt := 51) hx hb d_Tables_isOrder_35 rfl (fun h35 => ?_) (fun h35 => ?_)
        · refine lv_iconst (v := 0) hx hb d_Tables_isOrder_51 (by decide) ?_
          exact W.zret (v := 0) hx hb hr rfl (fun t ht hW => ⟨_, rfl, (by first | exact (if_neg (fun z => h8 z.1)).symm | exact (if_neg (fun z => h16 z.2.1)).symm | exact (if_pos ⟨h8, h16, h25, h35, by omega⟩).symm | exact (if_neg (fun z => h35 z.2.2.2.1)).symm | exact (if_neg (fun z => Nat.not_le_of_lt h44 z.2.2.2.2)).symm | exact (if_neg (fun z => z.2.2.1 h25)).symm), ht⟩) (fun _ h => by cases h) d_Tables_isOrder_52
        · refine lv_aload_n hx hb d_Tables_isOrder_38 rfl (lv_at hl 0 rfl) ?_
          refine va_getN (D := D) (ci := 0) (v := .int (nI n)) (C := R_Row) (T := F_Row) (N := 2) hx hb hts i_Row hown hK hP 0 rfl rfl 1 (by decide) (hts _ wd_112) (fun _ h9 => h9) rfl d_Tables_isOrder_39 ?_
          refine lv_bipush (v := 19) hx hb d_Tables_isOrder_42 (by decide) ?_
          refine lv_icmp_lt (tgt := 51) hx hb d_Tables_isOrder_44 rfl (fun h44 => ?_) (fun h44 => ?_)
          · have h44 := (nI_ltI (b := 19) (by omega) (by omega)).mp h44
            refine lv_iconst (v := 0) hx hb d_Tables_isOrder_51 (by decide) ?_
            exact W.zret (v := 0) hx hb hr rfl (fun t ht hW => ⟨_, rfl, (by first | exact (if_neg (fun z => h8 z.1)).symm | exact (if_neg (fun z => h16 z.2.1)).symm | exact (if_pos ⟨h8, h16, h25, h35, by omega⟩).symm | exact (if_neg (fun z => h35 z.2.2.2.1)).symm | exact (if_neg (fun z => Nat.not_le_of_lt h44 z.2.2.2.2)).symm | exact (if_neg (fun z => z.2.2.1 h25)).symm), ht⟩) (fun _ h => by cases h) d_Tables_isOrder_52
          · have h44 := mt (nI_ltI (b := 19) (by omega) (by omega)).mpr h44
            refine lv_iconst (v := 1) hx hb d_Tables_isOrder_47 (by decide) ?_
            refine lv_goto (tgt := 52) hx hb d_Tables_isOrder_48 rfl ?_
            exact W.zret (v := 1) hx hb hr rfl (fun t ht hW => ⟨_, rfl, (by first | exact (if_neg (fun z => h8 z.1)).symm | exact (if_neg (fun z => h16 z.2.1)).symm | exact (if_pos ⟨h8, h16, h25, h35, by omega⟩).symm | exact (if_neg (fun z => h35 z.2.2.2.1)).symm | exact (if_neg (fun z => Nat.not_le_of_lt h44 z.2.2.2.2)).symm | exact (if_neg (fun z => z.2.2.1 h25)).symm), ht⟩) (fun _ h => by cases h) d_Tables_isOrder_52
