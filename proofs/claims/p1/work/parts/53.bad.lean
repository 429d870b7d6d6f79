theorem wd_59 : (Jvm.Cond.initialized "StreamSplitter") ∈ lw_ok := List.mem_filter.mpr ⟨List.mem_of_getElem? (i := 59) (by decide +kernel), rfl⟩
theorem wd_180 : (Jvm.Cond.fieldLinkNest "StreamSplitter" (76 : Nat) "StreamSplitter$Receiver" "tables" "LStreamSplitter$Tables;" "StreamSplitter") ∈ lw_ok := List.mem_filter.mpr ⟨List.mem_of_getElem? (i := 180) (by decide +kernel), rfl⟩
theorem wd_302 : (Jvm.Cond.methodLink "StreamSplitter$Tables" (22 : Nat) ({ cls := "java/util/ArrayList", name := "size", desc := "()I" } : Jvm.MethodName)) ∈ lw_ok := List.mem_filter.mpr ⟨List.mem_of_getElem? (i := 302) (by decide +kernel), rfl⟩
theorem wd_303 : (Jvm.Cond.instanceMethod ({ cls := "java/util/ArrayList", name := "size", desc := "()I" } : Jvm.MethodName)) ∈ lw_ok := List.mem_filter.mpr ⟨List.mem_of_getElem? (i := 303) (by decide +kernel), rfl⟩
theorem wd_304 : (Jvm.Cond.selects "java/util/ArrayList" ({ cls := "java/util/ArrayList", name := "size", desc := "()I" } : Jvm.MethodName) ({ cls := "java/util/ArrayList", name := "size", desc := "()I" } : Jvm.MethodName)) ∈ lw_ok := List.mem_filter.mpr ⟨List.mem_of_getElem? (i := 304) (by decide +kernel), rfl⟩
set_option maxRecDepth 100000 in
theorem wd_305 : (Jvm.Cond.code ({ cls := "java/util/ArrayList", name := "size", desc := "()I" } : Jvm.MethodName) prog_28_method_8_code (1 : Nat) (Option.some Jvm.ClassFile.FieldType.int)) ∈ lw_ok := List.mem_filter.mpr ⟨List.mem_of_getElem? (i := 305) (by rfl), rfl⟩
theorem wd_820 : (Jvm.Cond.methodLink "StreamSplitter" (105 : Nat) ({ cls := "java/util/ArrayList", name := "size", desc := "()I" } : Jvm.MethodName)) ∈ lw_ok := List.mem_filter.mpr ⟨List.mem_of_getElem? (i := 820) (by decide +kernel), rfl⟩
theorem wd_829 : (Jvm.Cond.methodLink "StreamSplitter" (110 : Nat) ({ cls := "StreamSplitter$Tables", name := "programmeAt", desc := "(I)LStreamSplitter$Programme;" } : Jvm.MethodName)) ∈ lw_ok := List.mem_filter.mpr ⟨List.mem_of_getElem? (i := 829) (by decide +kernel), rfl⟩
theorem wd_830 : (Jvm.Cond.instanceMethod ({ cls := "StreamSplitter$Tables", name := "programmeAt", desc := "(I)LStreamSplitter$Programme;" } : Jvm.MethodName)) ∈ lw_ok := List.mem_filter.mpr ⟨List.mem_of_getElem? (i := 830) (by decide +kernel), rfl⟩
theorem wd_831 : (Jvm.Cond.selects "StreamSplitter$Tables" ({ cls := "StreamSplitter$Tables", name := "programmeAt", desc := "(I)LStreamSplitter$Programme;" } : Jvm.MethodName) ({ cls := "StreamSplitter$Tables", name := "programmeAt", desc := "(I)LStreamSplitter$Programme;" } : Jvm.MethodName)) ∈ lw_ok := List.mem_filter.mpr ⟨List.mem_of_getElem? (i := 831) (by decide +kernel), rfl⟩
set_option maxRecDepth 100000 in
theorem wd_832 : (Jvm.Cond.code ({ cls := "StreamSplitter$Tables", name := "programmeAt", desc := "(I)LStreamSplitter$Programme;" } : Jvm.MethodName) prog_11_method_2_code (2 : Nat) (Option.some (Jvm.ClassFile.FieldType.object "StreamSplitter$Programme"))) ∈ lw_ok := List.mem_filter.mpr ⟨List.mem_of_getElem? (i := 832) (by rfl), rfl⟩
theorem wd_881 : (Jvm.Cond.methodLink "StreamSplitter" (190 : Nat) ({ cls := "StreamSplitter", name := "isNoPid", desc := "(I)Z" } : Jvm.MethodName)) ∈ lw_ok := List.mem_filter.mpr ⟨List.mem_of_getElem? (i := 881) (by decide +kernel), rfl⟩
theorem wd_882 : (Jvm.Cond.static ({ cls := "StreamSplitter", name := "isNoPid", desc := "(I)Z" } : Jvm.MethodName)) ∈ lw_ok := List.mem_filter.mpr ⟨List.mem_of_getElem? (i := 882) (by decide +kernel), rfl⟩
set_option maxRecDepth 100000 in
theorem wd_883 : (Jvm.Cond.code ({ cls := "StreamSplitter", name := "isNoPid", desc := "(I)Z" } : Jvm.MethodName) prog_1_method_21_code (1 : Nat) (Option.some Jvm.ClassFile.FieldType.boolean)) ∈ lw_ok := List.mem_filter.mpr ⟨List.mem_of_getElem? (i := 883) (by rfl), rfl⟩
theorem wd_893 : (Jvm.Cond.constant "StreamSplitter" (208 : Nat) (65535 : Int32)) ∈ lw_ok := List.mem_filter.mpr ⟨List.mem_of_getElem? (i := 893) (by decide +kernel), rfl⟩
theorem wd_1037 : (Jvm.Cond.constant "StreamSplitter" (247 : Nat) (2097151 : Int32)) ∈ lw_ok := List.mem_filter.mpr ⟨List.mem_of_getElem? (i := 1037) (by decide +kernel), rfl⟩
theorem wd_1038 : (Jvm.Cond.constantLong "StreamSplitter" (248 : Nat) (8589934592 : Int64)) ∈ lw_ok := List.mem_filter.mpr ⟨List.mem_of_getElem? (i := 1038) (by decide +kernel), rfl⟩
theorem hd_AL_size : y_AL_size.cls ≠ "java/lang/invoke/MethodHandle" ∧ y_AL_size.cls ≠ "java/lang/invoke/VarHandle" ∧ (parseMethodDescriptor y_AL_size.desc).map (fun d => d.parameters.length) = some 0 := by decide +kernel
theorem hd_SS_isNoPid : y_SS_isNoPid.cls ≠ "java/lang/invoke/MethodHandle" ∧ y_SS_isNoPid.cls ≠ "java/lang/invoke/VarHandle" ∧ (parseMethodDescriptor y_SS_isNoPid.desc).map (fun d => d.parameters.length) = some 1 := by decide +kernel
theorem hd_Tables_programmeAt : y_Tables_programmeAt.cls ≠ "java/lang/invoke/MethodHandle" ∧ y_Tables_programmeAt.cls ≠ "java/lang/invoke/VarHandle" ∧ (parseMethodDescriptor y_Tables_programmeAt.desc).map (fun d => d.parameters.length) = some 1 := by decide +kernel
theorem d_SS_addStream_0 : decode b_SS_addStream 0 = .ok (.iload_n 1, 1) := by decide +kernel
theorem d_SS_addStream_1 : decode b_SS_addStream 1 = .ok (.ifCond .lt 14, 3) := by decide +kernel
theorem d_SS_addStream_4 : decode b_SS_addStream 4 = .ok (.iload_n 1, 1) := by decide +kernel
theorem d_SS_addStream_5 : decode b_SS_addStream 5 = .ok (.aload_n 0, 1) := by decide +kernel
theorem d_SS_addStream_6 : decode b_SS_addStream 6 = .ok (.getfield 19, 3) := by decide +kernel
theorem d_SS_addStream_9 : decode b_SS_addStream 9 = .ok (.invokevirtual 105, 3) := by decide +kernel
theorem d_SS_addStream_12 : decode b_SS_addStream 12 = .ok (.if_icmp .lt 13, 3) := by decide +kernel
theorem d_SS_addStream_15 : decode b_SS_addStream 15 = .ok (.new 44, 3) := by decide +kernel
theorem d_SS_addStream_18 : decode b_SS_addStream 18 = .ok (.dup, 1) := by decide +kernel
theorem d_SS_addStream_19 : decode b_SS_addStream 19 = .ok (.ldc 218, 2) := by decide +kernel
theorem d_SS_addStream_21 : decode b_SS_addStream 21 = .ok (.invokespecial 48, 3) := by decide +kernel
theorem d_SS_addStream_24 : decode b_SS_addStream 24 = .ok (.athrow, 1) := by decide +kernel
theorem d_SS_clock_0 : decode b_SS_clock 0 = .ok (.iload_n 1, 1) := by decide +kernel
theorem d_SS_clock_1 : decode b_SS_clock 1 = .ok (.invokestatic 190, 3) := by decide +kernel
theorem d_SS_clock_4 : decode b_SS_clock 4 = .ok (.ifCond .eq 13, 3) := by decide +kernel
theorem d_SS_clock_7 : decode b_SS_clock 7 = .ok (.new 23, 3) := by decide +kernel
theorem d_SS_clock_10 : decode b_SS_clock 10 = .ok (.dup, 1) := by decide +kernel
theorem d_SS_clock_11 : decode b_SS_clock 11 = .ok (.ldc 194, 2) := by decide +kernel
theorem d_SS_clock_13 : decode b_SS_clock 13 = .ok (.invokespecial 27, 3) := by decide +kernel
theorem d_SS_clock_16 : decode b_SS_clock 16 = .ok (.athrow, 1) := by decide +kernel
theorem d_SS_now_0 : decode b_SS_now 0 = .ok (.aload_n 0, 1) := by decide +kernel
theorem d_SS_now_1 : decode b_SS_now 1 = .ok (.getfield 12, 3) := by decide +kernel
theorem d_SS_now_4 : decode b_SS_now 4 = .ok (.getfield 76, 3) := by decide +kernel
theorem d_SS_now_7 : decode b_SS_now 7 = .ok (.iload_n 1, 1) := by decide +kernel
theorem d_SS_now_8 : decode b_SS_now 8 = .ok (.invokevirtual 110, 3) := by decide +kernel
theorem d_SS_now_11 : decode b_SS_now 11 = .ok (.astore_n 2, 1) := by decide +kernel
theorem d_SS_now_12 : decode b_SS_now 12 = .ok (.aload_n 2, 1) := by decide +kernel
theorem d_SS_now_13 : decode b_SS_now 13 = .ok (.ifnonnull 13, 3) := by decide +kernel
theorem d_SS_now_16 : decode b_SS_now 16 = .ok (.new 44, 3) := by decide +kernel
theorem d_SS_now_19 : decode b_SS_now 19 = .ok (.dup, 1) := by decide +kernel
theorem d_SS_now_20 : decode b_SS_now 20 = .ok (.ldc 114, 2) := by decide +kernel
theorem d_SS_now_22 : decode b_SS_now 22 = .ok (.invokespecial 48, 3) := by decide +kernel
theorem d_SS_now_25 : decode b_SS_now 25 = .ok (.athrow, 1) := by decide +kernel
theorem d_SS_order_0 : decode b_SS_order 0 = .ok (.iload_n 3, 1) := by decide +kernel
theorem d_SS_order_1 : decode b_SS_order 1 = .ok (.ifCond .lt 8, 3) := by decide +kernel
theorem d_SS_order_4 : decode b_SS_order 4 = .ok (.iload_n 3, 1) := by decide +kernel
theorem d_SS_order_5 : decode b_SS_order 5 = .ok (.iconst 3, 1) := by decide +kernel
theorem d_SS_order_6 : decode b_SS_order 6 = .ok (.if_icmp .le 13, 3) := by decide +kernel
theorem d_SS_order_9 : decode b_SS_order 9 = .ok (.new 23, 3) := by decide +kernel
theorem d_SS_order_12 : decode b_SS_order 12 = .ok (.dup, 1) := by decide +kernel
theorem d_SS_order_13 : decode b_SS_order 13 = .ok (.ldc 153, 2) := by decide +kernel
theorem d_SS_order_15 : decode b_SS_order 15 = .ok (.invokespecial 27, 3) := by decide +kernel
theorem d_SS_order_18 : decode b_SS_order 18 = .ok (.athrow, 1) := by decide +kernel
theorem d_SS_order_19 : decode b_SS_order 19 = .ok (.aload_n 0, 1) := by decide +kernel
theorem d_SS_order_20 : decode b_SS_order 20 = .ok (.getfield 12, 3) := by decide +kernel
theorem d_SS_order_23 : decode b_SS_order 23 = .ok (.getfield 76, 3) := by decide +kernel
theorem d_SS_order_26 : decode b_SS_order 26 = .ok (.iload_n 1, 1) := by decide +kernel
theorem d_SS_order_27 : decode b_SS_order 27 = .ok (.invokevirtual 110, 3) := by decide +kernel
theorem d_SS_order_30 : decode b_SS_order 30 = .ok (.astore 4, 2) := by decide +kernel
theorem d_SS_order_32 : decode b_SS_order 32 = .ok (.aload 4, 2) := by decide +kernel
theorem d_SS_order_34 : decode b_SS_order 34 = .ok (.ifnonnull 13, 3) := by decide +kernel
theorem d_SS_order_37 : decode b_SS_order 37 = .ok (.new 44, 3) := by decide +kernel
theorem d_SS_order_40 : decode b_SS_order 40 = .ok (.dup, 1) := by decide +kernel
theorem d_SS_order_41 : decode b_SS_order 41 = .ok (.ldc 114, 2) := by decide +kernel
theorem d_SS_order_43 : decode b_SS_order 43 = .ok (.invokespecial 48, 3) := by decide +kernel
theorem d_SS_order_46 : decode b_SS_order 46 = .ok (.athrow, 1) := by decide +kernel
theorem d_SS_piece_0 : decode b_SS_piece 0 = .ok (.iload_n 2, 1) := by decide +kernel
theorem d_SS_piece_1 : decode b_SS_piece 1 = .ok (.ifCond .lt 12, 3) := by decide +kernel
theorem d_SS_piece_4 : decode b_SS_piece 4 = .ok (.iload_n 2, 1) := by decide +kernel
theorem d_SS_piece_5 : decode b_SS_piece 5 = .ok (.iconst 4, 1) := by decide +kernel
theorem d_SS_piece_6 : decode b_SS_piece 6 = .ok (.if_icmp .gt 7, 3) := by decide +kernel
theorem d_SS_piece_9 : decode b_SS_piece 9 = .ok (.iload_n 1, 1) := by decide +kernel
theorem d_SS_piece_10 : decode b_SS_piece 10 = .ok (.ifCond .ge 13, 3) := by decide +kernel
theorem d_SS_piece_13 : decode b_SS_piece 13 = .ok (.new 23, 3) := by decide +kernel
theorem d_SS_piece_16 : decode b_SS_piece 16 = .ok (.dup, 1) := by decide +kernel
theorem d_SS_piece_17 : decode b_SS_piece 17 = .ok (.ldc 171, 2) := by decide +kernel
theorem d_SS_piece_19 : decode b_SS_piece 19 = .ok (.invokespecial 27, 3) := by decide +kernel
theorem d_SS_piece_22 : decode b_SS_piece 22 = .ok (.athrow, 1) := by decide +kernel
theorem d_SS_plan_0 : decode b_SS_plan 0 = .ok (.iload_n 1, 1) := by decide +kernel
theorem d_SS_plan_1 : decode b_SS_plan 1 = .ok (.iconst 1, 1) := by decide +kernel
theorem d_SS_plan_2 : decode b_SS_plan 2 = .ok (.if_icmp .lt 16, 3) := by decide +kernel
theorem d_SS_plan_5 : decode b_SS_plan 5 = .ok (.iload_n 1, 1) := by decide +kernel
theorem d_SS_plan_6 : decode b_SS_plan 6 = .ok (.ldc 208, 2) := by decide +kernel
theorem d_SS_plan_8 : decode b_SS_plan 8 = .ok (.if_icmp .gt 10, 3) := by decide +kernel
theorem d_SS_plan_11 : decode b_SS_plan 11 = .ok (.iload_n 2, 1) := by decide +kernel
theorem d_SS_plan_12 : decode b_SS_plan 12 = .ok (.invokestatic 190, 3) := by decide +kernel
theorem d_SS_plan_15 : decode b_SS_plan 15 = .ok (.ifCond .eq 13, 3) := by decide +kernel
theorem d_SS_plan_18 : decode b_SS_plan 18 = .ok (.new 23, 3) := by decide +kernel
theorem d_SS_plan_21 : decode b_SS_plan 21 = .ok (.dup, 1) := by decide +kernel
theorem d_SS_plan_22 : decode b_SS_plan 22 = .ok (.ldc 209, 2) := by decide +kernel
theorem d_SS_plan_24 : decode b_SS_plan 24 = .ok (.invokespecial 27, 3) := by decide +kernel
theorem d_SS_plan_27 : decode b_SS_plan 27 = .ok (.athrow, 1) := by decide +kernel
theorem d_SS_programme_0 : decode b_SS_programme 0 = .ok (.iload_n 2, 1) := by decide +kernel
theorem d_SS_programme_1 : decode b_SS_programme 1 = .ok (.ifCond .lt 9, 3) := by decide +kernel
theorem d_SS_programme_4 : decode b_SS_programme 4 = .ok (.iload_n 2, 1) := by decide +kernel
theorem d_SS_programme_5 : decode b_SS_programme 5 = .ok (.bipush 6, 2) := by decide +kernel
theorem d_SS_programme_7 : decode b_SS_programme 7 = .ok (.if_icmp .le 13, 3) := by decide +kernel
theorem d_SS_programme_10 : decode b_SS_programme 10 = .ok (.new 23, 3) := by decide +kernel
theorem d_SS_programme_13 : decode b_SS_programme 13 = .ok (.dup, 1) := by decide +kernel
theorem d_SS_programme_14 : decode b_SS_programme 14 = .ok (.ldc 108, 2) := by decide +kernel
theorem d_SS_programme_16 : decode b_SS_programme 16 = .ok (.invokespecial 27, 3) := by decide +kernel
theorem d_SS_programme_19 : decode b_SS_programme 19 = .ok (.athrow, 1) := by decide +kernel
theorem d_SS_programme_20 : decode b_SS_programme 20 = .ok (.aload_n 0, 1) := by decide +kernel
theorem d_SS_programme_21 : decode b_SS_programme 21 = .ok (.getfield 12, 3) := by decide +kernel
theorem d_SS_programme_24 : decode b_SS_programme 24 = .ok (.getfield 76, 3) := by decide +kernel
theorem d_SS_programme_27 : decode b_SS_programme 27 = .ok (.iload_n 1, 1) := by decide +kernel
theorem d_SS_programme_28 : decode b_SS_programme 28 = .ok (.invokevirtual 110, 3) := by decide +kernel
theorem d_SS_programme_31 : decode b_SS_programme 31 = .ok (.astore_n 3, 1) := by decide +kernel
theorem d_SS_programme_32 : decode b_SS_programme 32 = .ok (.aload_n 3, 1) := by decide +kernel
theorem d_SS_programme_33 : decode b_SS_programme 33 = .ok (.ifnonnull 13, 3) := by decide +kernel
theorem d_SS_programme_36 : decode b_SS_programme 36 = .ok (.new 44, 3) := by decide +kernel
theorem d_SS_programme_39 : decode b_SS_programme 39 = .ok (.dup, 1) := by decide +kernel
theorem d_SS_programme_40 : decode b_SS_programme 40 = .ok (.ldc 114, 2) := by decide +kernel
theorem d_SS_programme_42 : decode b_SS_programme 42 = .ok (.invokespecial 48, 3) := by decide +kernel
theorem d_SS_programme_45 : decode b_SS_programme 45 = .ok (.athrow, 1) := by decide +kernel
theorem d_SS_stream_0 : decode b_SS_stream 0 = .ok (.aload_n 0, 1) := by decide +kernel
theorem d_SS_stream_1 : decode b_SS_stream 1 = .ok (.getfield 12, 3) := by decide +kernel
theorem d_SS_stream_4 : decode b_SS_stream 4 = .ok (.getfield 76, 3) := by decide +kernel
theorem d_SS_stream_7 : decode b_SS_stream 7 = .ok (.iload_n 1, 1) := by decide +kernel
theorem d_SS_stream_8 : decode b_SS_stream 8 = .ok (.invokevirtual 110, 3) := by decide +kernel
theorem d_SS_stream_11 : decode b_SS_stream 11 = .ok (.astore_n 3, 1) := by decide +kernel
theorem d_SS_stream_12 : decode b_SS_stream 12 = .ok (.aload_n 3, 1) := by decide +kernel
theorem d_SS_stream_13 : decode b_SS_stream 13 = .ok (.ifnonnull 13, 3) := by decide +kernel
theorem d_SS_stream_16 : decode b_SS_stream 16 = .ok (.new 44, 3) := by decide +kernel
theorem d_SS_stream_19 : decode b_SS_stream 19 = .ok (.dup, 1) := by decide +kernel
theorem d_SS_stream_20 : decode b_SS_stream 20 = .ok (.ldc 114, 2) := by decide +kernel
theorem d_SS_stream_22 : decode b_SS_stream 22 = .ok (.invokespecial 48, 3) := by decide +kernel
theorem d_SS_stream_25 : decode b_SS_stream 25 = .ok (.athrow, 1) := by decide +kernel
theorem d_SS_told_0 : decode b_SS_told 0 = .ok (.iload_n 1, 1) := by decide +kernel
theorem d_SS_told_1 : decode b_SS_told 1 = .ok (.ifCond .lt 9, 3) := by decide +kernel
theorem d_SS_told_4 : decode b_SS_told 4 = .ok (.iload_n 1, 1) := by decide +kernel
theorem d_SS_told_5 : decode b_SS_told 5 = .ok (.bipush 11, 2) := by decide +kernel
theorem d_SS_told_7 : decode b_SS_told 7 = .ok (.if_icmp .le 13, 3) := by decide +kernel
theorem d_SS_told_10 : decode b_SS_told 10 = .ok (.new 23, 3) := by decide +kernel
theorem d_SS_told_13 : decode b_SS_told 13 = .ok (.dup, 1) := by decide +kernel
theorem d_SS_told_14 : decode b_SS_told 14 = .ok (.ldc 97, 2) := by decide +kernel
theorem d_SS_told_16 : decode b_SS_told 16 = .ok (.invokespecial 27, 3) := by decide +kernel
theorem d_SS_told_19 : decode b_SS_told 19 = .ok (.athrow, 1) := by decide +kernel
theorem d_SS_writeOrder_0 : decode b_SS_writeOrder 0 = .ok (.iload_n 1, 1) := by decide +kernel
theorem d_SS_writeOrder_1 : decode b_SS_writeOrder 1 = .ok (.invokestatic 190, 3) := by decide +kernel
theorem d_SS_writeOrder_4 : decode b_SS_writeOrder 4 = .ok (.ifCond .ne 36, 3) := by decide +kernel
theorem d_SS_writeOrder_7 : decode b_SS_writeOrder 7 = .ok (.iload_n 3, 1) := by decide +kernel
theorem d_SS_writeOrder_8 : decode b_SS_writeOrder 8 = .ok (.ifCond .lt 32, 3) := by decide +kernel
theorem d_SS_writeOrder_11 : decode b_SS_writeOrder 11 = .ok (.iload_n 3, 1) := by decide +kernel
theorem d_SS_writeOrder_12 : decode b_SS_writeOrder 12 = .ok (.bipush 63, 2) := by decide +kernel
theorem d_SS_writeOrder_14 : decode b_SS_writeOrder 14 = .ok (.if_icmp .gt 26, 3) := by decide +kernel
theorem d_SS_writeOrder_17 : decode b_SS_writeOrder 17 = .ok (.lload 4, 2) := by decide +kernel
theorem d_SS_writeOrder_19 : decode b_SS_writeOrder 19 = .ok (.lconst 0, 1) := by decide +kernel
theorem d_SS_writeOrder_20 : decode b_SS_writeOrder 20 = .ok (.lcmp, 1) := by decide +kernel
theorem d_SS_writeOrder_21 : decode b_SS_writeOrder 21 = .ok (.ifCond .lt 19, 3) := by decide +kernel
theorem d_SS_writeOrder_24 : decode b_SS_writeOrder 24 = .ok (.lload 4, 2) := by decide +kernel
theorem d_SS_writeOrder_26 : decode b_SS_writeOrder 26 = .ok (.ldc2_w 248, 3) := by decide +kernel
theorem d_SS_writeOrder_29 : decode b_SS_writeOrder 29 = .ok (.lcmp, 1) := by decide +kernel
theorem d_SS_writeOrder_30 : decode b_SS_writeOrder 30 = .ok (.ifCond .ge 10, 3) := by decide +kernel
theorem d_SS_writeOrder_33 : decode b_SS_writeOrder 33 = .ok (.lload 6, 2) := by decide +kernel
theorem d_SS_writeOrder_35 : decode b_SS_writeOrder 35 = .ok (.lconst 0, 1) := by decide +kernel
theorem d_SS_writeOrder_36 : decode b_SS_writeOrder 36 = .ok (.lcmp, 1) := by decide +kernel
theorem d_SS_writeOrder_37 : decode b_SS_writeOrder 37 = .ok (.ifCond .ge 14, 3) := by decide +kernel
theorem d_SS_writeOrder_40 : decode b_SS_writeOrder 40 = .ok (.new 23, 3) := by decide +kernel
theorem d_SS_writeOrder_43 : decode b_SS_writeOrder 43 = .ok (.dup, 1) := by decide +kernel
theorem d_SS_writeOrder_44 : decode b_SS_writeOrder 44 = .ok (.ldc_w 259, 3) := by decide +kernel
theorem d_SS_writeOrder_47 : decode b_SS_writeOrder 47 = .ok (.invokespecial 27, 3) := by decide +kernel
theorem d_SS_writeOrder_50 : decode b_SS_writeOrder 50 = .ok (.athrow, 1) := by decide +kernel
theorem d_SS_writePiece_0 : decode b_SS_writePiece 0 = .ok (.iload_n 1, 1) := by decide +kernel
theorem d_SS_writePiece_1 : decode b_SS_writePiece 1 = .ok (.ifCond .lt 30, 3) := by decide +kernel
theorem d_SS_writePiece_4 : decode b_SS_writePiece 4 = .ok (.iload_n 1, 1) := by decide +kernel
theorem d_SS_writePiece_5 : decode b_SS_writePiece 5 = .ok (.ldc 247, 2) := by decide +kernel
theorem d_SS_writePiece_7 : decode b_SS_writePiece 7 = .ok (.if_icmp .gt 24, 3) := by decide +kernel
theorem d_SS_writePiece_10 : decode b_SS_writePiece 10 = .ok (.iload 4, 2) := by decide +kernel
theorem d_SS_writePiece_12 : decode b_SS_writePiece 12 = .ok (.ifCond .lt 19, 3) := by decide +kernel
theorem d_SS_writePiece_15 : decode b_SS_writePiece 15 = .ok (.iload 4, 2) := by decide +kernel
theorem d_SS_writePiece_17 : decode b_SS_writePiece 17 = .ok (.sipush 4000, 3) := by decide +kernel
theorem d_SS_writePiece_20 : decode b_SS_writePiece 20 = .ok (.if_icmp .gt 11, 3) := by decide +kernel
theorem d_SS_writePiece_23 : decode b_SS_writePiece 23 = .ok (.lload_n 2, 1) := by decide +kernel
theorem d_SS_writePiece_24 : decode b_SS_writePiece 24 = .ok (.ldc2_w 248, 3) := by decide +kernel
theorem d_SS_writePiece_27 : decode b_SS_writePiece 27 = .ok (.lcmp, 1) := by decide +kernel
theorem d_SS_writePiece_28 : decode b_SS_writePiece 28 = .ok (.ifCond .lt 13, 3) := by decide +kernel
theorem d_SS_writePiece_31 : decode b_SS_writePiece 31 = .ok (.new 23, 3) := by decide +kernel
theorem d_SS_writePiece_34 : decode b_SS_writePiece 34 = .ok (.dup, 1) := by decide +kernel
theorem d_SS_writePiece_35 : decode b_SS_writePiece 35 = .ok (.ldc 250, 2) := by decide +kernel
theorem d_SS_writePiece_37 : decode b_SS_writePiece 37 = .ok (.invokespecial 27, 3) := by decide +kernel
theorem d_SS_writePiece_40 : decode b_SS_writePiece 40 = .ok (.athrow, 1) := by decide +kernel
theorem d_SS_writeTables_0 : decode b_SS_writeTables 0 = .ok (.iload_n 1, 1) := by decide +kernel
theorem d_SS_writeTables_1 : decode b_SS_writeTables 1 = .ok (.ifCond .lt 9, 3) := by decide +kernel
theorem d_SS_writeTables_4 : decode b_SS_writeTables 4 = .ok (.iload_n 1, 1) := by decide +kernel
theorem d_SS_writeTables_5 : decode b_SS_writeTables 5 = .ok (.bipush 31, 2) := by decide +kernel
theorem d_SS_writeTables_7 : decode b_SS_writeTables 7 = .ok (.if_icmp .le 13, 3) := by decide +kernel
theorem d_SS_writeTables_10 : decode b_SS_writeTables 10 = .ok (.new 23, 3) := by decide +kernel
theorem d_SS_writeTables_13 : decode b_SS_writeTables 13 = .ok (.dup, 1) := by decide +kernel
theorem d_SS_writeTables_14 : decode b_SS_writeTables 14 = .ok (.ldc 227, 2) := by decide +kernel
theorem d_SS_writeTables_16 : decode b_SS_writeTables 16 = .ok (.invokespecial 27, 3) := by decide +kernel
theorem d_SS_writeTables_19 : decode b_SS_writeTables 19 = .ok (.athrow, 1) := by decide +kernel
theorem d_Tables_programmeAt_0 : decode b_Tables_programmeAt 0 = .ok (.iload_n 1, 1) := by decide +kernel
theorem d_Tables_programmeAt_1 : decode b_Tables_programmeAt 1 = .ok (.ifCond .lt 28, 3) := by decide +kernel
theorem d_Tables_programmeAt_4 : decode b_Tables_programmeAt 4 = .ok (.iload_n 1, 1) := by decide +kernel
theorem d_Tables_programmeAt_5 : decode b_Tables_programmeAt 5 = .ok (.aload_n 0, 1) := by decide +kernel
theorem d_Tables_programmeAt_6 : decode b_Tables_programmeAt 6 = .ok (.getfield 18, 3) := by decide +kernel
theorem d_Tables_programmeAt_9 : decode b_Tables_programmeAt 9 = .ok (.invokevirtual 22, 3) := by decide +kernel
theorem d_Tables_programmeAt_12 : decode b_Tables_programmeAt 12 = .ok (.if_icmp .ge 17, 3) := by decide +kernel
theorem d_Tables_programmeAt_29 : decode b_Tables_programmeAt 29 = .ok (.aconst_null, 1) := by decide +kernel
theorem d_Tables_programmeAt_30 : decode b_Tables_programmeAt 30 = .ok (.areturn, 1) := by decide +kernel
/-! A string by ldc_w; refusals of the face's methods -/
section ZLW
variable {p : Program} {l : Launch} {e : Env} {R : Room} {s : State} {m : MethodId} {args : Array Value} {below : List Frame} {meth : Method} {c : Code} {H : Heap} {locs : List Loc} {cells slots : Nat} {Q : State → Prop}
variable {cc : ByteArray} {pc : Nat} {ls : Array Slot} {rest : List Value}
theorem z_ldcsw (hexec : p.tables.exec = Jvm.exec) (hb : c.code = cc) {own text : String} {index : Nat} (hown : s.vm.findClass own = some m.cls) (hconst : (Cond.stringRef own index text).before args s = true) (hdg : decode cc pc = .ok (.ldc_w index, 3))
    (kk : ∀ a : Addr, W p l e R s m args below meth c H locs cells slots Q (F0 m (pc + 3) ls (.ref a :: rest))) : W p l e R s m args below meth c H locs cells slots Q (F0 m pc ls rest) := by
  intro T hT X
  obtain ⟨k, cf, i, a, hk, hcf, hcp, -, hr, hev⟩ := Cond.stringRef_spec hown hconst
  obtain ⟨t, a1, b1⟩ := kk a T hT X
  refine ⟨t, ?_, b1⟩
  obtain ⟨k', hk', he⟩ := X.warmed.alike.2.2 _ _ hk
  have hr' : k'.resolved[index]? = some (some (.string a)) := by
    rcases X.warmed.entry hk hk' index with h | ⟨h, -⟩
    · rw [h]; exact hr
    · rw [hr] at h; cases h
  have hdg' : decode c.code (F0 m pc ls rest).pc = .ok (.ldc_w index, 3) := by rw [hb]; exact hdg
  have hgo : ∀ (g : JFrame), g.method = m → decode c.code g.pc = .ok (.ldc_w index, 3) → ∀ target, Steps p.tables e below (T.setTop { g with pc := g.pc + 3, stack := .ref a :: g.stack }) target → Steps p.tables e below (T.setTop g) target := by
    intro g hg hd target hrest
    subst hg
    jvm_step X.here [hexec, hd, ldc_w.wp_string (e := e) (s := T) (f := g) X.here.top hk' (by rw [he]; exact hcf) hcp hr']
    exact hrest
  exact hgo (F0 m pc ls rest) rfl hdg' t a1
end ZLW
theorem pd_bad {v : Int32} {r : Int32} (h : r = if v < 0 ∨ 8191 < v then 1 else 0) (hr : ¬ r = 0) : v < 0 ∨ 8191 < v := by
  by_cases c : v < 0 ∨ 8191 < v
  · exact c
  · rw [if_neg c] at h; exact absurd h hr
theorem pd_ok {v : Int32} {r : Int32} (h : r = if v < 0 ∨ 8191 < v then 1 else 0) (hr : r = 0) : ¬ (v < 0 ∨ 8191 < v) := by
  intro c
  rw [if_pos c, hr] at h
  exact absurd h (by decide)

set_option maxHeartbeats 4000000 in
set_option maxRecDepth 100000 in
theorem c_SS_told_bad (l : Launch) (D : va_G) (hfl : l.stackTraces = false) (B0 : State) (hG : zG B0) (sz : Nat) (h : Nat) (w : Int32) (hbad : w < 0 ∨ 11 < w) : MetT l y_SS_told [Cond.code y_SS_told b_SS_told 2 (some .int)] ({ frames := 6, cells := 1, slots := 6, locals := 82 }) (zMo [.ref h, .int w] D [] [] sz B0) (zQi (fun _ (_ : Unit) => False) (fun (_u : Unit) t => zW D (va_A [] sz) [] [] t) (va_A [] sz) (fun X => X = xA)) 1 6 (va_A [] sz) := by
  refine MetT.ofW (cc := b_SS_told) (maxL := 2) (ret := (some .int)) (by decide) rfl ?_
  intro p e s m args below meth cd s₁ Bd hml hem hv
  obtain ⟨rfl, hsz, hP, hK, hN, hD0, hO⟩ := hv
  have hx := Bd.exec
  have hb := Bd.bytes
  have hr := Bd.returns
  have hts := hN.use (a := ([.ref h, .int w]).toArray)
  have hown : s.vm.findClass R_SS = some m.cls := findClass_of_methodNamed Bd.named
  have hlocks := Bd.notSynchronized
  subst hsz
  have hD := hD0.self (sz := s.heap.size)
  have hAO := z_AO hD0 hO
  clear hD0
  have hA : ∀ q : Nat, s.heap.size ≤ q → va_A [] s.heap.size q := fun q h => Or.inr h
  have hS : va_S (va_A [] s.heap.size) s.heap s.heap [] := va_S.rf
  generalize hAe : va_A [] s.heap.size = A at hD hA hS hAO ⊢
  have hP : va_P D classes [] s.heap := hP
  have hl := lv_entry ([.ref h, .int w]) (n := 2) (Nat.le_of_ble_eq_true rfl)
  rw [lg_entry_eq]
  generalize (lg_sl ([.ref h, .int w]) ++ List.replicate (2 - (lg_sl ([.ref h, .int w])).length) Slot.unset).toArray = ls at hl ⊢
  have hl : lv_has ls 2 [(0, .ref h), (1, .int w)] := hl
  refine lv_iload_n hx hb d_SS_told_0 rfl (lv_at hl 1 rfl) ?_
  refine lv_if_lt (tgt := 10) hx hb d_SS_told_1 rfl (fun h1 => ?_) (fun h1 => ?_)
  · refine W.newc hx hb hown (hts _ wd_700) (hts _ wd_701) (hts _ wd_71) rfl d_SS_told_10 (by show 0 + 1 ≤ 1; omega) (by show 0 + 6 ≤ 6; omega) (fun cX kX hfX hkX _ _ => ?_)
    refine W.eq (g2 := F0 m 13 ls [.ref s.heap.size]) rfl ?_
    refine W.widen (k := 1) (n := 6) (by omega) (by omega) ?_
    refine lv_dup hx hb d_SS_told_13 rfl ?_
    refine z_ldcs hx hb hown (z_str hG hO (List.mem_of_getElem? (i := 819) (by decide +kernel) : (Jvm.Cond.stringRef "StreamSplitter" (97 : Nat) "what is not 0 .. 11") ∈ lw_tbl)) d_SS_told_14 (fun msg => ?_)
    exact z_throw (X := xA) (names := ["java/lang/RuntimeException", "java/lang/Exception"]) hx hb hfl hown (by decide) z_fits (fun a ha => z_oa hG hO (z_oaA a ha)) hem (by rw [hml]; exact hl.1) hfX hkX z_pushAt (Nat.le_refl _) d_SS_told_16 d_SS_told_19 (Nat.le_of_ble_eq_true rfl) (Nat.le_of_ble_eq_true rfl) hlocks (fun t ht hW => Or.inr ⟨xA, _, rfl, rfl, ht⟩)
  · refine lv_iload_n hx hb d_SS_told_4 rfl (lv_at hl 1 rfl) ?_
    refine lv_bipush (v := 11) hx hb d_SS_told_5 (by decide) ?_
    refine lv_icmp_le (tgt := 20) hx hb d_SS_told_7 rfl (fun h7 => ?_) (fun h7 => ?_)
    · exact absurd hbad (fun z => z.elim h1 (Int32.not_lt.mpr h7))
    · refine W.newc hx hb hown (hts _ wd_700) (hts _ wd_701) (hts _ wd_71) rfl d_SS_told_10 (by show 0 + 1 ≤ 1; omega) (by show 0 + 6 ≤ 6; omega) (fun cX kX hfX hkX _ _ => ?_)
      refine W.eq (g2 := F0 m 13 ls [.ref s.heap.size]) rfl ?_
      refine W.widen (k := 1) (n := 6) (by omega) (by omega) ?_
      refine lv_dup hx hb d_SS_told_13 rfl ?_
      refine z_ldcs hx hb hown (z_str hG hO (List.mem_of_getElem? (i := 819) (by decide +kernel) : (Jvm.Cond.stringRef "StreamSplitter" (97 : Nat) "what is not 0 .. 11") ∈ lw_tbl)) d_SS_told_14 (fun msg => ?_)
      exact z_throw (X := xA) (names := ["java/lang/RuntimeException", "java/lang/Exception"]) hx hb hfl hown (by decide) z_fits (fun a ha => z_oa hG hO (z_oaA a ha)) hem (by rw [hml]; exact hl.1) hfX hkX z_pushAt (Nat.le_refl _) d_SS_told_16 d_SS_told_19 (Nat.le_of_ble_eq_true rfl) (Nat.le_of_ble_eq_true rfl) hlocks (fun t ht hW => Or.inr ⟨xA, _, rfl, rfl, ht⟩)
set_option maxHeartbeats 4000000 in
set_option maxRecDepth 100000 in
theorem c_SS_programme_badA (l : Launch) (D : va_G) (hfl : l.stackTraces = false) (B0 : State) (hG : zG B0) (sz : Nat) (h : Nat) (k w : Int32) (hbad : w < 0 ∨ 6 < w) : MetT l y_SS_programme [Cond.code y_SS_programme b_SS_programme 4 (some .int)] ({ frames := 6, cells := 1, slots := 6, locals := 82 }) (zMo [.ref h, .int k, .int w] D [] [] sz B0) (zQi (fun _ (_ : Unit) => False) (fun (_u : Unit) t => zW D (va_A [] sz) [] [] t) (va_A [] sz) (fun X => X = xA)) 1 6 (va_A [] sz) := by
  refine MetT.ofW (cc := b_SS_programme) (maxL := 4) (ret := (some .int)) (by decide) rfl ?_
  intro p e s m args below meth cd s₁ Bd hml hem hv
  obtain ⟨rfl, hsz, hP, hK, hN, hD0, hO⟩ := hv
  have hx := Bd.exec
  have hb := Bd.bytes
  have hr := Bd.returns
  have hts := hN.use (a := ([.ref h, .int k, .int w]).toArray)
  have hown : s.vm.findClass R_SS = some m.cls := findClass_of_methodNamed Bd.named
  have hlocks := Bd.notSynchronized
  subst hsz
  have hD := hD0.self (sz := s.heap.size)
  have hAO := z_AO hD0 hO
  clear hD0
  have hA : ∀ q : Nat, s.heap.size ≤ q → va_A [] s.heap.size q := fun q h => Or.inr h
  have hS : va_S (va_A [] s.heap.size) s.heap s.heap [] := va_S.rf
  generalize hAe : va_A [] s.heap.size = A at hD hA hS hAO ⊢
  have hP : va_P D classes [] s.heap := hP
  have hl := lv_entry ([.ref h, .int k, .int w]) (n := 4) (Nat.le_of_ble_eq_true rfl)
  rw [lg_entry_eq]
  generalize (lg_sl ([.ref h, .int k, .int w]) ++ List.replicate (4 - (lg_sl ([.ref h, .int k, .int w])).length) Slot.unset).toArray = ls at hl ⊢
  have hl : lv_has ls 4 [(0, .ref h), (1, .int k), (2, .int w)] := hl
  refine lv_iload_n hx hb d_SS_programme_0 rfl (lv_at hl 2 rfl) ?_
  refine lv_if_lt (tgt := 10) hx hb d_SS_programme_1 rfl (fun h1 => ?_) (fun h1 => ?_)
  · refine W.newc hx hb hown (hts _ wd_700) (hts _ wd_701) (hts _ wd_71) rfl d_SS_programme_10 (by show 0 + 1 ≤ 1; omega) (by show 0 + 6 ≤ 6; omega) (fun cX kX hfX hkX _ _ => ?_)
    refine W.eq (g2 := F0 m 13 ls [.ref s.heap.size]) rfl ?_
    refine W.widen (k := 1) (n := 6) (by omega) (by omega) ?_
    refine lv_dup hx hb d_SS_programme_13 rfl ?_
    refine z_ldcs hx hb hown (z_str hG hO (List.mem_of_getElem? (i := 828) (by decide +kernel) : (Jvm.Cond.stringRef "StreamSplitter" (108 : Nat) "what is not 0 .. 6") ∈ lw_tbl)) d_SS_programme_14 (fun msg => ?_)
    exact z_throw (X := xA) (names := ["java/lang/RuntimeException", "java/lang/Exception"]) hx hb hfl hown (by decide) z_fits (fun a ha => z_oa hG hO (z_oaA a ha)) hem (by rw [hml]; exact hl.1) hfX hkX z_pushAt (Nat.le_refl _) d_SS_programme_16 d_SS_programme_19 (Nat.le_of_ble_eq_true rfl) (Nat.le_of_ble_eq_true rfl) hlocks (fun t ht hW => Or.inr ⟨xA, _, rfl, rfl, ht⟩)
  · refine lv_iload_n hx hb d_SS_programme_4 rfl (lv_at hl 2 rfl) ?_
    refine lv_bipush (v := 6) hx hb d_SS_programme_5 (by decide) ?_
    refine lv_icmp_le (tgt := 20) hx hb d_SS_programme_7 rfl (fun h7 => ?_) (fun h7 => ?_)
    · exact absurd hbad (fun z => z.elim h1 (Int32.not_lt.mpr h7))
    · refine W.newc hx hb hown (hts _ wd_700) (hts _ wd_701) (hts _ wd_71) rfl d_SS_programme_10 (by show 0 + 1 ≤ 1; omega) (by show 0 + 6 ≤ 6; omega) (fun cX kX hfX hkX _ _ => ?_)
      refine W.eq (g2 := F0 m 13 ls [.ref s.heap.size]) rfl ?_
      refine W.widen (k := 1) (n := 6) (by omega) (by omega) ?_
      refine lv_dup hx hb d_SS_programme_13 rfl ?_
      refine z_ldcs hx hb hown (z_str hG hO (List.mem_of_getElem? (i := 828) (by decide +kernel) : (Jvm.Cond.stringRef "StreamSplitter" (108 : Nat) "what is not 0 .. 6") ∈ lw_tbl)) d_SS_programme_14 (fun msg => ?_)
      exact z_throw (X := xA) (names := ["java/lang/RuntimeException", "java/lang/Exception"]) hx hb hfl hown (by decide) z_fits (fun a ha => z_oa hG hO (z_oaA a ha)) hem (by rw [hml]; exact hl.1) hfX hkX z_pushAt (Nat.le_refl _) d_SS_programme_16 d_SS_programme_19 (Nat.le_of_ble_eq_true rfl) (Nat.le_of_ble_eq_true rfl) hlocks (fun t ht hW => Or.inr ⟨xA, _, rfl, rfl, ht⟩)
set_option maxHeartbeats 4000000 in
set_option maxRecDepth 100000 in
theorem c_SS_order_badA (l : Launch) (D : va_G) (hfl : l.stackTraces = false) (B0 : State) (hG : zG B0) (sz : Nat) (h : Nat) (k j w : Int32) (hbad : w < 0 ∨ 3 < w) : MetT l y_SS_order [Cond.code y_SS_order b_SS_order 6 (some .long)] ({ frames := 6, cells := 1, slots := 6, locals := 82 }) (zMo [.ref h, .int k, .int j, .int w] D [] [] sz B0) (zQl (fun _ (_ : Unit) => False) (fun (_u : Unit) t => zW D (va_A [] sz) [] [] t) (va_A [] sz) (fun X => X = xA)) 1 6 (va_A [] sz) := by
  refine MetT.ofW (cc := b_SS_order) (maxL := 6) (ret := (some .long)) (by decide) rfl ?_
  intro p e s m args below meth cd s₁ Bd hml hem hv
  obtain ⟨rfl, hsz, hP, hK, hN, hD0, hO⟩ := hv
  have hx := Bd.exec
  have hb := Bd.bytes
  have hr := Bd.returns
  have hts := hN.use (a := ([.ref h, .int k, .int j, .int w]).toArray)
  have hown : s.vm.findClass R_SS = some m.cls := findClass_of_methodNamed Bd.named
  have hlocks := Bd.notSynchronized
  subst hsz
  have hD := hD0.self (sz := s.heap.size)
  have hAO := z_AO hD0 hO
  clear hD0
  have hA : ∀ q : Nat, s.heap.size ≤ q → va_A [] s.heap.size q := fun q h => Or.inr h
  have hS : va_S (va_A [] s.heap.size) s.heap s.heap [] := va_S.rf
  generalize hAe : va_A [] s.heap.size = A at hD hA hS hAO ⊢
  have hP : va_P D classes [] s.heap := hP
  have hl := lv_entry ([.ref h, .int k, .int j, .int w]) (n := 6) (Nat.le_of_ble_eq_true rfl)
  rw [lg_entry_eq]
  generalize (lg_sl ([.ref h, .int k, .int j, .int w]) ++ List.replicate (6 - (lg_sl ([.ref h, .int k, .int j, .int w])).length) Slot.unset).toArray = ls at hl ⊢
  have hl : lv_has ls 6 [(0, .ref h), (1, .int k), (2, .int j), (3, .int w)] := hl
  refine lv_iload_n hx hb d_SS_order_0 rfl (lv_at hl 3 rfl) ?_
  refine lv_if_lt (tgt := 9) hx hb d_SS_order_1 rfl (fun h1 => ?_) (fun h1 => ?_)
  · refine W.newc hx hb hown (hts _ wd_700) (hts _ wd_701) (hts _ wd_71) rfl d_SS_order_9 (by show 0 + 1 ≤ 1; omega) (by show 0 + 6 ≤ 6; omega) (fun cX kX hfX hkX _ _ => ?_)
    refine W.eq (g2 := F0 m 12 ls [.ref s.heap.size]) rfl ?_
    refine W.widen (k := 1) (n := 6) (by omega) (by omega) ?_
    refine lv_dup hx hb d_SS_order_12 rfl ?_
    refine z_ldcs hx hb hown (z_str hG hO (List.mem_of_getElem? (i := 858) (by decide +kernel) : (Jvm.Cond.stringRef "StreamSplitter" (153 : Nat) "what is not 0 .. 3") ∈ lw_tbl)) d_SS_order_13 (fun msg => ?_)
    exact z_throw (X := xA) (names := ["java/lang/RuntimeException", "java/lang/Exception"]) hx hb hfl hown (by decide) z_fits (fun a ha => z_oa hG hO (z_oaA a ha)) hem (by rw [hml]; exact hl.1) hfX hkX z_pushAt (Nat.le_refl _) d_SS_order_15 d_SS_order_18 (Nat.le_of_ble_eq_true rfl) (Nat.le_of_ble_eq_true rfl) hlocks (fun t ht hW => Or.inr ⟨xA, _, rfl, rfl, ht⟩)
  · refine lv_iload_n hx hb d_SS_order_4 rfl (lv_at hl 3 rfl) ?_
    refine lv_iconst (v := 3) hx hb d_SS_order_5 (by decide) ?_
    refine lv_icmp_le (tgt := 19) hx hb d_SS_order_6 rfl (fun h6 => ?_) (fun h6 => ?_)
    · exact absurd hbad (fun z => z.elim h1 (Int32.not_lt.mpr h6))
    · refine W.newc hx hb hown (hts _ wd_700) (hts _ wd_701) (hts _ wd_71) rfl d_SS_order_9 (by show 0 + 1 ≤ 1; omega) (by show 0 + 6 ≤ 6; omega) (fun cX kX hfX hkX _ _ => ?_)
      refine W.eq (g2 := F0 m 12 ls [.ref s.heap.size]) rfl ?_
      refine W.widen (k := 1) (n := 6) (by omega) (by omega) ?_
      refine lv_dup hx hb d_SS_order_12 rfl ?_
      refine z_ldcs hx hb hown (z_str hG hO (List.mem_of_getElem? (i := 858) (by decide +kernel) : (Jvm.Cond.stringRef "StreamSplitter" (153 : Nat) "what is not 0 .. 3") ∈ lw_tbl)) d_SS_order_13 (fun msg => ?_)
      exact z_throw (X := xA) (names := ["java/lang/RuntimeException", "java/lang/Exception"]) hx hb hfl hown (by decide) z_fits (fun a ha => z_oa hG hO (z_oaA a ha)) hem (by rw [hml]; exact hl.1) hfX hkX z_pushAt (Nat.le_refl _) d_SS_order_15 d_SS_order_18 (Nat.le_of_ble_eq_true rfl) (Nat.le_of_ble_eq_true rfl) hlocks (fun t ht hW => Or.inr ⟨xA, _, rfl, rfl, ht⟩)
set_option maxHeartbeats 4000000 in
set_option maxRecDepth 100000 in
theorem c_SS_piece_bad (l : Launch) (D : va_G) (hfl : l.stackTraces = false) (B0 : State) (hG : zG B0) (sz : Nat) (h : Nat) (k w : Int32) (hbad : w < 0 ∨ 4 < w ∨ k < 0) : MetT l y_SS_piece [Cond.code y_SS_piece b_SS_piece 4 (some .long)] ({ frames := 6, cells := 1, slots := 6, locals := 82 }) (zMo [.ref h, .int k, .int w] D [] [] sz B0) (zQl (fun _ (_ : Unit) => False) (fun (_u : Unit) t => zW D (va_A [] sz) [] [] t) (va_A [] sz) (fun X => X = xA)) 1 6 (va_A [] sz) := by
  refine MetT.ofW (cc := b_SS_piece) (maxL := 4) (ret := (some .long)) (by decide) rfl ?_
  intro p e s m args below meth cd s₁ Bd hml hem hv
  obtain ⟨rfl, hsz, hP, hK, hN, hD0, hO⟩ := hv
  have hx := Bd.exec
  have hb := Bd.bytes
  have hr := Bd.returns
  have hts := hN.use (a := ([.ref h, .int k, .int w]).toArray)
  have hown : s.vm.findClass R_SS = some m.cls := findClass_of_methodNamed Bd.named
  have hlocks := Bd.notSynchronized
  subst hsz
  have hD := hD0.self (sz := s.heap.size)
  have hAO := z_AO hD0 hO
  clear hD0
  have hA : ∀ q : Nat, s.heap.size ≤ q → va_A [] s.heap.size q := fun q h => Or.inr h
  have hS : va_S (va_A [] s.heap.size) s.heap s.heap [] := va_S.rf
  generalize hAe : va_A [] s.heap.size = A at hD hA hS hAO ⊢
  have hP : va_P D classes [] s.heap := hP
  have hl := lv_entry ([.ref h, .int k, .int w]) (n := 4) (Nat.le_of_ble_eq_true rfl)
  rw [lg_entry_eq]
  generalize (lg_sl ([.ref h, .int k, .int w]) ++ List.replicate (4 - (lg_sl ([.ref h, .int k, .int w])).length) Slot.unset).toArray = ls at hl ⊢
  have hl : lv_has ls 4 [(0, .ref h), (1, .int k), (2, .int w)] := hl
  refine lv_iload_n hx hb d_SS_piece_0 rfl (lv_at hl 2 rfl) ?_
  refine lv_if_lt (tgt := 13) hx hb d_SS_piece_1 rfl (fun h1 => ?_) (fun h1 => ?_)
  · refine W.newc hx hb hown (hts _ wd_700) (hts _ wd_701) (hts _ wd_71) rfl d_SS_piece_13 (by show 0 + 1 ≤ 1; omega) (by show 0 + 6 ≤ 6; omega) (fun cX kX hfX hkX _ _ => ?_)
    refine W.eq (g2 := F0 m 16 ls [.ref s.heap.size]) rfl ?_
    refine W.widen (k := 1) (n := 6) (by omega) (by omega) ?_
    refine lv_dup hx hb d_SS_piece_16 rfl ?_
    refine z_ldcs hx hb hown (z_str hG hO (List.mem_of_getElem? (i := 869) (by decide +kernel) : (Jvm.Cond.stringRef "StreamSplitter" (171 : Nat) "what is not 0 .. 4, or k is below 0") ∈ lw_tbl)) d_SS_piece_17 (fun msg => ?_)
    exact z_throw (X := xA) (names := ["java/lang/RuntimeException", "java/lang/Exception"]) hx hb hfl hown (by decide) z_fits (fun a ha => z_oa hG hO (z_oaA a ha)) hem (by rw [hml]; exact hl.1) hfX hkX z_pushAt (Nat.le_refl _) d_SS_piece_19 d_SS_piece_22 (Nat.le_of_ble_eq_true rfl) (Nat.le_of_ble_eq_true rfl) hlocks (fun t ht hW => Or.inr ⟨xA, _, rfl, rfl, ht⟩)
  · refine lv_iload_n hx hb d_SS_piece_4 rfl (lv_at hl 2 rfl) ?_
    refine lv_iconst (v := 4) hx hb d_SS_piece_5 (by decide) ?_
    refine lv_icmp_gt (tgt := 13) hx hb d_SS_piece_6 rfl (fun h6 => ?_) (fun h6 => ?_)
    · refine W.newc hx hb hown (hts _ wd_700) (hts _ wd_701) (hts _ wd_71) rfl d_SS_piece_13 (by show 0 + 1 ≤ 1; omega) (by show 0 + 6 ≤ 6; omega) (fun cX kX hfX hkX _ _ => ?_)
      refine W.eq (g2 := F0 m 16 ls [.ref s.heap.size]) rfl ?_
      refine W.widen (k := 1) (n := 6) (by omega) (by omega) ?_
      refine lv_dup hx hb d_SS_piece_16 rfl ?_
      refine z_ldcs hx hb hown (z_str hG hO (List.mem_of_getElem? (i := 869) (by decide +kernel) : (Jvm.Cond.stringRef "StreamSplitter" (171 : Nat) "what is not 0 .. 4, or k is below 0") ∈ lw_tbl)) d_SS_piece_17 (fun msg => ?_)
      exact z_throw (X := xA) (names := ["java/lang/RuntimeException", "java/lang/Exception"]) hx hb hfl hown (by decide) z_fits (fun a ha => z_oa hG hO (z_oaA a ha)) hem (by rw [hml]; exact hl.1) hfX hkX z_pushAt (Nat.le_refl _) d_SS_piece_19 d_SS_piece_22 (Nat.le_of_ble_eq_true rfl) (Nat.le_of_ble_eq_true rfl) hlocks (fun t ht hW => Or.inr ⟨xA, _, rfl, rfl, ht⟩)
    · refine lv_iload_n hx hb d_SS_piece_9 rfl (lv_at hl 1 rfl) ?_
      refine lv_if_ge (tgt := 23) hx hb d_SS_piece_10 rfl (fun h10 => ?_) (fun h10 => ?_)
      · exact absurd hbad (fun z => z.elim h1 (fun z => z.elim h6 (Int32.not_lt.mpr h10)))
      · refine W.newc hx hb hown (hts _ wd_700) (hts _ wd_701) (hts _ wd_71) rfl d_SS_piece_13 (by show 0 + 1 ≤ 1; omega) (by show 0 + 6 ≤ 6; omega) (fun cX kX hfX hkX _ _ => ?_)
        refine W.eq (g2 := F0 m 16 ls [.ref s.heap.size]) rfl ?_
        refine W.widen (k := 1) (n := 6) (by omega) (by omega) ?_
        refine lv_dup hx hb d_SS_piece_16 rfl ?_
        refine z_ldcs hx hb hown (z_str hG hO (List.mem_of_getElem? (i := 869) (by decide +kernel) : (Jvm.Cond.stringRef "StreamSplitter" (171 : Nat) "what is not 0 .. 4, or k is below 0") ∈ lw_tbl)) d_SS_piece_17 (fun msg => ?_)
        exact z_throw (X := xA) (names := ["java/lang/RuntimeException", "java/lang/Exception"]) hx hb hfl hown (by decide) z_fits (fun a ha => z_oa hG hO (z_oaA a ha)) hem (by rw [hml]; exact hl.1) hfX hkX z_pushAt (Nat.le_refl _) d_SS_piece_19 d_SS_piece_22 (Nat.le_of_ble_eq_true rfl) (Nat.le_of_ble_eq_true rfl) hlocks (fun t ht hW => Or.inr ⟨xA, _, rfl, rfl, ht⟩)
set_option maxHeartbeats 4000000 in
set_option maxRecDepth 100000 in
theorem c_SS_clock_bad (l : Launch) (D : va_G) (hfl : l.stackTraces = false) (B0 : State) (hG : zG B0) (sz : Nat) (h : Nat) (v : Int32) (hbad : v < 0 ∨ 8191 < v) : MetT l y_SS_clock [Cond.code y_SS_clock b_SS_clock 3 (some .long)] ({ frames := 6, cells := 1, slots := 6, locals := 82 }) (zMo [.ref h, .int v] D [] [] sz B0) (zQl (fun _ (_ : Unit) => False) (fun (_u : Unit) t => zW D (va_A [] sz) [] [] t) (va_A [] sz) (fun X => X = xA)) 1 6 (va_A [] sz) := by
  refine MetT.ofW (cc := b_SS_clock) (maxL := 3) (ret := (some .long)) (by decide) rfl ?_
  intro p e s m args below meth cd s₁ Bd hml hem hv
  obtain ⟨rfl, hsz, hP, hK, hN, hD0, hO⟩ := hv
  have hx := Bd.exec
  have hb := Bd.bytes
  have hr := Bd.returns
  have hts := hN.use (a := ([.ref h, .int v]).toArray)
  have hown : s.vm.findClass R_SS = some m.cls := findClass_of_methodNamed Bd.named
  have hlocks := Bd.notSynchronized
  subst hsz
  have hD := hD0.self (sz := s.heap.size)
  have hAO := z_AO hD0 hO
  clear hD0
  have hA : ∀ q : Nat, s.heap.size ≤ q → va_A [] s.heap.size q := fun q h => Or.inr h
  have hS : va_S (va_A [] s.heap.size) s.heap s.heap [] := va_S.rf
  generalize hAe : va_A [] s.heap.size = A at hD hA hS hAO ⊢
  have hP : va_P D classes [] s.heap := hP
  have hl := lv_entry ([.ref h, .int v]) (n := 3) (Nat.le_of_ble_eq_true rfl)
  rw [lg_entry_eq]
  generalize (lg_sl ([.ref h, .int v]) ++ List.replicate (3 - (lg_sl ([.ref h, .int v])).length) Slot.unset).toArray = ls at hl ⊢
  have hl : lv_has ls 3 [(0, .ref h), (1, .int v)] := hl
  refine lv_iload_n hx hb d_SS_clock_0 rfl (lv_at hl 1 rfl) ?_
  have hPc := hP.sub (ws' := []) [] rfl
  have hKc := hK.sub (tys' := []) [] rfl
  refine z_ci (va_runS (As := [.int v]) (rest := []) ⟨hx, hb, hml, hown, hts⟩ (c_SS_isNoPid l D v ) (z_cS hN wd_883 wd_59 wd_881 hd_SS_isNoPid rfl rfl ⟨Nat.le_of_ble_eq_true rfl, Nat.le_of_ble_eq_true rfl⟩ wd_882) (z_preS hPc hKc hN) rfl rfl hl.1 rfl (lv_room (Nat.le_of_ble_eq_true rfl)) d_SS_clock_1 ⟨Nat.le_of_ble_eq_true rfl, Nat.le_of_ble_eq_true rfl⟩) (fun r1 e1 => ?_)
  subst e1
  refine lv_if_eq (tgt := 17) hx hb d_SS_clock_4 rfl (fun h4 => ?_) (fun h4 => ?_)
  · exact absurd hbad (pd_ok rfl h4)
  · refine W.newc hx hb hown (hts _ wd_700) (hts _ wd_701) (hts _ wd_71) rfl d_SS_clock_7 (by show 0 + 1 ≤ 1; omega) (by show 0 + 6 ≤ 6; omega) (fun cX kX hfX hkX _ _ => ?_)
    refine W.eq (g2 := F0 m 10 ls [.ref s.heap.size]) rfl ?_
    refine W.widen (k := 1) (n := 6) (by omega) (by omega) ?_
    refine lv_dup hx hb d_SS_clock_10 rfl ?_
    refine z_ldcs hx hb hown (z_str hG hO (List.mem_of_getElem? (i := 884) (by decide +kernel) : (Jvm.Cond.stringRef "StreamSplitter" (194 : Nat) "pid is not 0 .. 8191") ∈ lw_tbl)) d_SS_clock_11 (fun msg => ?_)
    exact z_throw (X := xA) (names := ["java/lang/RuntimeException", "java/lang/Exception"]) hx hb hfl hown (by decide) z_fits (fun a ha => z_oa hG hO (z_oaA a ha)) hem (by rw [hml]; exact hl.1) hfX hkX z_pushAt (Nat.le_refl _) d_SS_clock_13 d_SS_clock_16 (Nat.le_of_ble_eq_true rfl) (Nat.le_of_ble_eq_true rfl) hlocks (fun t ht hW => Or.inr ⟨xA, _, rfl, rfl, ht⟩)
set_option maxHeartbeats 4000000 in
set_option maxRecDepth 100000 in
theorem c_SS_plan_bad (l : Launch) (D : va_G) (hfl : l.stackTraces = false) (B0 : State) (hG : zG B0) (sz : Nat) (h : Nat) (i c : Int32) (hbad : i < 1 ∨ 65535 < i ∨ c < 0 ∨ 8191 < c) : MetT l y_SS_plan [Cond.code y_SS_plan b_SS_plan 3 (some .int)] ({ frames := 6, cells := 1, slots := 6, locals := 82 }) (zMo [.ref h, .int i, .int c] D [] [] sz B0) (zQi (fun _ (_ : Unit) => False) (fun (_u : Unit) t => zW D (va_A [] sz) [] [] t) (va_A [] sz) (fun X => X = xA)) 1 6 (va_A [] sz) := by
  refine MetT.ofW (cc := b_SS_plan) (maxL := 3) (ret := (some .int)) (by decide) rfl ?_
  intro p e s m args below meth cd s₁ Bd hml hem hv
  obtain ⟨rfl, hsz, hP, hK, hN, hD0, hO⟩ := hv
  have hx := Bd.exec
  have hb := Bd.bytes
  have hr := Bd.returns
  have hts := hN.use (a := ([.ref h, .int i, .int c]).toArray)
  have hown : s.vm.findClass R_SS = some m.cls := findClass_of_methodNamed Bd.named
  have hlocks := Bd.notSynchronized
  subst hsz
  have hD := hD0.self (sz := s.heap.size)
  have hAO := z_AO hD0 hO
  clear hD0
  have hA : ∀ q : Nat, s.heap.size ≤ q → va_A [] s.heap.size q := fun q h => Or.inr h
  have hS : va_S (va_A [] s.heap.size) s.heap s.heap [] := va_S.rf
  generalize hAe : va_A [] s.heap.size = A at hD hA hS hAO ⊢
  have hP : va_P D classes [] s.heap := hP
  have hl := lv_entry ([.ref h, .int i, .int c]) (n := 3) (Nat.le_of_ble_eq_true rfl)
  rw [lg_entry_eq]
  generalize (lg_sl ([.ref h, .int i, .int c]) ++ List.replicate (3 - (lg_sl ([.ref h, .int i, .int c])).length) Slot.unset).toArray = ls at hl ⊢
  have hl : lv_has ls 3 [(0, .ref h), (1, .int i), (2, .int c)] := hl
  refine lv_iload_n hx hb d_SS_plan_0 rfl (lv_at hl 1 rfl) ?_
  refine lv_iconst (v := 1) hx hb d_SS_plan_1 (by decide) ?_
  refine lv_icmp_lt (tgt := 18) hx hb d_SS_plan_2 rfl (fun h2 => ?_) (fun h2 => ?_)
  · refine W.newc hx hb hown (hts _ wd_700) (hts _ wd_701) (hts _ wd_71) rfl d_SS_plan_18 (by show 0 + 1 ≤ 1; omega) (by show 0 + 6 ≤ 6; omega) (fun cX kX hfX hkX _ _ => ?_)
    refine W.eq (g2 := F0 m 21 ls [.ref s.heap.size]) rfl ?_
    refine W.widen (k := 1) (n := 6) (by omega) (by omega) ?_
    refine lv_dup hx hb d_SS_plan_21 rfl ?_
    refine z_ldcs hx hb hown (z_str hG hO (List.mem_of_getElem? (i := 894) (by decide +kernel) : (Jvm.Cond.stringRef "StreamSplitter" (209 : Nat) "number is not 1 .. 65535, or pid not 0 .. 8191") ∈ lw_tbl)) d_SS_plan_22 (fun msg => ?_)
    exact z_throw (X := xA) (names := ["java/lang/RuntimeException", "java/lang/Exception"]) hx hb hfl hown (by decide) z_fits (fun a ha => z_oa hG hO (z_oaA a ha)) hem (by rw [hml]; exact hl.1) hfX hkX z_pushAt (Nat.le_refl _) d_SS_plan_24 d_SS_plan_27 (Nat.le_of_ble_eq_true rfl) (Nat.le_of_ble_eq_true rfl) hlocks (fun t ht hW => Or.inr ⟨xA, _, rfl, rfl, ht⟩)
  · refine lv_iload_n hx hb d_SS_plan_5 rfl (lv_at hl 1 rfl) ?_
    refine lv_ldc hx hb hown (hts _ wd_893) d_SS_plan_6 ?_
    refine lv_icmp_gt (tgt := 18) hx hb d_SS_plan_8 rfl (fun h8 => ?_) (fun h8 => ?_)
    · refine W.newc hx hb hown (hts _ wd_700) (hts _ wd_701) (hts _ wd_71) rfl d_SS_plan_18 (by show 0 + 1 ≤ 1; omega) (by show 0 + 6 ≤ 6; omega) (fun cX kX hfX hkX _ _ => ?_)
      refine W.eq (g2 := F0 m 21 ls [.ref s.heap.size]) rfl ?_
      refine W.widen (k := 1) (n := 6) (by omega) (by omega) ?_
      refine lv_dup hx hb d_SS_plan_21 rfl ?_
      refine z_ldcs hx hb hown (z_str hG hO (List.mem_of_getElem? (i := 894) (by decide +kernel) : (Jvm.Cond.stringRef "StreamSplitter" (209 : Nat) "number is not 1 .. 65535, or pid not 0 .. 8191") ∈ lw_tbl)) d_SS_plan_22 (fun msg => ?_)
      exact z_throw (X := xA) (names := ["java/lang/RuntimeException", "java/lang/Exception"]) hx hb hfl hown (by decide) z_fits (fun a ha => z_oa hG hO (z_oaA a ha)) hem (by rw [hml]; exact hl.1) hfX hkX z_pushAt (Nat.le_refl _) d_SS_plan_24 d_SS_plan_27 (Nat.le_of_ble_eq_true rfl) (Nat.le_of_ble_eq_true rfl) hlocks (fun t ht hW => Or.inr ⟨xA, _, rfl, rfl, ht⟩)
    · refine lv_iload_n hx hb d_SS_plan_11 rfl (lv_at hl 2 rfl) ?_
      have hPc := hP.sub (ws' := []) [] rfl
      have hKc := hK.sub (tys' := []) [] rfl
      refine z_ci (va_runS (As := [.int c]) (rest := []) ⟨hx, hb, hml, hown, hts⟩ (c_SS_isNoPid l D c ) (z_cS hN wd_883 wd_59 wd_881 hd_SS_isNoPid rfl rfl ⟨Nat.le_of_ble_eq_true rfl, Nat.le_of_ble_eq_true rfl⟩ wd_882) (z_preS hPc hKc hN) rfl rfl hl.1 rfl (lv_room (Nat.le_of_ble_eq_true rfl)) d_SS_plan_12 ⟨Nat.le_of_ble_eq_true rfl, Nat.le_of_ble_eq_true rfl⟩) (fun r12 e12 => ?_)
      subst e12
      refine lv_if_eq (tgt := 28) hx hb d_SS_plan_15 rfl (fun h15 => ?_) (fun h15 => ?_)
      · exact absurd hbad (fun z => z.elim h2 (fun z => z.elim h8 (pd_ok rfl h15)))
      · refine W.newc hx hb hown (hts _ wd_700) (hts _ wd_701) (hts _ wd_71) rfl d_SS_plan_18 (by show 0 + 1 ≤ 1; omega) (by show 0 + 6 ≤ 6; omega) (fun cX kX hfX hkX _ _ => ?_)
        refine W.eq (g2 := F0 m 21 ls [.ref s.heap.size]) rfl ?_
        refine W.widen (k := 1) (n := 6) (by omega) (by omega) ?_
        refine lv_dup hx hb d_SS_plan_21 rfl ?_
        refine z_ldcs hx hb hown (z_str hG hO (List.mem_of_getElem? (i := 894) (by decide +kernel) : (Jvm.Cond.stringRef "StreamSplitter" (209 : Nat) "number is not 1 .. 65535, or pid not 0 .. 8191") ∈ lw_tbl)) d_SS_plan_22 (fun msg => ?_)
        exact z_throw (X := xA) (names := ["java/lang/RuntimeException", "java/lang/Exception"]) hx hb hfl hown (by decide) z_fits (fun a ha => z_oa hG hO (z_oaA a ha)) hem (by rw [hml]; exact hl.1) hfX hkX z_pushAt (Nat.le_refl _) d_SS_plan_24 d_SS_plan_27 (Nat.le_of_ble_eq_true rfl) (Nat.le_of_ble_eq_true rfl) hlocks (fun t ht hW => Or.inr ⟨xA, _, rfl, rfl, ht⟩)
set_option maxHeartbeats 4000000 in
set_option maxRecDepth 100000 in
theorem c_SS_writeTables_bad (l : Launch) (D : va_G) (hfl : l.stackTraces = false) (B0 : State) (hG : zG B0) (sz : Nat) (h : Nat) (w : Int32) (hbad : w < 0 ∨ 31 < w) : MetT l y_SS_writeTables [Cond.code y_SS_writeTables b_SS_writeTables 4 (some .int)] ({ frames := 6, cells := 1, slots := 6, locals := 82 }) (zMo [.ref h, .int w] D [] [] sz B0) (zQi (fun _ (_ : Unit) => False) (fun (_u : Unit) t => zW D (va_A [] sz) [] [] t) (va_A [] sz) (fun X => X = xA)) 1 6 (va_A [] sz) := by
  refine MetT.ofW (cc := b_SS_writeTables) (maxL := 4) (ret := (some .int)) (by decide) rfl ?_
  intro p e s m args below meth cd s₁ Bd hml hem hv
  obtain ⟨rfl, hsz, hP, hK, hN, hD0, hO⟩ := hv
  have hx := Bd.exec
  have hb := Bd.bytes
  have hr := Bd.returns
  have hts := hN.use (a := ([.ref h, .int w]).toArray)
  have hown : s.vm.findClass R_SS = some m.cls := findClass_of_methodNamed Bd.named
  have hlocks := Bd.notSynchronized
  subst hsz
  have hD := hD0.self (sz := s.heap.size)
  have hAO := z_AO hD0 hO
  clear hD0
  have hA : ∀ q : Nat, s.heap.size ≤ q → va_A [] s.heap.size q := fun q h => Or.inr h
  have hS : va_S (va_A [] s.heap.size) s.heap s.heap [] := va_S.rf
  generalize hAe : va_A [] s.heap.size = A at hD hA hS hAO ⊢
  have hP : va_P D classes [] s.heap := hP
  have hl := lv_entry ([.ref h, .int w]) (n := 4) (Nat.le_of_ble_eq_true rfl)
  rw [lg_entry_eq]
  generalize (lg_sl ([.ref h, .int w]) ++ List.replicate (4 - (lg_sl ([.ref h, .int w])).length) Slot.unset).toArray = ls at hl ⊢
  have hl : lv_has ls 4 [(0, .ref h), (1, .int w)] := hl
  refine lv_iload_n hx hb d_SS_writeTables_0 rfl (lv_at hl 1 rfl) ?_
  refine lv_if_lt (tgt := 10) hx hb d_SS_writeTables_1 rfl (fun h1 => ?_) (fun h1 => ?_)
  · refine W.newc hx hb hown (hts _ wd_700) (hts _ wd_701) (hts _ wd_71) rfl d_SS_writeTables_10 (by show 0 + 1 ≤ 1; omega) (by show 0 + 6 ≤ 6; omega) (fun cX kX hfX hkX _ _ => ?_)
    refine W.eq (g2 := F0 m 13 ls [.ref s.heap.size]) rfl ?_
    refine W.widen (k := 1) (n := 6) (by omega) (by omega) ?_
    refine lv_dup hx hb d_SS_writeTables_13 rfl ?_
    refine z_ldcs hx hb hown (z_str hG hO (List.mem_of_getElem? (i := 936) (by decide +kernel) : (Jvm.Cond.stringRef "StreamSplitter" (227 : Nat) "version is not 0 .. 31") ∈ lw_tbl)) d_SS_writeTables_14 (fun msg => ?_)
    exact z_throw (X := xA) (names := ["java/lang/RuntimeException", "java/lang/Exception"]) hx hb hfl hown (by decide) z_fits (fun a ha => z_oa hG hO (z_oaA a ha)) hem (by rw [hml]; exact hl.1) hfX hkX z_pushAt (Nat.le_refl _) d_SS_writeTables_16 d_SS_writeTables_19 (Nat.le_of_ble_eq_true rfl) (Nat.le_of_ble_eq_true rfl) hlocks (fun t ht hW => Or.inr ⟨xA, _, rfl, rfl, ht⟩)
  · refine lv_iload_n hx hb d_SS_writeTables_4 rfl (lv_at hl 1 rfl) ?_
    refine lv_bipush (v := 31) hx hb d_SS_writeTables_5 (by decide) ?_
    refine lv_icmp_le (tgt := 20) hx hb d_SS_writeTables_7 rfl (fun h7 => ?_) (fun h7 => ?_)
    · exact absurd hbad (fun z => z.elim h1 (Int32.not_lt.mpr h7))
    · refine W.newc hx hb hown (hts _ wd_700) (hts _ wd_701) (hts _ wd_71) rfl d_SS_writeTables_10 (by show 0 + 1 ≤ 1; omega) (by show 0 + 6 ≤ 6; omega) (fun cX kX hfX hkX _ _ => ?_)
      refine W.eq (g2 := F0 m 13 ls [.ref s.heap.size]) rfl ?_
      refine W.widen (k := 1) (n := 6) (by omega) (by omega) ?_
      refine lv_dup hx hb d_SS_writeTables_13 rfl ?_
      refine z_ldcs hx hb hown (z_str hG hO (List.mem_of_getElem? (i := 936) (by decide +kernel) : (Jvm.Cond.stringRef "StreamSplitter" (227 : Nat) "version is not 0 .. 31") ∈ lw_tbl)) d_SS_writeTables_14 (fun msg => ?_)
      exact z_throw (X := xA) (names := ["java/lang/RuntimeException", "java/lang/Exception"]) hx hb hfl hown (by decide) z_fits (fun a ha => z_oa hG hO (z_oaA a ha)) hem (by rw [hml]; exact hl.1) hfX hkX z_pushAt (Nat.le_refl _) d_SS_writeTables_16 d_SS_writeTables_19 (Nat.le_of_ble_eq_true rfl) (Nat.le_of_ble_eq_true rfl) hlocks (fun t ht hW => Or.inr ⟨xA, _, rfl, rfl, ht⟩)
set_option maxHeartbeats 4000000 in
set_option maxRecDepth 100000 in
theorem c_SS_writePiece_bad (l : Launch) (D : va_G) (hfl : l.stackTraces = false) (B0 : State) (hG : zG B0) (sz : Nat) (h : Nat) (i : Int32) (t0 : Int64) (c sd fl : Int32) (hbad : i < 0 ∨ 2097151 < i ∨ c < 0 ∨ 4000 < c ∨ 8589934592 ≤ t0) : MetT l y_SS_writePiece [Cond.code y_SS_writePiece b_SS_writePiece 9 (some .int)] ({ frames := 6, cells := 1, slots := 6, locals := 82 }) (zMo [.ref h, .int i, .long t0, .int c, .int sd, .int fl] D [] [] sz B0) (zQi (fun _ (_ : Unit) => False) (fun (_u : Unit) t => zW D (va_A [] sz) [] [] t) (va_A [] sz) (fun X => X = xA)) 1 6 (va_A [] sz) := by
  refine MetT.ofW (cc := b_SS_writePiece) (maxL := 9) (ret := (some .int)) (by decide) rfl ?_
  intro p e s m args below meth cd s₁ Bd hml hem hv
  obtain ⟨rfl, hsz, hP, hK, hN, hD0, hO⟩ := hv
  have hx := Bd.exec
  have hb := Bd.bytes
  have hr := Bd.returns
  have hts := hN.use (a := ([.ref h, .int i, .long t0, .int c, .int sd, .int fl]).toArray)
  have hown : s.vm.findClass R_SS = some m.cls := findClass_of_methodNamed Bd.named
  have hlocks := Bd.notSynchronized
  subst hsz
  have hD := hD0.self (sz := s.heap.size)
  have hAO := z_AO hD0 hO
  clear hD0
  have hA : ∀ q : Nat, s.heap.size ≤ q → va_A [] s.heap.size q := fun q h => Or.inr h
  have hS : va_S (va_A [] s.heap.size) s.heap s.heap [] := va_S.rf
  generalize hAe : va_A [] s.heap.size = A at hD hA hS hAO ⊢
  have hP : va_P D classes [] s.heap := hP
  have hl := lv_entry ([.ref h, .int i, .long t0, .int c, .int sd, .int fl]) (n := 9) (Nat.le_of_ble_eq_true rfl)
  rw [lg_entry_eq]
  generalize (lg_sl ([.ref h, .int i, .long t0, .int c, .int sd, .int fl]) ++ List.replicate (9 - (lg_sl ([.ref h, .int i, .long t0, .int c, .int sd, .int fl])).length) Slot.unset).toArray = ls at hl ⊢
  have hl : lv_has ls 9 [(0, .ref h), (1, .int i), (2, .long t0), (4, .int c), (5, .int sd), (6, .int fl)] := hl
  refine lv_iload_n hx hb d_SS_writePiece_0 rfl (lv_at hl 1 rfl) ?_
  refine lv_if_lt (tgt := 31) hx hb d_SS_writePiece_1 rfl (fun h1 => ?_) (fun h1 => ?_)
  · refine W.newc hx hb hown (hts _ wd_700) (hts _ wd_701) (hts _ wd_71) rfl d_SS_writePiece_31 (by show 0 + 1 ≤ 1; omega) (by show 0 + 6 ≤ 6; omega) (fun cX kX hfX hkX _ _ => ?_)
    refine W.eq (g2 := F0 m 34 ls [.ref s.heap.size]) rfl ?_
    refine W.widen (k := 1) (n := 6) (by omega) (by omega) ?_
    refine lv_dup hx hb d_SS_writePiece_34 rfl ?_
    refine z_ldcs hx hb hown (z_str hG hO (List.mem_of_getElem? (i := 1039) (by decide +kernel) : (Jvm.Cond.stringRef "StreamSplitter" (250 : Nat) "pidAndKind, n or time is out of its bounds") ∈ lw_tbl)) d_SS_writePiece_35 (fun msg => ?_)
    exact z_throw (X := xA) (names := ["java/lang/RuntimeException", "java/lang/Exception"]) hx hb hfl hown (by decide) z_fits (fun a ha => z_oa hG hO (z_oaA a ha)) hem (by rw [hml]; exact hl.1) hfX hkX z_pushAt (Nat.le_refl _) d_SS_writePiece_37 d_SS_writePiece_40 (Nat.le_of_ble_eq_true rfl) (Nat.le_of_ble_eq_true rfl) hlocks (fun t ht hW => Or.inr ⟨xA, _, rfl, rfl, ht⟩)
  · refine lv_iload_n hx hb d_SS_writePiece_4 rfl (lv_at hl 1 rfl) ?_
    refine lv_ldc hx hb hown (hts _ wd_1037) d_SS_writePiece_5 ?_
    refine lv_icmp_gt (tgt := 31) hx hb d_SS_writePiece_7 rfl (fun h7 => ?_) (fun h7 => ?_)
    · refine W.newc hx hb hown (hts _ wd_700) (hts _ wd_701) (hts _ wd_71) rfl d_SS_writePiece_31 (by show 0 + 1 ≤ 1; omega) (by show 0 + 6 ≤ 6; omega) (fun cX kX hfX hkX _ _ => ?_)
      refine W.eq (g2 := F0 m 34 ls [.ref s.heap.size]) rfl ?_
      refine W.widen (k := 1) (n := 6) (by omega) (by omega) ?_
      refine lv_dup hx hb d_SS_writePiece_34 rfl ?_
      refine z_ldcs hx hb hown (z_str hG hO (List.mem_of_getElem? (i := 1039) (by decide +kernel) : (Jvm.Cond.stringRef "StreamSplitter" (250 : Nat) "pidAndKind, n or time is out of its bounds") ∈ lw_tbl)) d_SS_writePiece_35 (fun msg => ?_)
      exact z_throw (X := xA) (names := ["java/lang/RuntimeException", "java/lang/Exception"]) hx hb hfl hown (by decide) z_fits (fun a ha => z_oa hG hO (z_oaA a ha)) hem (by rw [hml]; exact hl.1) hfX hkX z_pushAt (Nat.le_refl _) d_SS_writePiece_37 d_SS_writePiece_40 (Nat.le_of_ble_eq_true rfl) (Nat.le_of_ble_eq_true rfl) hlocks (fun t ht hW => Or.inr ⟨xA, _, rfl, rfl, ht⟩)
    · refine lv_iload hx hb d_SS_writePiece_10 (lv_at hl 3 rfl) ?_
      refine lv_if_lt (tgt := 31) hx hb d_SS_writePiece_12 rfl (fun h12 => ?_) (fun h12 => ?_)
      · refine W.newc hx hb hown (hts _ wd_700) (hts _ wd_701) (hts _ wd_71) rfl d_SS_writePiece_31 (by show 0 + 1 ≤ 1; omega) (by show 0 + 6 ≤ 6; omega) (fun cX kX hfX hkX _ _ => ?_)
        refine W.eq (g2 := F0 m 34 ls [.ref s.heap.size]) rfl ?_
        refine W.widen (k := 1) (n := 6) (by omega) (by omega) ?_
        refine lv_dup hx hb d_SS_writePiece_34 rfl ?_
        refine z_ldcs hx hb hown (z_str hG hO (List.mem_of_getElem? (i := 1039) (by decide +kernel) : (Jvm.Cond.stringRef "StreamSplitter" (250 : Nat) "pidAndKind, n or time is out of its bounds") ∈ lw_tbl)) d_SS_writePiece_35 (fun msg => ?_)
        exact z_throw (X := xA) (names := ["java/lang/RuntimeException", "java/lang/Exception"]) hx hb hfl hown (by decide) z_fits (fun a ha => z_oa hG hO (z_oaA a ha)) hem (by rw [hml]; exact hl.1) hfX hkX z_pushAt (Nat.le_refl _) d_SS_writePiece_37 d_SS_writePiece_40 (Nat.le_of_ble_eq_true rfl) (Nat.le_of_ble_eq_true rfl) hlocks (fun t ht hW => Or.inr ⟨xA, _, rfl, rfl, ht⟩)
      · refine lv_iload hx hb d_SS_writePiece_15 (lv_at hl 3 rfl) ?_
        refine lv_sipush (v := 4000) hx hb d_SS_writePiece_17 (by decide) ?_
        refine lv_icmp_gt (tgt := 31) hx hb d_SS_writePiece_20 rfl (fun h20 => ?_) (fun h20 => ?_)
        · refine W.newc hx hb hown (hts _ wd_700) (hts _ wd_701) (hts _ wd_71) rfl d_SS_writePiece_31 (by show 0 + 1 ≤ 1; omega) (by show 0 + 6 ≤ 6; omega) (fun cX kX hfX hkX _ _ => ?_)
          refine W.eq (g2 := F0 m 34 ls [.ref s.heap.size]) rfl ?_
          refine W.widen (k := 1) (n := 6) (by omega) (by omega) ?_
          refine lv_dup hx hb d_SS_writePiece_34 rfl ?_
          refine z_ldcs hx hb hown (z_str hG hO (List.mem_of_getElem? (i := 1039) (by decide +kernel) : (Jvm.Cond.stringRef "StreamSplitter" (250 : Nat) "pidAndKind, n or time is out of its bounds") ∈ lw_tbl)) d_SS_writePiece_35 (fun msg => ?_)
          exact z_throw (X := xA) (names := ["java/lang/RuntimeException", "java/lang/Exception"]) hx hb hfl hown (by decide) z_fits (fun a ha => z_oa hG hO (z_oaA a ha)) hem (by rw [hml]; exact hl.1) hfX hkX z_pushAt (Nat.le_refl _) d_SS_writePiece_37 d_SS_writePiece_40 (Nat.le_of_ble_eq_true rfl) (Nat.le_of_ble_eq_true rfl) hlocks (fun t ht hW => Or.inr ⟨xA, _, rfl, rfl, ht⟩)
        · refine lv_lload_n hx hb d_SS_writePiece_23 rfl (lv_at hl 2 rfl) ?_
          refine lv_ldc2 hx hb hown (hts _ wd_1038) d_SS_writePiece_24 ?_
          refine W.lcmp hx hb d_SS_writePiece_27 ?_
          refine lv_if_lt (tgt := 41) hx hb d_SS_writePiece_28 rfl (fun h28 => ?_) (fun h28 => ?_)
          · exact absurd hbad (fun z => z.elim h1 (fun z => z.elim h7 (fun z => z.elim h12 (fun z => z.elim h20 (fun z => Int64.not_lt.mpr z ((lg_cmp_lt _ _).mp h28))))))
          · refine W.newc hx hb hown (hts _ wd_700) (hts _ wd_701) (hts _ wd_71) rfl d_SS_writePiece_31 (by show 0 + 1 ≤ 1; omega) (by show 0 + 6 ≤ 6; omega) (fun cX kX hfX hkX _ _ => ?_)
            refine W.eq (g2 := F0 m 34 ls [.ref s.heap.size]) rfl ?_
            refine W.widen (k := 1) (n := 6) (by omega) (by omega) ?_
            refine lv_dup hx hb d_SS_writePiece_34 rfl ?_
            refine z_ldcs hx hb hown (z_str hG hO (List.mem_of_getElem? (i := 1039) (by decide +kernel) : (Jvm.Cond.stringRef "StreamSplitter" (250 : Nat) "pidAndKind, n or time is out of its bounds") ∈ lw_tbl)) d_SS_writePiece_35 (fun msg => ?_)
            exact z_throw (X := xA) (names := ["java/lang/RuntimeException", "java/lang/Exception"]) hx hb hfl hown (by decide) z_fits (fun a ha => z_oa hG hO (z_oaA a ha)) hem (by rw [hml]; exact hl.1) hfX hkX z_pushAt (Nat.le_refl _) d_SS_writePiece_37 d_SS_writePiece_40 (Nat.le_of_ble_eq_true rfl) (Nat.le_of_ble_eq_true rfl) hlocks (fun t ht hW => Or.inr ⟨xA, _, rfl, rfl, ht⟩)
set_option maxHeartbeats 4000000 in
set_option maxRecDepth 100000 in
theorem c_SS_writeOrder_bad (l : Launch) (D : va_G) (hfl : l.stackTraces = false) (B0 : State) (hG : zG B0) (sz : Nat) (h : Nat) (i nm how : Int32) (t0 ln : Int64) (hbad : i < 0 ∨ 8191 < i ∨ how < 0 ∨ 63 < how ∨ t0 < 0 ∨ 8589934592 ≤ t0 ∨ ln < 0) : MetT l y_SS_writeOrder [Cond.code y_SS_writeOrder b_SS_writeOrder 9 (some .int)] ({ frames := 6, cells := 1, slots := 6, locals := 82 }) (zMo [.ref h, .int i, .int nm, .int how, .long t0, .long ln] D [] [] sz B0) (zQi (fun _ (_ : Unit) => False) (fun (_u : Unit) t => zW D (va_A [] sz) [] [] t) (va_A [] sz) (fun X => X = xA)) 1 6 (va_A [] sz) := by
  refine MetT.ofW (cc := b_SS_writeOrder) (maxL := 9) (ret := (some .int)) (by decide) rfl ?_
  intro p e s m args below meth cd s₁ Bd hml hem hv
  obtain ⟨rfl, hsz, hP, hK, hN, hD0, hO⟩ := hv
  have hx := Bd.exec
  have hb := Bd.bytes
  have hr := Bd.returns
  have hts := hN.use (a := ([.ref h, .int i, .int nm, .int how, .long t0, .long ln]).toArray)
  have hown : s.vm.findClass R_SS = some m.cls := findClass_of_methodNamed Bd.named
  have hlocks := Bd.notSynchronized
  subst hsz
  have hD := hD0.self (sz := s.heap.size)
  have hAO := z_AO hD0 hO
  clear hD0
  have hA : ∀ q : Nat, s.heap.size ≤ q → va_A [] s.heap.size q := fun q h => Or.inr h
  have hS : va_S (va_A [] s.heap.size) s.heap s.heap [] := va_S.rf
  generalize hAe : va_A [] s.heap.size = A at hD hA hS hAO ⊢
  have hP : va_P D classes [] s.heap := hP
  have hl := lv_entry ([.ref h, .int i, .int nm, .int how, .long t0, .long ln]) (n := 9) (Nat.le_of_ble_eq_true rfl)
  rw [lg_entry_eq]
  generalize (lg_sl ([.ref h, .int i, .int nm, .int how, .long t0, .long ln]) ++ List.replicate (9 - (lg_sl ([.ref h, .int i, .int nm, .int how, .long t0, .long ln])).length) Slot.unset).toArray = ls at hl ⊢
  have hl : lv_has ls 9 [(0, .ref h), (1, .int i), (2, .int nm), (3, .int how), (4, .long t0), (6, .long ln)] := hl
  refine lv_iload_n hx hb d_SS_writeOrder_0 rfl (lv_at hl 1 rfl) ?_
  have hPc := hP.sub (ws' := []) [] rfl
  have hKc := hK.sub (tys' := []) [] rfl
  refine z_ci (va_runS (As := [.int i]) (rest := []) ⟨hx, hb, hml, hown, hts⟩ (c_SS_isNoPid l D i ) (z_cS hN wd_883 wd_59 wd_881 hd_SS_isNoPid rfl rfl ⟨Nat.le_of_ble_eq_true rfl, Nat.le_of_ble_eq_true rfl⟩ wd_882) (z_preS hPc hKc hN) rfl rfl hl.1 rfl (lv_room (Nat.le_of_ble_eq_true rfl)) d_SS_writeOrder_1 ⟨Nat.le_of_ble_eq_true rfl, Nat.le_of_ble_eq_true rfl⟩) (fun r1 e1 => ?_)
  subst e1
  refine lv_if_ne (tgt := 40) hx hb d_SS_writeOrder_4 rfl (fun h4 => ?_) (fun h4 => ?_)
  · refine W.newc hx hb hown (hts _ wd_700) (hts _ wd_701) (hts _ wd_71) rfl d_SS_writeOrder_40 (by show 0 + 1 ≤ 1; omega) (by show 0 + 6 ≤ 6; omega) (fun cX kX hfX hkX _ _ => ?_)
    refine W.eq (g2 := F0 m 43 ls [.ref s.heap.size]) rfl ?_
    refine W.widen (k := 1) (n := 6) (by omega) (by omega) ?_
    refine lv_dup hx hb d_SS_writeOrder_43 rfl ?_
    refine z_ldcsw hx hb hown (z_str hG hO (List.mem_of_getElem? (i := 1060) (by decide +kernel) : (Jvm.Cond.stringRef "StreamSplitter" (259 : Nat) "pid, how, time or lengthAndShift is out of its bounds") ∈ lw_tbl)) d_SS_writeOrder_44 (fun msg => ?_)
    exact z_throw (X := xA) (names := ["java/lang/RuntimeException", "java/lang/Exception"]) hx hb hfl hown (by decide) z_fits (fun a ha => z_oa hG hO (z_oaA a ha)) hem (by rw [hml]; exact hl.1) hfX hkX z_pushAt (Nat.le_refl _) d_SS_writeOrder_47 d_SS_writeOrder_50 (Nat.le_of_ble_eq_true rfl) (Nat.le_of_ble_eq_true rfl) hlocks (fun t ht hW => Or.inr ⟨xA, _, rfl, rfl, ht⟩)
  · refine lv_iload_n hx hb d_SS_writeOrder_7 rfl (lv_at hl 3 rfl) ?_
    refine lv_if_lt (tgt := 40) hx hb d_SS_writeOrder_8 rfl (fun h8 => ?_) (fun h8 => ?_)
    · refine W.newc hx hb hown (hts _ wd_700) (hts _ wd_701) (hts _ wd_71) rfl d_SS_writeOrder_40 (by show 0 + 1 ≤ 1; omega) (by show 0 + 6 ≤ 6; omega) (fun cX kX hfX hkX _ _ => ?_)
      refine W.eq (g2 := F0 m 43 ls [.ref s.heap.size]) rfl ?_
      refine W.widen (k := 1) (n := 6) (by omega) (by omega) ?_
      refine lv_dup hx hb d_SS_writeOrder_43 rfl ?_
      refine z_ldcsw hx hb hown (z_str hG hO (List.mem_of_getElem? (i := 1060) (by decide +kernel) : (Jvm.Cond.stringRef "StreamSplitter" (259 : Nat) "pid, how, time or lengthAndShift is out of its bounds") ∈ lw_tbl)) d_SS_writeOrder_44 (fun msg => ?_)
      exact z_throw (X := xA) (names := ["java/lang/RuntimeException", "java/lang/Exception"]) hx hb hfl hown (by decide) z_fits (fun a ha => z_oa hG hO (z_oaA a ha)) hem (by rw [hml]; exact hl.1) hfX hkX z_pushAt (Nat.le_refl _) d_SS_writeOrder_47 d_SS_writeOrder_50 (Nat.le_of_ble_eq_true rfl) (Nat.le_of_ble_eq_true rfl) hlocks (fun t ht hW => Or.inr ⟨xA, _, rfl, rfl, ht⟩)
    · refine lv_iload_n hx hb d_SS_writeOrder_11 rfl (lv_at hl 3 rfl) ?_
      refine lv_bipush (v := 63) hx hb d_SS_writeOrder_12 (by decide) ?_
      refine lv_icmp_gt (tgt := 40) hx hb d_SS_writeOrder_14 rfl (fun h14 => ?_) (fun h14 => ?_)
      · refine W.newc hx hb hown (hts _ wd_700) (hts _ wd_701) (hts _ wd_71) rfl d_SS_writeOrder_40 (by show 0 + 1 ≤ 1; omega) (by show 0 + 6 ≤ 6; omega) (fun cX kX hfX hkX _ _ => ?_)
        refine W.eq (g2 := F0 m 43 ls [.ref s.heap.size]) rfl ?_
        refine W.widen (k := 1) (n := 6) (by omega) (by omega) ?_
        refine lv_dup hx hb d_SS_writeOrder_43 rfl ?_
        refine z_ldcsw hx hb hown (z_str hG hO (List.mem_of_getElem? (i := 1060) (by decide +kernel) : (Jvm.Cond.stringRef "StreamSplitter" (259 : Nat) "pid, how, time or lengthAndShift is out of its bounds") ∈ lw_tbl)) d_SS_writeOrder_44 (fun msg => ?_)
        exact z_throw (X := xA) (names := ["java/lang/RuntimeException", "java/lang/Exception"]) hx hb hfl hown (by decide) z_fits (fun a ha => z_oa hG hO (z_oaA a ha)) hem (by rw [hml]; exact hl.1) hfX hkX z_pushAt (Nat.le_refl _) d_SS_writeOrder_47 d_SS_writeOrder_50 (Nat.le_of_ble_eq_true rfl) (Nat.le_of_ble_eq_true rfl) hlocks (fun t ht hW => Or.inr ⟨xA, _, rfl, rfl, ht⟩)
      · refine lv_lload hx hb d_SS_writeOrder_17 (lv_at hl 4 rfl) ?_
        refine lv_lconst (v := 0) hx hb d_SS_writeOrder_19 (by decide) ?_
        refine W.lcmp hx hb d_SS_writeOrder_20 ?_
        refine lv_if_lt (tgt := 40) hx hb d_SS_writeOrder_21 rfl (fun h21 => ?_) (fun h21 => ?_)
        · refine W.newc hx hb hown (hts _ wd_700) (hts _ wd_701) (hts _ wd_71) rfl d_SS_writeOrder_40 (by show 0 + 1 ≤ 1; omega) (by show 0 + 6 ≤ 6; omega) (fun cX kX hfX hkX _ _ => ?_)
          refine W.eq (g2 := F0 m 43 ls [.ref s.heap.size]) rfl ?_
          refine W.widen (k := 1) (n := 6) (by omega) (by omega) ?_
          refine lv_dup hx hb d_SS_writeOrder_43 rfl ?_
          refine z_ldcsw hx hb hown (z_str hG hO (List.mem_of_getElem? (i := 1060) (by decide +kernel) : (Jvm.Cond.stringRef "StreamSplitter" (259 : Nat) "pid, how, time or lengthAndShift is out of its bounds") ∈ lw_tbl)) d_SS_writeOrder_44 (fun msg => ?_)
          exact z_throw (X := xA) (names := ["java/lang/RuntimeException", "java/lang/Exception"]) hx hb hfl hown (by decide) z_fits (fun a ha => z_oa hG hO (z_oaA a ha)) hem (by rw [hml]; exact hl.1) hfX hkX z_pushAt (Nat.le_refl _) d_SS_writeOrder_47 d_SS_writeOrder_50 (Nat.le_of_ble_eq_true rfl) (Nat.le_of_ble_eq_true rfl) hlocks (fun t ht hW => Or.inr ⟨xA, _, rfl, rfl, ht⟩)
        · refine lv_lload hx hb d_SS_writeOrder_24 (lv_at hl 4 rfl) ?_
          refine lv_ldc2 hx hb hown (hts _ wd_1038) d_SS_writeOrder_26 ?_
          refine W.lcmp hx hb d_SS_writeOrder_29 ?_
          refine lv_if_ge (tgt := 40) hx hb d_SS_writeOrder_30 rfl (fun h30 => ?_) (fun h30 => ?_)
          · refine W.newc hx hb hown (hts _ wd_700) (hts _ wd_701) (hts _ wd_71) rfl d_SS_writeOrder_40 (by show 0 + 1 ≤ 1; omega) (by show 0 + 6 ≤ 6; omega) (fun cX kX hfX hkX _ _ => ?_)
            refine W.eq (g2 := F0 m 43 ls [.ref s.heap.size]) rfl ?_
            refine W.widen (k := 1) (n := 6) (by omega) (by omega) ?_
            refine lv_dup hx hb d_SS_writeOrder_43 rfl ?_
            refine z_ldcsw hx hb hown (z_str hG hO (List.mem_of_getElem? (i := 1060) (by decide +kernel) : (Jvm.Cond.stringRef "StreamSplitter" (259 : Nat) "pid, how, time or lengthAndShift is out of its bounds") ∈ lw_tbl)) d_SS_writeOrder_44 (fun msg => ?_)
            exact z_throw (X := xA) (names := ["java/lang/RuntimeException", "java/lang/Exception"]) hx hb hfl hown (by decide) z_fits (fun a ha => z_oa hG hO (z_oaA a ha)) hem (by rw [hml]; exact hl.1) hfX hkX z_pushAt (Nat.le_refl _) d_SS_writeOrder_47 d_SS_writeOrder_50 (Nat.le_of_ble_eq_true rfl) (Nat.le_of_ble_eq_true rfl) hlocks (fun t ht hW => Or.inr ⟨xA, _, rfl, rfl, ht⟩)
          · refine lv_lload hx hb d_SS_writeOrder_33 (lv_at hl 5 rfl) ?_
            refine lv_lconst (v := 0) hx hb d_SS_writeOrder_35 (by decide) ?_
            refine W.lcmp hx hb d_SS_writeOrder_36 ?_
            refine lv_if_ge (tgt := 51) hx hb d_SS_writeOrder_37 rfl (fun h37 => ?_) (fun h37 => ?_)
            · exact absurd hbad (fun z => z.elim (fun q => pd_ok rfl (h4) (Or.inl q)) (fun z => z.elim (fun q => pd_ok rfl (h4) (Or.inr q)) (fun z => z.elim h8 (fun z => z.elim h14 (fun z => z.elim (mt (lg_cmp_lt _ _).mpr h21) (fun z => z.elim (mt (lg_cmp_ge _ _).mpr h30) (Int64.not_lt.mpr ((lg_cmp_ge _ _).mp h37))))))))
            · refine W.newc hx hb hown (hts _ wd_700) (hts _ wd_701) (hts _ wd_71) rfl d_SS_writeOrder_40 (by show 0 + 1 ≤ 1; omega) (by show 0 + 6 ≤ 6; omega) (fun cX kX hfX hkX _ _ => ?_)
              refine W.eq (g2 := F0 m 43 ls [.ref s.heap.size]) rfl ?_
              refine W.widen (k := 1) (n := 6) (by omega) (by omega) ?_
              refine lv_dup hx hb d_SS_writeOrder_43 rfl ?_
              refine z_ldcsw hx hb hown (z_str hG hO (List.mem_of_getElem? (i := 1060) (by decide +kernel) : (Jvm.Cond.stringRef "StreamSplitter" (259 : Nat) "pid, how, time or lengthAndShift is out of its bounds") ∈ lw_tbl)) d_SS_writeOrder_44 (fun msg => ?_)
              exact z_throw (X := xA) (names := ["java/lang/RuntimeException", "java/lang/Exception"]) hx hb hfl hown (by decide) z_fits (fun a ha => z_oa hG hO (z_oaA a ha)) hem (by rw [hml]; exact hl.1) hfX hkX z_pushAt (Nat.le_refl _) d_SS_writeOrder_47 d_SS_writeOrder_50 (Nat.le_of_ble_eq_true rfl) (Nat.le_of_ble_eq_true rfl) hlocks (fun t ht hW => Or.inr ⟨xA, _, rfl, rfl, ht⟩)
set_option maxHeartbeats 4000000 in
set_option maxRecDepth 100000 in
theorem c_Tables_programmeAt0 (l : Launch) (D : va_G) (tb pr b : Nat) (lv mo k : Int32)  : Met l y_Tables_programmeAt [Cond.code y_Tables_programmeAt b_Tables_programmeAt 2 (some (.object "StreamSplitter$Programme"))] ({ frames := 1, cells := 0, slots := 0, locals := 20 }) (zP [.ref tb, .int k] D [(tb, .inr (8, [.int lv, .ref pr])), (pr, .inr (12, [.ref b, .int 0, .int mo]))] []) (va_Sq (fun r => r = none)) 0 0 (fun _ => False) := by
  refine Met.ofW (cc := b_Tables_programmeAt) (maxL := 2) (ret := (some (.object "StreamSplitter$Programme"))) (by decide) rfl ?_
  intro p e s m args below meth cd s₁ Bd hml hv
  obtain ⟨rfl, hP, hK, hN⟩ := hv
  have hx := Bd.exec
  have hb := Bd.bytes
  have hr := Bd.returns
  have hts := hN.use (a := ([.ref tb, .int k]).toArray)
  have hown : s.vm.findClass R_Tables = some m.cls := findClass_of_methodNamed Bd.named
  have hlocks := Bd.notSynchronized
  have hP : va_P D classes [(tb, .inr (8, [.int lv, .ref pr])), (pr, .inr (12, [.ref b, .int 0, .int mo]))] s.heap := hP
  have hl := lv_entry ([.ref tb, .int k]) (n := 2) (Nat.le_of_ble_eq_true rfl)
  rw [lg_entry_eq]
  generalize (lg_sl ([.ref tb, .int k]) ++ List.replicate (2 - (lg_sl ([.ref tb, .int k])).length) Slot.unset).toArray = ls at hl ⊢
  have hl : lv_has ls 2 [(0, .ref tb), (1, .int k)] := hl
  refine lv_iload_n hx hb d_Tables_programmeAt_0 rfl (lv_at hl 1 rfl) ?_
  refine lv_if_lt (tgt := 29) hx hb d_Tables_programmeAt_1 rfl (fun h1 => ?_) (fun h1 => ?_)
  · refine lv_null hx hb d_Tables_programmeAt_29 ?_
    exact W.aret (v := va_rf none) hx hb hr (Or.inl ⟨_, rfl⟩) (va_rf_or _) (fun t ht hW => ⟨_, rfl, rfl, ht⟩) (fun _ h => by cases h) d_Tables_programmeAt_30
  · refine lv_iload_n hx hb d_Tables_programmeAt_4 rfl (lv_at hl 1 rfl) ?_
    refine lv_aload_n hx hb d_Tables_programmeAt_5 rfl (lv_at hl 0 rfl) ?_
    refine va_get (D := D) (ci := 8) (v := .ref pr) (C := R_Tables) (T := F_Tables) (N := 2) hx hb hts i_Tables hown hK hP 0 rfl rfl 1 (by decide) (hts _ wd_166) (fun _ h9 => h9) rfl d_Tables_programmeAt_6 ?_
    have hPc := hP.sub (ws' := [(pr, .inr (12, [.ref b, .int 0, .int mo]))]) [1] rfl
    have hKc := hK.sub (tys' := []) [] rfl
    refine z_ci (va_runV (As := []) (rest := [.int k]) ⟨hx, hb, hml, hown, hts⟩ (c_AL_size l D pr b 0 mo ) (z_cV hN wd_305 wd_66 wd_302 hd_AL_size rfl rfl ⟨Nat.le_of_ble_eq_true rfl, Nat.le_of_ble_eq_true rfl⟩ wd_303 wd_304) (z_preV (va_recv (ci := 12) (q0 := 1) hK hP rfl rfl) hPc hKc hN) rfl rfl hl.1 rfl (lv_room (Nat.le_of_ble_eq_true rfl)) d_Tables_programmeAt_9 ⟨Nat.le_of_ble_eq_true rfl, Nat.le_of_ble_eq_true rfl⟩) (fun r9 e9 => ?_)
    subst e9
    refine lv_icmp_ge (tgt := 29) hx hb d_Tables_programmeAt_12 rfl (fun h12 => ?_) (fun h12 => ?_)
    · refine lv_null hx hb d_Tables_programmeAt_29 ?_
      exact W.aret (v := va_rf none) hx hb hr (Or.inl ⟨_, rfl⟩) (va_rf_or _) (fun t ht hW => ⟨_, rfl, rfl, ht⟩) (fun _ h => by cases h) d_Tables_programmeAt_30
    · exact absurd (Int32.not_le.mp h12) h1
set_option maxHeartbeats 4000000 in
set_option maxRecDepth 100000 in
theorem c_SS_programme_badB (l : Launch) (D : va_G) (hfl : l.stackTraces = false) (B0 : State) (hG : zG B0) (sz : Nat) (h : Nat) (rc d tp ln tb ct dp pr b : Nat) (lv mo : Int32) (k w : Int32) (h0 : ¬ w < 0) (h6 : ¬ 6 < w) : MetT l y_SS_programme [Cond.code y_SS_programme b_SS_programme 4 (some .int)] ({ frames := 6, cells := 1, slots := 6, locals := 82 }) (zMo [.ref h, .int k, .int w] D [(h, .inr (11, [.ref rc, .ref d])), (rc, .inr (4, [.ref tp, .ref ln, .ref tb, .ref ct, .ref dp])), (tb, .inr (8, [.int lv, .ref pr])), (pr, .inr (12, [.ref b, .int 0, .int mo]))] [] sz B0) (zQi (fun _ (_ : Unit) => False) (fun (_u : Unit) t => zW D (va_A [(h, .inr (11, [.ref rc, .ref d])), (rc, .inr (4, [.ref tp, .ref ln, .ref tb, .ref ct, .ref dp])), (tb, .inr (8, [.int lv, .ref pr])), (pr, .inr (12, [.ref b, .int 0, .int mo]))] sz) [(h, .inr (11, [.ref rc, .ref d])), (rc, .inr (4, [.ref tp, .ref ln, .ref tb, .ref ct, .ref dp])), (tb, .inr (8, [.int lv, .ref pr])), (pr, .inr (12, [.ref b, .int 0, .int mo]))] [] t) (va_A [(h, .inr (11, [.ref rc, .ref d])), (rc, .inr (4, [.ref tp, .ref ln, .ref tb, .ref ct, .ref dp])), (tb, .inr (8, [.int lv, .ref pr])), (pr, .inr (12, [.ref b, .int 0, .int mo]))] sz) (fun X => X = xB)) 1 6 (va_A [(h, .inr (11, [.ref rc, .ref d])), (rc, .inr (4, [.ref tp, .ref ln, .ref tb, .ref ct, .ref dp])), (tb, .inr (8, [.int lv, .ref pr])), (pr, .inr (12, [.ref b, .int 0, .int mo]))] sz) := by
  refine MetT.ofW (cc := b_SS_programme) (maxL := 4) (ret := (some .int)) (by decide) rfl ?_
  intro p e s m args below meth cd s₁ Bd hml hem hv
  obtain ⟨rfl, hsz, hP, hK, hN, hD0, hO⟩ := hv
  have hx := Bd.exec
  have hb := Bd.bytes
  have hr := Bd.returns
  have hts := hN.use (a := ([.ref h, .int k, .int w]).toArray)
  have hown : s.vm.findClass R_SS = some m.cls := findClass_of_methodNamed Bd.named
  have hlocks := Bd.notSynchronized
  subst hsz
  have hD := hD0.self (sz := s.heap.size)
  have hAO := z_AO hD0 hO
  clear hD0
  have hA : ∀ q : Nat, s.heap.size ≤ q → va_A [(h, .inr (11, [.ref rc, .ref d])), (rc, .inr (4, [.ref tp, .ref ln, .ref tb, .ref ct, .ref dp])), (tb, .inr (8, [.int lv, .ref pr])), (pr, .inr (12, [.ref b, .int 0, .int mo]))] s.heap.size q := fun q h => Or.inr h
  have hS : va_S (va_A [(h, .inr (11, [.ref rc, .ref d])), (rc, .inr (4, [.ref tp, .ref ln, .ref tb, .ref ct, .ref dp])), (tb, .inr (8, [.int lv, .ref pr])), (pr, .inr (12, [.ref b, .int 0, .int mo]))] s.heap.size) s.heap s.heap [] := va_S.rf
  generalize hAe : va_A [(h, .inr (11, [.ref rc, .ref d])), (rc, .inr (4, [.ref tp, .ref ln, .ref tb, .ref ct, .ref dp])), (tb, .inr (8, [.int lv, .ref pr])), (pr, .inr (12, [.ref b, .int 0, .int mo]))] s.heap.size = A at hD hA hS hAO ⊢
  have hP : va_P D classes [(h, .inr (11, [.ref rc, .ref d])), (rc, .inr (4, [.ref tp, .ref ln, .ref tb, .ref ct, .ref dp])), (tb, .inr (8, [.int lv, .ref pr])), (pr, .inr (12, [.ref b, .int 0, .int mo]))] s.heap := hP
  have hl := lv_entry ([.ref h, .int k, .int w]) (n := 4) (Nat.le_of_ble_eq_true rfl)
  rw [lg_entry_eq]
  generalize (lg_sl ([.ref h, .int k, .int w]) ++ List.replicate (4 - (lg_sl ([.ref h, .int k, .int w])).length) Slot.unset).toArray = ls at hl ⊢
  have hl : lv_has ls 4 [(0, .ref h), (1, .int k), (2, .int w)] := hl
  refine lv_iload_n hx hb d_SS_programme_0 rfl (lv_at hl 2 rfl) ?_
  refine lv_if_lt (tgt := 10) hx hb d_SS_programme_1 rfl (fun h9 => absurd h9 h0) (fun h1 => ?_)
  refine lv_iload_n hx hb d_SS_programme_4 rfl (lv_at hl 2 rfl) ?_
  refine lv_bipush (v := 6) hx hb d_SS_programme_5 (by decide) ?_
  refine lv_icmp_le (tgt := 20) hx hb d_SS_programme_7 rfl (fun h7 => ?_) (fun h9 => absurd (Int32.not_le.mp h9) h6)
  refine lv_aload_n hx hb d_SS_programme_20 rfl (lv_at hl 0 rfl) ?_
  refine va_get (D := D) (ci := 11) (v := .ref rc) (C := R_SS) (T := F_SS) (N := 2) hx hb hts i_SS hown hK hP 0 rfl rfl 0 (by decide) (hts _ wd_198) (fun _ h9 => h9) rfl d_SS_programme_21 ?_
  refine va_getN (D := D) (ci := 4) (v := .ref tb) (C := R_Receiver) (T := F_Receiver) (N := 5) hx hb hts i_Receiver hown hK hP 1 rfl rfl 2 (by decide) (hts _ wd_180) (fun _ h9 => h9) rfl d_SS_programme_24 ?_
  refine lv_iload_n hx hb d_SS_programme_27 rfl (lv_at hl 1 rfl) ?_
  have hPc := hP.sub (ws' := [(tb, .inr (8, [.int lv, .ref pr])), (pr, .inr (12, [.ref b, .int 0, .int mo]))]) [2, 3] rfl
  have hKc := hK.sub (tys' := []) [] rfl
  refine z_cq (va_runV (As := [.int k]) (rest := []) ⟨hx, hb, hml, hown, hts⟩ (c_Tables_programmeAt0 l D tb pr b lv mo k ) (z_cV hN wd_832 wd_63 wd_829 hd_Tables_programmeAt rfl rfl ⟨Nat.le_of_ble_eq_true rfl, Nat.le_of_ble_eq_true rfl⟩ wd_830 wd_831) (z_preV (va_recv (ci := 8) (q0 := 2) hK hP rfl rfl) hPc hKc hN) rfl rfl hl.1 rfl (lv_room (Nat.le_of_ble_eq_true rfl)) d_SS_programme_28 ⟨Nat.le_of_ble_eq_true rfl, Nat.le_of_ble_eq_true rfl⟩) (fun r28 e28 => ?_)
  subst e28
  refine z_topq (w := none) rfl ?_
  refine lv_astore_nN (lv' := [(3, .null), (0, .ref h), (1, .int k), (2, .int w)]) hx hb d_SS_programme_31 rfl hl (by decide) rfl (fun ls hl => ?_)
  refine lv_aload_nN hx hb d_SS_programme_32 rfl (lv_at hl 0 rfl) ?_
  refine lv_ifnonnullN hx hb d_SS_programme_33 ?_
  refine W.newc hx hb hown (hts _ wd_775) (hts _ wd_776) (hts _ wd_72) rfl d_SS_programme_36 (by show 0 + 1 ≤ 1; omega) (by show 0 + 6 ≤ 6; omega) (fun cX kX hfX hkX _ _ => ?_)
  refine W.eq (g2 := F0 m 39 ls [.ref s.heap.size]) rfl ?_
  refine W.widen (k := 1) (n := 6) (by omega) (by omega) ?_
  refine lv_dup hx hb d_SS_programme_39 rfl ?_
  refine z_ldcs hx hb hown (z_str hG hO (List.mem_of_getElem? (i := 833) (by decide +kernel) : (Jvm.Cond.stringRef "StreamSplitter" (114 : Nat) "there is no programme k") ∈ lw_tbl)) d_SS_programme_40 (fun msg => ?_)
  exact z_throw (X := xB) (names := ["java/lang/RuntimeException", "java/lang/Exception"]) hx hb hfl hown (by decide) z_fits (fun a ha => z_oa hG hO (z_oaB a ha)) hem (by rw [hml]; exact hl.1) hfX hkX z_pushAt (Nat.le_refl _) d_SS_programme_42 d_SS_programme_45 (Nat.le_of_ble_eq_true rfl) (Nat.le_of_ble_eq_true rfl) hlocks (fun t ht hW => Or.inr ⟨xB, _, rfl, rfl, ht⟩)
set_option maxHeartbeats 4000000 in
set_option maxRecDepth 100000 in
theorem c_SS_stream_bad (l : Launch) (D : va_G) (hfl : l.stackTraces = false) (B0 : State) (hG : zG B0) (sz : Nat) (h : Nat) (rc d tp ln tb ct dp pr b : Nat) (lv mo : Int32) (k j : Int32)  : MetT l y_SS_stream [Cond.code y_SS_stream b_SS_stream 5 (some .int)] ({ frames := 6, cells := 1, slots := 6, locals := 82 }) (zMo [.ref h, .int k, .int j] D [(h, .inr (11, [.ref rc, .ref d])), (rc, .inr (4, [.ref tp, .ref ln, .ref tb, .ref ct, .ref dp])), (tb, .inr (8, [.int lv, .ref pr])), (pr, .inr (12, [.ref b, .int 0, .int mo]))] [] sz B0) (zQi (fun _ (_ : Unit) => False) (fun (_u : Unit) t => zW D (va_A [(h, .inr (11, [.ref rc, .ref d])), (rc, .inr (4, [.ref tp, .ref ln, .ref tb, .ref ct, .ref dp])), (tb, .inr (8, [.int lv, .ref pr])), (pr, .inr (12, [.ref b, .int 0, .int mo]))] sz) [(h, .inr (11, [.ref rc, .ref d])), (rc, .inr (4, [.ref tp, .ref ln, .ref tb, .ref ct, .ref dp])), (tb, .inr (8, [.int lv, .ref pr])), (pr, .inr (12, [.ref b, .int 0, .int mo]))] [] t) (va_A [(h, .inr (11, [.ref rc, .ref d])), (rc, .inr (4, [.ref tp, .ref ln, .ref tb, .ref ct, .ref dp])), (tb, .inr (8, [.int lv, .ref pr])), (pr, .inr (12, [.ref b, .int 0, .int mo]))] sz) (fun X => X = xB)) 1 6 (va_A [(h, .inr (11, [.ref rc, .ref d])), (rc, .inr (4, [.ref tp, .ref ln, .ref tb, .ref ct, .ref dp])), (tb, .inr (8, [.int lv, .ref pr])), (pr, .inr (12, [.ref b, .int 0, .int mo]))] sz) := by
  refine MetT.ofW (cc := b_SS_stream) (maxL := 5) (ret := (some .int)) (by decide) rfl ?_
  intro p e s m args below meth cd s₁ Bd hml hem hv
  obtain ⟨rfl, hsz, hP, hK, hN, hD0, hO⟩ := hv
  have hx := Bd.exec
  have hb := Bd.bytes
  have hr := Bd.returns
  have hts := hN.use (a := ([.ref h, .int k, .int j]).toArray)
  have hown : s.vm.findClass R_SS = some m.cls := findClass_of_methodNamed Bd.named
  have hlocks := Bd.notSynchronized
  subst hsz
  have hD := hD0.self (sz := s.heap.size)
  have hAO := z_AO hD0 hO
  clear hD0
  have hA : ∀ q : Nat, s.heap.size ≤ q → va_A [(h, .inr (11, [.ref rc, .ref d])), (rc, .inr (4, [.ref tp, .ref ln, .ref tb, .ref ct, .ref dp])), (tb, .inr (8, [.int lv, .ref pr])), (pr, .inr (12, [.ref b, .int 0, .int mo]))] s.heap.size q := fun q h => Or.inr h
  have hS : va_S (va_A [(h, .inr (11, [.ref rc, .ref d])), (rc, .inr (4, [.ref tp, .ref ln, .ref tb, .ref ct, .ref dp])), (tb, .inr (8, [.int lv, .ref pr])), (pr, .inr (12, [.ref b, .int 0, .int mo]))] s.heap.size) s.heap s.heap [] := va_S.rf
  generalize hAe : va_A [(h, .inr (11, [.ref rc, .ref d])), (rc, .inr (4, [.ref tp, .ref ln, .ref tb, .ref ct, .ref dp])), (tb, .inr (8, [.int lv, .ref pr])), (pr, .inr (12, [.ref b, .int 0, .int mo]))] s.heap.size = A at hD hA hS hAO ⊢
  have hP : va_P D classes [(h, .inr (11, [.ref rc, .ref d])), (rc, .inr (4, [.ref tp, .ref ln, .ref tb, .ref ct, .ref dp])), (tb, .inr (8, [.int lv, .ref pr])), (pr, .inr (12, [.ref b, .int 0, .int mo]))] s.heap := hP
  have hl := lv_entry ([.ref h, .int k, .int j]) (n := 5) (Nat.le_of_ble_eq_true rfl)
  rw [lg_entry_eq]
  generalize (lg_sl ([.ref h, .int k, .int j]) ++ List.replicate (5 - (lg_sl ([.ref h, .int k, .int j])).length) Slot.unset).toArray = ls at hl ⊢
  have hl : lv_has ls 5 [(0, .ref h), (1, .int k), (2, .int j)] := hl
  refine lv_aload_n hx hb d_SS_stream_0 rfl (lv_at hl 0 rfl) ?_
  refine va_get (D := D) (ci := 11) (v := .ref rc) (C := R_SS) (T := F_SS) (N := 2) hx hb hts i_SS hown hK hP 0 rfl rfl 0 (by decide) (hts _ wd_198) (fun _ h9 => h9) rfl d_SS_stream_1 ?_
  refine va_getN (D := D) (ci := 4) (v := .ref tb) (C := R_Receiver) (T := F_Receiver) (N := 5) hx hb hts i_Receiver hown hK hP 1 rfl rfl 2 (by decide) (hts _ wd_180) (fun _ h9 => h9) rfl d_SS_stream_4 ?_
  refine lv_iload_n hx hb d_SS_stream_7 rfl (lv_at hl 1 rfl) ?_
  have hPc := hP.sub (ws' := [(tb, .inr (8, [.int lv, .ref pr])), (pr, .inr (12, [.ref b, .int 0, .int mo]))]) [2, 3] rfl
  have hKc := hK.sub (tys' := []) [] rfl
  refine z_cq (va_runV (As := [.int k]) (rest := []) ⟨hx, hb, hml, hown, hts⟩ (c_Tables_programmeAt0 l D tb pr b lv mo k ) (z_cV hN wd_832 wd_63 wd_829 hd_Tables_programmeAt rfl rfl ⟨Nat.le_of_ble_eq_true rfl, Nat.le_of_ble_eq_true rfl⟩ wd_830 wd_831) (z_preV (va_recv (ci := 8) (q0 := 2) hK hP rfl rfl) hPc hKc hN) rfl rfl hl.1 rfl (lv_room (Nat.le_of_ble_eq_true rfl)) d_SS_stream_8 ⟨Nat.le_of_ble_eq_true rfl, Nat.le_of_ble_eq_true rfl⟩) (fun r8 e8 => ?_)
  subst e8
  refine z_topq (w := none) rfl ?_
  refine lv_astore_nN (lv' := [(3, .null), (0, .ref h), (1, .int k), (2, .int j)]) hx hb d_SS_stream_11 rfl hl (by decide) rfl (fun ls hl => ?_)
  refine lv_aload_nN hx hb d_SS_stream_12 rfl (lv_at hl 0 rfl) ?_
  refine lv_ifnonnullN hx hb d_SS_stream_13 ?_
  refine W.newc hx hb hown (hts _ wd_775) (hts _ wd_776) (hts _ wd_72) rfl d_SS_stream_16 (by show 0 + 1 ≤ 1; omega) (by show 0 + 6 ≤ 6; omega) (fun cX kX hfX hkX _ _ => ?_)
  refine W.eq (g2 := F0 m 19 ls [.ref s.heap.size]) rfl ?_
  refine W.widen (k := 1) (n := 6) (by omega) (by omega) ?_
  refine lv_dup hx hb d_SS_stream_19 rfl ?_
  refine z_ldcs hx hb hown (z_str hG hO (List.mem_of_getElem? (i := 833) (by decide +kernel) : (Jvm.Cond.stringRef "StreamSplitter" (114 : Nat) "there is no programme k") ∈ lw_tbl)) d_SS_stream_20 (fun msg => ?_)
  exact z_throw (X := xB) (names := ["java/lang/RuntimeException", "java/lang/Exception"]) hx hb hfl hown (by decide) z_fits (fun a ha => z_oa hG hO (z_oaB a ha)) hem (by rw [hml]; exact hl.1) hfX hkX z_pushAt (Nat.le_refl _) d_SS_stream_22 d_SS_stream_25 (Nat.le_of_ble_eq_true rfl) (Nat.le_of_ble_eq_true rfl) hlocks (fun t ht hW => Or.inr ⟨xB, _, rfl, rfl, ht⟩)
set_option maxHeartbeats 4000000 in
set_option maxRecDepth 100000 in
theorem c_SS_now_bad (l : Launch) (D : va_G) (hfl : l.stackTraces = false) (B0 : State) (hG : zG B0) (sz : Nat) (h : Nat) (rc d tp ln tb ct dp pr b : Nat) (lv mo : Int32) (k : Int32)  : MetT l y_SS_now [Cond.code y_SS_now b_SS_now 3 (some .long)] ({ frames := 6, cells := 1, slots := 6, locals := 82 }) (zMo [.ref h, .int k] D [(h, .inr (11, [.ref rc, .ref d])), (rc, .inr (4, [.ref tp, .ref ln, .ref tb, .ref ct, .ref dp])), (tb, .inr (8, [.int lv, .ref pr])), (pr, .inr (12, [.ref b, .int 0, .int mo]))] [] sz B0) (zQl (fun _ (_ : Unit) => False) (fun (_u : Unit) t => zW D (va_A [(h, .inr (11, [.ref rc, .ref d])), (rc, .inr (4, [.ref tp, .ref ln, .ref tb, .ref ct, .ref dp])), (tb, .inr (8, [.int lv, .ref pr])), (pr, .inr (12, [.ref b, .int 0, .int mo]))] sz) [(h, .inr (11, [.ref rc, .ref d])), (rc, .inr (4, [.ref tp, .ref ln, .ref tb, .ref ct, .ref dp])), (tb, .inr (8, [.int lv, .ref pr])), (pr, .inr (12, [.ref b, .int 0, .int mo]))] [] t) (va_A [(h, .inr (11, [.ref rc, .ref d])), (rc, .inr (4, [.ref tp, .ref ln, .ref tb, .ref ct, .ref dp])), (tb, .inr (8, [.int lv, .ref pr])), (pr, .inr (12, [.ref b, .int 0, .int mo]))] sz) (fun X => X = xB)) 1 6 (va_A [(h, .inr (11, [.ref rc, .ref d])), (rc, .inr (4, [.ref tp, .ref ln, .ref tb, .ref ct, .ref dp])), (tb, .inr (8, [.int lv, .ref pr])), (pr, .inr (12, [.ref b, .int 0, .int mo]))] sz) := by
  refine MetT.ofW (cc := b_SS_now) (maxL := 3) (ret := (some .long)) (by decide) rfl ?_
  intro p e s m args below meth cd s₁ Bd hml hem hv
  obtain ⟨rfl, hsz, hP, hK, hN, hD0, hO⟩ := hv
  have hx := Bd.exec
  have hb := Bd.bytes
  have hr := Bd.returns
  have hts := hN.use (a := ([.ref h, .int k]).toArray)
  have hown : s.vm.findClass R_SS = some m.cls := findClass_of_methodNamed Bd.named
  have hlocks := Bd.notSynchronized
  subst hsz
  have hD := hD0.self (sz := s.heap.size)
  have hAO := z_AO hD0 hO
  clear hD0
  have hA : ∀ q : Nat, s.heap.size ≤ q → va_A [(h, .inr (11, [.ref rc, .ref d])), (rc, .inr (4, [.ref tp, .ref ln, .ref tb, .ref ct, .ref dp])), (tb, .inr (8, [.int lv, .ref pr])), (pr, .inr (12, [.ref b, .int 0, .int mo]))] s.heap.size q := fun q h => Or.inr h
  have hS : va_S (va_A [(h, .inr (11, [.ref rc, .ref d])), (rc, .inr (4, [.ref tp, .ref ln, .ref tb, .ref ct, .ref dp])), (tb, .inr (8, [.int lv, .ref pr])), (pr, .inr (12, [.ref b, .int 0, .int mo]))] s.heap.size) s.heap s.heap [] := va_S.rf
  generalize hAe : va_A [(h, .inr (11, [.ref rc, .ref d])), (rc, .inr (4, [.ref tp, .ref ln, .ref tb, .ref ct, .ref dp])), (tb, .inr (8, [.int lv, .ref pr])), (pr, .inr (12, [.ref b, .int 0, .int mo]))] s.heap.size = A at hD hA hS hAO ⊢
  have hP : va_P D classes [(h, .inr (11, [.ref rc, .ref d])), (rc, .inr (4, [.ref tp, .ref ln, .ref tb, .ref ct, .ref dp])), (tb, .inr (8, [.int lv, .ref pr])), (pr, .inr (12, [.ref b, .int 0, .int mo]))] s.heap := hP
  have hl := lv_entry ([.ref h, .int k]) (n := 3) (Nat.le_of_ble_eq_true rfl)
  rw [lg_entry_eq]
  generalize (lg_sl ([.ref h, .int k]) ++ List.replicate (3 - (lg_sl ([.ref h, .int k])).length) Slot.unset).toArray = ls at hl ⊢
  have hl : lv_has ls 3 [(0, .ref h), (1, .int k)] := hl
  refine lv_aload_n hx hb d_SS_now_0 rfl (lv_at hl 0 rfl) ?_
  refine va_get (D := D) (ci := 11) (v := .ref rc) (C := R_SS) (T := F_SS) (N := 2) hx hb hts i_SS hown hK hP 0 rfl rfl 0 (by decide) (hts _ wd_198) (fun _ h9 => h9) rfl d_SS_now_1 ?_
  refine va_getN (D := D) (ci := 4) (v := .ref tb) (C := R_Receiver) (T := F_Receiver) (N := 5) hx hb hts i_Receiver hown hK hP 1 rfl rfl 2 (by decide) (hts _ wd_180) (fun _ h9 => h9) rfl d_SS_now_4 ?_
  refine lv_iload_n hx hb d_SS_now_7 rfl (lv_at hl 1 rfl) ?_
  have hPc := hP.sub (ws' := [(tb, .inr (8, [.int lv, .ref pr])), (pr, .inr (12, [.ref b, .int 0, .int mo]))]) [2, 3] rfl
  have hKc := hK.sub (tys' := []) [] rfl
  refine z_cq (va_runV (As := [.int k]) (rest := []) ⟨hx, hb, hml, hown, hts⟩ (c_Tables_programmeAt0 l D tb pr b lv mo k ) (z_cV hN wd_832 wd_63 wd_829 hd_Tables_programmeAt rfl rfl ⟨Nat.le_of_ble_eq_true rfl, Nat.le_of_ble_eq_true rfl⟩ wd_830 wd_831) (z_preV (va_recv (ci := 8) (q0 := 2) hK hP rfl rfl) hPc hKc hN) rfl rfl hl.1 rfl (lv_room (Nat.le_of_ble_eq_true rfl)) d_SS_now_8 ⟨Nat.le_of_ble_eq_true rfl, Nat.le_of_ble_eq_true rfl⟩) (fun r8 e8 => ?_)
  subst e8
  refine z_topq (w := none) rfl ?_
  refine lv_astore_nN (lv' := [(2, .null), (0, .ref h), (1, .int k)]) hx hb d_SS_now_11 rfl hl (by decide) rfl (fun ls hl => ?_)
  refine lv_aload_nN hx hb d_SS_now_12 rfl (lv_at hl 0 rfl) ?_
  refine lv_ifnonnullN hx hb d_SS_now_13 ?_
  refine W.newc hx hb hown (hts _ wd_775) (hts _ wd_776) (hts _ wd_72) rfl d_SS_now_16 (by show 0 + 1 ≤ 1; omega) (by show 0 + 6 ≤ 6; omega) (fun cX kX hfX hkX _ _ => ?_)
  refine W.eq (g2 := F0 m 19 ls [.ref s.heap.size]) rfl ?_
  refine W.widen (k := 1) (n := 6) (by omega) (by omega) ?_
  refine lv_dup hx hb d_SS_now_19 rfl ?_
  refine z_ldcs hx hb hown (z_str hG hO (List.mem_of_getElem? (i := 833) (by decide +kernel) : (Jvm.Cond.stringRef "StreamSplitter" (114 : Nat) "there is no programme k") ∈ lw_tbl)) d_SS_now_20 (fun msg => ?_)
  exact z_throw (X := xB) (names := ["java/lang/RuntimeException", "java/lang/Exception"]) hx hb hfl hown (by decide) z_fits (fun a ha => z_oa hG hO (z_oaB a ha)) hem (by rw [hml]; exact hl.1) hfX hkX z_pushAt (Nat.le_refl _) d_SS_now_22 d_SS_now_25 (Nat.le_of_ble_eq_true rfl) (Nat.le_of_ble_eq_true rfl) hlocks (fun t ht hW => Or.inr ⟨xB, _, rfl, rfl, ht⟩)
set_option maxHeartbeats 4000000 in
set_option maxRecDepth 100000 in
theorem c_SS_order_badB (l : Launch) (D : va_G) (hfl : l.stackTraces = false) (B0 : State) (hG : zG B0) (sz : Nat) (h : Nat) (rc d tp ln tb ct dp pr b : Nat) (lv mo : Int32) (k j w : Int32) (h0 : ¬ w < 0) (h3 : ¬ 3 < w) : MetT l y_SS_order [Cond.code y_SS_order b_SS_order 6 (some .long)] ({ frames := 6, cells := 1, slots := 6, locals := 82 }) (zMo [.ref h, .int k, .int j, .int w] D [(h, .inr (11, [.ref rc, .ref d])), (rc, .inr (4, [.ref tp, .ref ln, .ref tb, .ref ct, .ref dp])), (tb, .inr (8, [.int lv, .ref pr])), (pr, .inr (12, [.ref b, .int 0, .int mo]))] [] sz B0) (zQl (fun _ (_ : Unit) => False) (fun (_u : Unit) t => zW D (va_A [(h, .inr (11, [.ref rc, .ref d])), (rc, .inr (4, [.ref tp, .ref ln, .ref tb, .ref ct, .ref dp])), (tb, .inr (8, [.int lv, .ref pr])), (pr, .inr (12, [.ref b, .int 0, .int mo]))] sz) [(h, .inr (11, [.ref rc, .ref d])), (rc, .inr (4, [.ref tp, .ref ln, .ref tb, .ref ct, .ref dp])), (tb, .inr (8, [.int lv, .ref pr])), (pr, .inr (12, [.ref b, .int 0, .int mo]))] [] t) (va_A [(h, .inr (11, [.ref rc, .ref d])), (rc, .inr (4, [.ref tp, .ref ln, .ref tb, .ref ct, .ref dp])), (tb, .inr (8, [.int lv, .ref pr])), (pr, .inr (12, [.ref b, .int 0, .int mo]))] sz) (fun X => X = xB)) 1 6 (va_A [(h, .inr (11, [.ref rc, .ref d])), (rc, .inr (4, [.ref tp, .ref ln, .ref tb, .ref ct, .ref dp])), (tb, .inr (8, [.int lv, .ref pr])), (pr, .inr (12, [.ref b, .int 0, .int mo]))] sz) := by
  refine MetT.ofW (cc := b_SS_order) (maxL := 6) (ret := (some .long)) (by decide) rfl ?_
  intro p e s m args below meth cd s₁ Bd hml hem hv
  obtain ⟨rfl, hsz, hP, hK, hN, hD0, hO⟩ := hv
  have hx := Bd.exec
  have hb := Bd.bytes
  have hr := Bd.returns
  have hts := hN.use (a := ([.ref h, .int k, .int j, .int w]).toArray)
  have hown : s.vm.findClass R_SS = some m.cls := findClass_of_methodNamed Bd.named
  have hlocks := Bd.notSynchronized
  subst hsz
  have hD := hD0.self (sz := s.heap.size)
  have hAO := z_AO hD0 hO
  clear hD0
  have hA : ∀ q : Nat, s.heap.size ≤ q → va_A [(h, .inr (11, [.ref rc, .ref d])), (rc, .inr (4, [.ref tp, .ref ln, .ref tb, .ref ct, .ref dp])), (tb, .inr (8, [.int lv, .ref pr])), (pr, .inr (12, [.ref b, .int 0, .int mo]))] s.heap.size q := fun q h => Or.inr h
  have hS : va_S (va_A [(h, .inr (11, [.ref rc, .ref d])), (rc, .inr (4, [.ref tp, .ref ln, .ref tb, .ref ct, .ref dp])), (tb, .inr (8, [.int lv, .ref pr])), (pr, .inr (12, [.ref b, .int 0, .int mo]))] s.heap.size) s.heap s.heap [] := va_S.rf
  generalize hAe : va_A [(h, .inr (11, [.ref rc, .ref d])), (rc, .inr (4, [.ref tp, .ref ln, .ref tb, .ref ct, .ref dp])), (tb, .inr (8, [.int lv, .ref pr])), (pr, .inr (12, [.ref b, .int 0, .int mo]))] s.heap.size = A at hD hA hS hAO ⊢
  have hP : va_P D classes [(h, .inr (11, [.ref rc, .ref d])), (rc, .inr (4, [.ref tp, .ref ln, .ref tb, .ref ct, .ref dp])), (tb, .inr (8, [.int lv, .ref pr])), (pr, .inr (12, [.ref b, .int 0, .int mo]))] s.heap := hP
  have hl := lv_entry ([.ref h, .int k, .int j, .int w]) (n := 6) (Nat.le_of_ble_eq_true rfl)
  rw [lg_entry_eq]
  generalize (lg_sl ([.ref h, .int k, .int j, .int w]) ++ List.replicate (6 - (lg_sl ([.ref h, .int k, .int j, .int w])).length) Slot.unset).toArray = ls at hl ⊢
  have hl : lv_has ls 6 [(0, .ref h), (1, .int k), (2, .int j), (3, .int w)] := hl
  refine lv_iload_n hx hb d_SS_order_0 rfl (lv_at hl 3 rfl) ?_
  refine lv_if_lt (tgt := 9) hx hb d_SS_order_1 rfl (fun h9 => absurd h9 h0) (fun h1 => ?_)
  refine lv_iload_n hx hb d_SS_order_4 rfl (lv_at hl 3 rfl) ?_
  refine lv_iconst (v := 3) hx hb d_SS_order_5 (by decide) ?_
  refine lv_icmp_le (tgt := 19) hx hb d_SS_order_6 rfl (fun h6 => ?_) (fun h9 => absurd (Int32.not_le.mp h9) h3)
  refine lv_aload_n hx hb d_SS_order_19 rfl (lv_at hl 0 rfl) ?_
  refine va_get (D := D) (ci := 11) (v := .ref rc) (C := R_SS) (T := F_SS) (N := 2) hx hb hts i_SS hown hK hP 0 rfl rfl 0 (by decide) (hts _ wd_198) (fun _ h9 => h9) rfl d_SS_order_20 ?_
  refine va_getN (D := D) (ci := 4) (v := .ref tb) (C := R_Receiver) (T := F_Receiver) (N := 5) hx hb hts i_Receiver hown hK hP 1 rfl rfl 2 (by decide) (hts _ wd_180) (fun _ h9 => h9) rfl d_SS_order_23 ?_
  refine lv_iload_n hx hb d_SS_order_26 rfl (lv_at hl 1 rfl) ?_
  have hPc := hP.sub (ws' := [(tb, .inr (8, [.int lv, .ref pr])), (pr, .inr (12, [.ref b, .int 0, .int mo]))]) [2, 3] rfl
  have hKc := hK.sub (tys' := []) [] rfl
  refine z_cq (va_runV (As := [.int k]) (rest := []) ⟨hx, hb, hml, hown, hts⟩ (c_Tables_programmeAt0 l D tb pr b lv mo k ) (z_cV hN wd_832 wd_63 wd_829 hd_Tables_programmeAt rfl rfl ⟨Nat.le_of_ble_eq_true rfl, Nat.le_of_ble_eq_true rfl⟩ wd_830 wd_831) (z_preV (va_recv (ci := 8) (q0 := 2) hK hP rfl rfl) hPc hKc hN) rfl rfl hl.1 rfl (lv_room (Nat.le_of_ble_eq_true rfl)) d_SS_order_27 ⟨Nat.le_of_ble_eq_true rfl, Nat.le_of_ble_eq_true rfl⟩) (fun r27 e27 => ?_)
  subst e27
  refine z_topq (w := none) rfl ?_
  refine lv_astoreN (lv' := [(4, .null), (0, .ref h), (1, .int k), (2, .int j), (3, .int w)]) hx hb d_SS_order_30 hl (by decide) rfl (fun ls hl => ?_)
  refine lv_aloadN hx hb d_SS_order_32 (lv_at hl 0 rfl) ?_
  refine lv_ifnonnullN hx hb d_SS_order_34 ?_
  refine W.newc hx hb hown (hts _ wd_775) (hts _ wd_776) (hts _ wd_72) rfl d_SS_order_37 (by show 0 + 1 ≤ 1; omega) (by show 0 + 6 ≤ 6; omega) (fun cX kX hfX hkX _ _ => ?_)
  refine W.eq (g2 := F0 m 40 ls [.ref s.heap.size]) rfl ?_
  refine W.widen (k := 1) (n := 6) (by omega) (by omega) ?_
  refine lv_dup hx hb d_SS_order_40 rfl ?_
  refine z_ldcs hx hb hown (z_str hG hO (List.mem_of_getElem? (i := 833) (by decide +kernel) : (Jvm.Cond.stringRef "StreamSplitter" (114 : Nat) "there is no programme k") ∈ lw_tbl)) d_SS_order_41 (fun msg => ?_)
  exact z_throw (X := xB) (names := ["java/lang/RuntimeException", "java/lang/Exception"]) hx hb hfl hown (by decide) z_fits (fun a ha => z_oa hG hO (z_oaB a ha)) hem (by rw [hml]; exact hl.1) hfX hkX z_pushAt (Nat.le_refl _) d_SS_order_43 d_SS_order_46 (Nat.le_of_ble_eq_true rfl) (Nat.le_of_ble_eq_true rfl) hlocks (fun t ht hW => Or.inr ⟨xB, _, rfl, rfl, ht⟩)
set_option maxHeartbeats 4000000 in
set_option maxRecDepth 100000 in
theorem c_SS_addStream_badB (l : Launch) (D : va_G) (hfl : l.stackTraces = false) (B0 : State) (hG : zG B0) (sz : Nat) (h : Nat) (rc d b : Nat) (mo : Int32) (k ty c : Int32)  : MetT l y_SS_addStream [Cond.code y_SS_addStream b_SS_addStream 5 (some .int)] ({ frames := 6, cells := 1, slots := 6, locals := 82 }) (zMo [.ref h, .int k, .int ty, .int c] D [(h, .inr (11, [.ref rc, .ref d])), (d, .inr (12, [.ref b, .int 0, .int mo]))] [] sz B0) (zQi (fun _ (_ : Unit) => False) (fun (_u : Unit) t => zW D (va_A [(h, .inr (11, [.ref rc, .ref d])), (d, .inr (12, [.ref b, .int 0, .int mo]))] sz) [(h, .inr (11, [.ref rc, .ref d])), (d, .inr (12, [.ref b, .int 0, .int mo]))] [] t) (va_A [(h, .inr (11, [.ref rc, .ref d])), (d, .inr (12, [.ref b, .int 0, .int mo]))] sz) (fun X => X = xB)) 1 6 (va_A [(h, .inr (11, [.ref rc, .ref d])), (d, .inr (12, [.ref b, .int 0, .int mo]))] sz) := by
  refine MetT.ofW (cc := b_SS_addStream) (maxL := 5) (ret := (some .int)) (by decide) rfl ?_
  intro p e s m args below meth cd s₁ Bd hml hem hv
  obtain ⟨rfl, hsz, hP, hK, hN, hD0, hO⟩ := hv
  have hx := Bd.exec
  have hb := Bd.bytes
  have hr := Bd.returns
  have hts := hN.use (a := ([.ref h, .int k, .int ty, .int c]).toArray)
  have hown : s.vm.findClass R_SS = some m.cls := findClass_of_methodNamed Bd.named
  have hlocks := Bd.notSynchronized
  subst hsz
  have hD := hD0.self (sz := s.heap.size)
  have hAO := z_AO hD0 hO
  clear hD0
  have hA : ∀ q : Nat, s.heap.size ≤ q → va_A [(h, .inr (11, [.ref rc, .ref d])), (d, .inr (12, [.ref b, .int 0, .int mo]))] s.heap.size q := fun q h => Or.inr h
  have hS : va_S (va_A [(h, .inr (11, [.ref rc, .ref d])), (d, .inr (12, [.ref b, .int 0, .int mo]))] s.heap.size) s.heap s.heap [] := va_S.rf
  generalize hAe : va_A [(h, .inr (11, [.ref rc, .ref d])), (d, .inr (12, [.ref b, .int 0, .int mo]))] s.heap.size = A at hD hA hS hAO ⊢
  have hP : va_P D classes [(h, .inr (11, [.ref rc, .ref d])), (d, .inr (12, [.ref b, .int 0, .int mo]))] s.heap := hP
  have hl := lv_entry ([.ref h, .int k, .int ty, .int c]) (n := 5) (Nat.le_of_ble_eq_true rfl)
  rw [lg_entry_eq]
  generalize (lg_sl ([.ref h, .int k, .int ty, .int c]) ++ List.replicate (5 - (lg_sl ([.ref h, .int k, .int ty, .int c])).length) Slot.unset).toArray = ls at hl ⊢
  have hl : lv_has ls 5 [(0, .ref h), (1, .int k), (2, .int ty), (3, .int c)] := hl
  refine lv_iload_n hx hb d_SS_addStream_0 rfl (lv_at hl 1 rfl) ?_
  refine lv_if_lt (tgt := 15) hx hb d_SS_addStream_1 rfl (fun h1 => ?_) (fun h1 => ?_)
  · refine W.newc hx hb hown (hts _ wd_775) (hts _ wd_776) (hts _ wd_72) rfl d_SS_addStream_15 (by show 0 + 1 ≤ 1; omega) (by show 0 + 6 ≤ 6; omega) (fun cX kX hfX hkX _ _ => ?_)
    refine W.eq (g2 := F0 m 18 ls [.ref s.heap.size]) rfl ?_
    refine W.widen (k := 1) (n := 6) (by omega) (by omega) ?_
    refine lv_dup hx hb d_SS_addStream_18 rfl ?_
    refine z_ldcs hx hb hown (z_str hG hO (List.mem_of_getElem? (i := 926) (by decide +kernel) : (Jvm.Cond.stringRef "StreamSplitter" (218 : Nat) "there is no such programme") ∈ lw_tbl)) d_SS_addStream_19 (fun msg => ?_)
    exact z_throw (X := xB) (names := ["java/lang/RuntimeException", "java/lang/Exception"]) hx hb hfl hown (by decide) z_fits (fun a ha => z_oa hG hO (z_oaB a ha)) hem (by rw [hml]; exact hl.1) hfX hkX z_pushAt (Nat.le_refl _) d_SS_addStream_21 d_SS_addStream_24 (Nat.le_of_ble_eq_true rfl) (Nat.le_of_ble_eq_true rfl) hlocks (fun t ht hW => Or.inr ⟨xB, _, rfl, rfl, ht⟩)
  · refine lv_iload_n hx hb d_SS_addStream_4 rfl (lv_at hl 1 rfl) ?_
    refine lv_aload_n hx hb d_SS_addStream_5 rfl (lv_at hl 0 rfl) ?_
    refine va_get (D := D) (ci := 11) (v := .ref d) (C := R_SS) (T := F_SS) (N := 2) hx hb hts i_SS hown hK hP 0 rfl rfl 1 (by decide) (hts _ wd_199) (fun _ h9 => h9) rfl d_SS_addStream_6 ?_
    have hPc := hP.sub (ws' := [(d, .inr (12, [.ref b, .int 0, .int mo]))]) [1] rfl
    have hKc := hK.sub (tys' := []) [] rfl
    refine z_ci (va_runV (As := []) (rest := [.int k]) ⟨hx, hb, hml, hown, hts⟩ (c_AL_size l D d b 0 mo ) (z_cV hN wd_305 wd_66 wd_820 hd_AL_size rfl rfl ⟨Nat.le_of_ble_eq_true rfl, Nat.le_of_ble_eq_true rfl⟩ wd_303 wd_304) (z_preV (va_recv (ci := 12) (q0 := 1) hK hP rfl rfl) hPc hKc hN) rfl rfl hl.1 rfl (lv_room (Nat.le_of_ble_eq_true rfl)) d_SS_addStream_9 ⟨Nat.le_of_ble_eq_true rfl, Nat.le_of_ble_eq_true rfl⟩) (fun r9 e9 => ?_)
    subst e9
    refine lv_icmp_lt (tgt := 25) hx hb d_SS_addStream_12 rfl (fun h12 => ?_) (fun h12 => ?_)
    · exact absurd h12 h1
    · refine W.newc hx hb hown (hts _ wd_775) (hts _ wd_776) (hts _ wd_72) rfl d_SS_addStream_15 (by show 0 + 1 ≤ 1; omega) (by show 0 + 6 ≤ 6; omega) (fun cX kX hfX hkX _ _ => ?_)
      refine W.eq (g2 := F0 m 18 ls [.ref s.heap.size]) rfl ?_
      refine W.widen (k := 1) (n := 6) (by omega) (by omega) ?_
      refine lv_dup hx hb d_SS_addStream_18 rfl ?_
      refine z_ldcs hx hb hown (z_str hG hO (List.mem_of_getElem? (i := 926) (by decide +kernel) : (Jvm.Cond.stringRef "StreamSplitter" (218 : Nat) "there is no such programme") ∈ lw_tbl)) d_SS_addStream_19 (fun msg => ?_)
      exact z_throw (X := xB) (names := ["java/lang/RuntimeException", "java/lang/Exception"]) hx hb hfl hown (by decide) z_fits (fun a ha => z_oa hG hO (z_oaB a ha)) hem (by rw [hml]; exact hl.1) hfX hkX z_pushAt (Nat.le_refl _) d_SS_addStream_21 d_SS_addStream_24 (Nat.le_of_ble_eq_true rfl) (Nat.le_of_ble_eq_true rfl) hlocks (fun t ht hW => Or.inr ⟨xB, _, rfl, rfl, ht⟩)
