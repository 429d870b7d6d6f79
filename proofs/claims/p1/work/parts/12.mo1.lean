theorem wd_28 : (Jvm.Cond.selects "StreamSplitterModel" ({ cls := "StreamSplitterModel", name := "remove", desc := "(II)V" } : Jvm.MethodName) ({ cls := "StreamSplitterModel", name := "remove", desc := "(II)V" } : Jvm.MethodName)) ∈ lw_ok := List.mem_filter.mpr ⟨List.mem_of_getElem? (i := 28) (by decide +kernel), rfl⟩
theorem wd_67 : (Jvm.Cond.initialized "StreamSplitterModel") ∈ lw_ok := List.mem_filter.mpr ⟨List.mem_of_getElem? (i := 67) (by decide +kernel), rfl⟩
theorem wd_1088 : (Jvm.Cond.fieldLink "StreamSplitterModel" (156 : Nat) "StreamSplitterModel" "thrown" "I") ∈ lw_ok := List.mem_filter.mpr ⟨List.mem_of_getElem? (i := 1088) (by decide +kernel), rfl⟩
theorem wd_1089 : (Jvm.Cond.fieldLink "StreamSplitterModel" (7 : Nat) "StreamSplitterModel" "tape" "[I") ∈ lw_ok := List.mem_filter.mpr ⟨List.mem_of_getElem? (i := 1089) (by decide +kernel), rfl⟩
theorem wd_1090 : (Jvm.Cond.fieldLink "StreamSplitterModel" (159 : Nat) "StreamSplitterModel" "size" "I") ∈ lw_ok := List.mem_filter.mpr ⟨List.mem_of_getElem? (i := 1090) (by decide +kernel), rfl⟩
theorem wd_1261 : (Jvm.Cond.constantLong "StreamSplitterModel" (162 : Nat) (255 : Int64)) ∈ lw_ok := List.mem_filter.mpr ⟨List.mem_of_getElem? (i := 1261) (by decide +kernel), rfl⟩
theorem wd_1274 : (Jvm.Cond.methodLink "StreamSplitterModel" (164 : Nat) ({ cls := "StreamSplitterModel", name := "remove", desc := "(II)V" } : Jvm.MethodName)) ∈ lw_ok := List.mem_filter.mpr ⟨List.mem_of_getElem? (i := 1274) (by decide +kernel), rfl⟩
theorem wd_1276 : (Jvm.Cond.instanceMethod ({ cls := "StreamSplitterModel", name := "remove", desc := "(II)V" } : Jvm.MethodName)) ∈ lw_ok := List.mem_filter.mpr ⟨List.mem_of_getElem? (i := 1276) (by decide +kernel), rfl⟩
set_option maxRecDepth 100000 in
theorem wd_1277 : (Jvm.Cond.code ({ cls := "StreamSplitterModel", name := "remove", desc := "(II)V" } : Jvm.MethodName) prog_14_method_6_code (4 : Nat) (Option.none : Option Jvm.ClassFile.FieldType)) ∈ lw_ok := List.mem_filter.mpr ⟨List.mem_of_getElem? (i := 1277) (by rfl), rfl⟩
theorem wd_1285 : (Jvm.Cond.constant "StreamSplitterModel" (168 : Nat) (79764919 : Int32)) ∈ lw_ok := List.mem_filter.mpr ⟨List.mem_of_getElem? (i := 1285) (by decide +kernel), rfl⟩
theorem hd_Mo_remove : y_Mo_remove.cls ≠ "java/lang/invoke/MethodHandle" ∧ y_Mo_remove.cls ≠ "java/lang/invoke/VarHandle" ∧ (parseMethodDescriptor y_Mo_remove.desc).map (fun d => d.parameters.length) = some 2 := by decide +kernel
theorem d_Mo_checkOn_0 : decode b_Mo_checkOn 0 = .ok (.iload_n 0, 1) := by decide +kernel
theorem d_Mo_checkOn_1 : decode b_Mo_checkOn 1 = .ok (.istore_n 2, 1) := by decide +kernel
theorem d_Mo_checkOn_2 : decode b_Mo_checkOn 2 = .ok (.bipush 7, 2) := by decide +kernel
theorem d_Mo_checkOn_4 : decode b_Mo_checkOn 4 = .ok (.istore_n 3, 1) := by decide +kernel
theorem d_Mo_checkOn_5 : decode b_Mo_checkOn 5 = .ok (.iload_n 3, 1) := by decide +kernel
theorem d_Mo_checkOn_6 : decode b_Mo_checkOn 6 = .ok (.ifCond .lt 40, 3) := by decide +kernel
theorem d_Mo_checkOn_9 : decode b_Mo_checkOn 9 = .ok (.iload_n 2, 1) := by decide +kernel
theorem d_Mo_checkOn_10 : decode b_Mo_checkOn 10 = .ok (.bipush 31, 2) := by decide +kernel
theorem d_Mo_checkOn_12 : decode b_Mo_checkOn 12 = .ok (.iushr, 1) := by decide +kernel
theorem d_Mo_checkOn_13 : decode b_Mo_checkOn 13 = .ok (.iload_n 1, 1) := by decide +kernel
theorem d_Mo_checkOn_14 : decode b_Mo_checkOn 14 = .ok (.iload_n 3, 1) := by decide +kernel
theorem d_Mo_checkOn_15 : decode b_Mo_checkOn 15 = .ok (.ishr, 1) := by decide +kernel
theorem d_Mo_checkOn_16 : decode b_Mo_checkOn 16 = .ok (.iconst 1, 1) := by decide +kernel
theorem d_Mo_checkOn_17 : decode b_Mo_checkOn 17 = .ok (.iand, 1) := by decide +kernel
theorem d_Mo_checkOn_18 : decode b_Mo_checkOn 18 = .ok (.ixor, 1) := by decide +kernel
theorem d_Mo_checkOn_19 : decode b_Mo_checkOn 19 = .ok (.istore 4, 2) := by decide +kernel
theorem d_Mo_checkOn_21 : decode b_Mo_checkOn 21 = .ok (.iload 4, 2) := by decide +kernel
theorem d_Mo_checkOn_23 : decode b_Mo_checkOn 23 = .ok (.iconst 1, 1) := by decide +kernel
theorem d_Mo_checkOn_24 : decode b_Mo_checkOn 24 = .ok (.if_icmp .ne 12, 3) := by decide +kernel
theorem d_Mo_checkOn_27 : decode b_Mo_checkOn 27 = .ok (.iload_n 2, 1) := by decide +kernel
theorem d_Mo_checkOn_28 : decode b_Mo_checkOn 28 = .ok (.iconst 1, 1) := by decide +kernel
theorem d_Mo_checkOn_29 : decode b_Mo_checkOn 29 = .ok (.ishl, 1) := by decide +kernel
theorem d_Mo_checkOn_30 : decode b_Mo_checkOn 30 = .ok (.ldc 168, 2) := by decide +kernel
theorem d_Mo_checkOn_32 : decode b_Mo_checkOn 32 = .ok (.ixor, 1) := by decide +kernel
theorem d_Mo_checkOn_33 : decode b_Mo_checkOn 33 = .ok (.goto 6, 3) := by decide +kernel
theorem d_Mo_checkOn_36 : decode b_Mo_checkOn 36 = .ok (.iload_n 2, 1) := by decide +kernel
theorem d_Mo_checkOn_37 : decode b_Mo_checkOn 37 = .ok (.iconst 1, 1) := by decide +kernel
theorem d_Mo_checkOn_38 : decode b_Mo_checkOn 38 = .ok (.ishl, 1) := by decide +kernel
theorem d_Mo_checkOn_39 : decode b_Mo_checkOn 39 = .ok (.istore_n 2, 1) := by decide +kernel
theorem d_Mo_checkOn_40 : decode b_Mo_checkOn 40 = .ok (.iinc 3 (-1), 3) := by decide +kernel
theorem d_Mo_checkOn_43 : decode b_Mo_checkOn 43 = .ok (.goto (-38), 3) := by decide +kernel
theorem d_Mo_checkOn_46 : decode b_Mo_checkOn 46 = .ok (.iload_n 2, 1) := by decide +kernel
theorem d_Mo_checkOn_47 : decode b_Mo_checkOn 47 = .ok (.ireturn, 1) := by decide +kernel
theorem d_Mo_drop_0 : decode b_Mo_drop 0 = .ok (.aload_n 0, 1) := by decide +kernel
theorem d_Mo_drop_1 : decode b_Mo_drop 1 = .ok (.iload_n 1, 1) := by decide +kernel
theorem d_Mo_drop_2 : decode b_Mo_drop 2 = .ok (.ifCond .lt 17, 3) := by decide +kernel
theorem d_Mo_drop_5 : decode b_Mo_drop 5 = .ok (.iload_n 2, 1) := by decide +kernel
theorem d_Mo_drop_6 : decode b_Mo_drop 6 = .ok (.ifCond .lt 13, 3) := by decide +kernel
theorem d_Mo_drop_9 : decode b_Mo_drop 9 = .ok (.iload_n 1, 1) := by decide +kernel
theorem d_Mo_drop_10 : decode b_Mo_drop 10 = .ok (.aload_n 0, 1) := by decide +kernel
theorem d_Mo_drop_11 : decode b_Mo_drop 11 = .ok (.getfield 159, 3) := by decide +kernel
theorem d_Mo_drop_14 : decode b_Mo_drop 14 = .ok (.iload_n 2, 1) := by decide +kernel
theorem d_Mo_drop_15 : decode b_Mo_drop 15 = .ok (.isub, 1) := by decide +kernel
theorem d_Mo_drop_16 : decode b_Mo_drop 16 = .ok (.if_icmp .le 7, 3) := by decide +kernel
theorem d_Mo_drop_19 : decode b_Mo_drop 19 = .ok (.iconst 1, 1) := by decide +kernel
theorem d_Mo_drop_20 : decode b_Mo_drop 20 = .ok (.goto 4, 3) := by decide +kernel
theorem d_Mo_drop_23 : decode b_Mo_drop 23 = .ok (.iconst 0, 1) := by decide +kernel
theorem d_Mo_drop_24 : decode b_Mo_drop 24 = .ok (.putfield 156, 3) := by decide +kernel
theorem d_Mo_drop_27 : decode b_Mo_drop 27 = .ok (.aload_n 0, 1) := by decide +kernel
theorem d_Mo_drop_28 : decode b_Mo_drop 28 = .ok (.getfield 156, 3) := by decide +kernel
theorem d_Mo_drop_31 : decode b_Mo_drop 31 = .ok (.ifCond .le 5, 3) := by decide +kernel
theorem d_Mo_drop_34 : decode b_Mo_drop 34 = .ok (.iconst 0, 1) := by decide +kernel
theorem d_Mo_drop_35 : decode b_Mo_drop 35 = .ok (.ireturn, 1) := by decide +kernel
theorem d_Mo_drop_36 : decode b_Mo_drop 36 = .ok (.aload_n 0, 1) := by decide +kernel
theorem d_Mo_drop_37 : decode b_Mo_drop 37 = .ok (.iload_n 1, 1) := by decide +kernel
theorem d_Mo_drop_38 : decode b_Mo_drop 38 = .ok (.iload_n 2, 1) := by decide +kernel
theorem d_Mo_drop_39 : decode b_Mo_drop 39 = .ok (.invokevirtual 164, 3) := by decide +kernel
theorem d_Mo_drop_42 : decode b_Mo_drop 42 = .ok (.aload_n 0, 1) := by decide +kernel
theorem d_Mo_drop_43 : decode b_Mo_drop 43 = .ok (.getfield 159, 3) := by decide +kernel
theorem d_Mo_drop_46 : decode b_Mo_drop 46 = .ok (.ireturn, 1) := by decide +kernel
theorem d_Mo_feed_0 : decode b_Mo_feed 0 = .ok (.aload_n 0, 1) := by decide +kernel
theorem d_Mo_feed_1 : decode b_Mo_feed 1 = .ok (.iload_n 1, 1) := by decide +kernel
theorem d_Mo_feed_2 : decode b_Mo_feed 2 = .ok (.iconst 1, 1) := by decide +kernel
theorem d_Mo_feed_3 : decode b_Mo_feed 3 = .ok (.if_icmp .lt 9, 3) := by decide +kernel
theorem d_Mo_feed_6 : decode b_Mo_feed 6 = .ok (.iload_n 1, 1) := by decide +kernel
theorem d_Mo_feed_7 : decode b_Mo_feed 7 = .ok (.bipush 8, 2) := by decide +kernel
theorem d_Mo_feed_9 : decode b_Mo_feed 9 = .ok (.if_icmp .le 7, 3) := by decide +kernel
theorem d_Mo_feed_12 : decode b_Mo_feed 12 = .ok (.iconst 1, 1) := by decide +kernel
theorem d_Mo_feed_13 : decode b_Mo_feed 13 = .ok (.goto 4, 3) := by decide +kernel
theorem d_Mo_feed_16 : decode b_Mo_feed 16 = .ok (.iconst 0, 1) := by decide +kernel
theorem d_Mo_feed_17 : decode b_Mo_feed 17 = .ok (.putfield 156, 3) := by decide +kernel
theorem d_Mo_feed_20 : decode b_Mo_feed 20 = .ok (.aload_n 0, 1) := by decide +kernel
theorem d_Mo_feed_21 : decode b_Mo_feed 21 = .ok (.getfield 156, 3) := by decide +kernel
theorem d_Mo_feed_24 : decode b_Mo_feed 24 = .ok (.ifCond .le 5, 3) := by decide +kernel
theorem d_Mo_feed_27 : decode b_Mo_feed 27 = .ok (.iconst 0, 1) := by decide +kernel
theorem d_Mo_feed_28 : decode b_Mo_feed 28 = .ok (.ireturn, 1) := by decide +kernel
theorem d_Mo_feed_29 : decode b_Mo_feed 29 = .ok (.aload_n 0, 1) := by decide +kernel
theorem d_Mo_feed_30 : decode b_Mo_feed 30 = .ok (.getfield 159, 3) := by decide +kernel
theorem d_Mo_feed_33 : decode b_Mo_feed 33 = .ok (.iload_n 1, 1) := by decide +kernel
theorem d_Mo_feed_34 : decode b_Mo_feed 34 = .ok (.iadd, 1) := by decide +kernel
theorem d_Mo_feed_35 : decode b_Mo_feed 35 = .ok (.sipush 9400, 3) := by decide +kernel
theorem d_Mo_feed_38 : decode b_Mo_feed 38 = .ok (.if_icmp .le 5, 3) := by decide +kernel
theorem d_Mo_feed_41 : decode b_Mo_feed 41 = .ok (.iconst (-1), 1) := by decide +kernel
theorem d_Mo_feed_42 : decode b_Mo_feed 42 = .ok (.ireturn, 1) := by decide +kernel
theorem d_Mo_feed_43 : decode b_Mo_feed 43 = .ok (.iconst 0, 1) := by decide +kernel
theorem d_Mo_feed_44 : decode b_Mo_feed 44 = .ok (.istore 4, 2) := by decide +kernel
theorem d_Mo_feed_46 : decode b_Mo_feed 46 = .ok (.iload 4, 2) := by decide +kernel
theorem d_Mo_feed_48 : decode b_Mo_feed 48 = .ok (.iload_n 1, 1) := by decide +kernel
theorem d_Mo_feed_49 : decode b_Mo_feed 49 = .ok (.if_icmp .ge 40, 3) := by decide +kernel
theorem d_Mo_feed_52 : decode b_Mo_feed 52 = .ok (.aload_n 0, 1) := by decide +kernel
theorem d_Mo_feed_53 : decode b_Mo_feed 53 = .ok (.getfield 7, 3) := by decide +kernel
theorem d_Mo_feed_56 : decode b_Mo_feed 56 = .ok (.aload_n 0, 1) := by decide +kernel
theorem d_Mo_feed_57 : decode b_Mo_feed 57 = .ok (.getfield 159, 3) := by decide +kernel
theorem d_Mo_feed_60 : decode b_Mo_feed 60 = .ok (.lload_n 2, 1) := by decide +kernel
theorem d_Mo_feed_61 : decode b_Mo_feed 61 = .ok (.bipush 8, 2) := by decide +kernel
theorem d_Mo_feed_63 : decode b_Mo_feed 63 = .ok (.iload 4, 2) := by decide +kernel
theorem d_Mo_feed_65 : decode b_Mo_feed 65 = .ok (.imul, 1) := by decide +kernel
theorem d_Mo_feed_66 : decode b_Mo_feed 66 = .ok (.lshr, 1) := by decide +kernel
theorem d_Mo_feed_67 : decode b_Mo_feed 67 = .ok (.ldc2_w 162, 3) := by decide +kernel
theorem d_Mo_feed_70 : decode b_Mo_feed 70 = .ok (.land, 1) := by decide +kernel
theorem d_Mo_feed_71 : decode b_Mo_feed 71 = .ok (.l2i, 1) := by decide +kernel
theorem d_Mo_feed_72 : decode b_Mo_feed 72 = .ok (.iastore, 1) := by decide +kernel
theorem d_Mo_feed_73 : decode b_Mo_feed 73 = .ok (.aload_n 0, 1) := by decide +kernel
theorem d_Mo_feed_74 : decode b_Mo_feed 74 = .ok (.dup, 1) := by decide +kernel
theorem d_Mo_feed_75 : decode b_Mo_feed 75 = .ok (.getfield 159, 3) := by decide +kernel
theorem d_Mo_feed_78 : decode b_Mo_feed 78 = .ok (.iconst 1, 1) := by decide +kernel
theorem d_Mo_feed_79 : decode b_Mo_feed 79 = .ok (.iadd, 1) := by decide +kernel
theorem d_Mo_feed_80 : decode b_Mo_feed 80 = .ok (.putfield 159, 3) := by decide +kernel
theorem d_Mo_feed_83 : decode b_Mo_feed 83 = .ok (.iinc 4 1, 3) := by decide +kernel
theorem d_Mo_feed_86 : decode b_Mo_feed 86 = .ok (.goto (-40), 3) := by decide +kernel
theorem d_Mo_feed_89 : decode b_Mo_feed 89 = .ok (.aload_n 0, 1) := by decide +kernel
theorem d_Mo_feed_90 : decode b_Mo_feed 90 = .ok (.getfield 159, 3) := by decide +kernel
theorem d_Mo_feed_93 : decode b_Mo_feed 93 = .ok (.ireturn, 1) := by decide +kernel
theorem d_Mo_remove_0 : decode b_Mo_remove 0 = .ok (.aload_n 0, 1) := by decide +kernel
theorem d_Mo_remove_1 : decode b_Mo_remove 1 = .ok (.aload_n 0, 1) := by decide +kernel
theorem d_Mo_remove_2 : decode b_Mo_remove 2 = .ok (.getfield 159, 3) := by decide +kernel
theorem d_Mo_remove_5 : decode b_Mo_remove 5 = .ok (.iload_n 2, 1) := by decide +kernel
theorem d_Mo_remove_6 : decode b_Mo_remove 6 = .ok (.isub, 1) := by decide +kernel
theorem d_Mo_remove_7 : decode b_Mo_remove 7 = .ok (.putfield 159, 3) := by decide +kernel
theorem d_Mo_remove_10 : decode b_Mo_remove 10 = .ok (.iload_n 1, 1) := by decide +kernel
theorem d_Mo_remove_11 : decode b_Mo_remove 11 = .ok (.istore_n 3, 1) := by decide +kernel
theorem d_Mo_remove_12 : decode b_Mo_remove 12 = .ok (.iload_n 3, 1) := by decide +kernel
theorem d_Mo_remove_13 : decode b_Mo_remove 13 = .ok (.aload_n 0, 1) := by decide +kernel
theorem d_Mo_remove_14 : decode b_Mo_remove 14 = .ok (.getfield 159, 3) := by decide +kernel
theorem d_Mo_remove_17 : decode b_Mo_remove 17 = .ok (.if_icmp .ge 23, 3) := by decide +kernel
theorem d_Mo_remove_20 : decode b_Mo_remove 20 = .ok (.aload_n 0, 1) := by decide +kernel
theorem d_Mo_remove_21 : decode b_Mo_remove 21 = .ok (.getfield 7, 3) := by decide +kernel
theorem d_Mo_remove_24 : decode b_Mo_remove 24 = .ok (.iload_n 3, 1) := by decide +kernel
theorem d_Mo_remove_25 : decode b_Mo_remove 25 = .ok (.aload_n 0, 1) := by decide +kernel
theorem d_Mo_remove_26 : decode b_Mo_remove 26 = .ok (.getfield 7, 3) := by decide +kernel
theorem d_Mo_remove_29 : decode b_Mo_remove 29 = .ok (.iload_n 3, 1) := by decide +kernel
theorem d_Mo_remove_30 : decode b_Mo_remove 30 = .ok (.iload_n 2, 1) := by decide +kernel
theorem d_Mo_remove_31 : decode b_Mo_remove 31 = .ok (.iadd, 1) := by decide +kernel
theorem d_Mo_remove_32 : decode b_Mo_remove 32 = .ok (.iaload, 1) := by decide +kernel
theorem d_Mo_remove_33 : decode b_Mo_remove 33 = .ok (.iastore, 1) := by decide +kernel
theorem d_Mo_remove_34 : decode b_Mo_remove 34 = .ok (.iinc 3 1, 3) := by decide +kernel
theorem d_Mo_remove_37 : decode b_Mo_remove 37 = .ok (.goto (-25), 3) := by decide +kernel
theorem d_Mo_remove_40 : decode b_Mo_remove 40 = .ok (.return_, 1) := by decide +kernel
theorem d_Mo_spoil_0 : decode b_Mo_spoil 0 = .ok (.aload_n 0, 1) := by decide +kernel
theorem d_Mo_spoil_1 : decode b_Mo_spoil 1 = .ok (.iload_n 1, 1) := by decide +kernel
theorem d_Mo_spoil_2 : decode b_Mo_spoil 2 = .ok (.ifCond .lt 11, 3) := by decide +kernel
theorem d_Mo_spoil_5 : decode b_Mo_spoil 5 = .ok (.iload_n 1, 1) := by decide +kernel
theorem d_Mo_spoil_6 : decode b_Mo_spoil 6 = .ok (.aload_n 0, 1) := by decide +kernel
theorem d_Mo_spoil_7 : decode b_Mo_spoil 7 = .ok (.getfield 159, 3) := by decide +kernel
theorem d_Mo_spoil_10 : decode b_Mo_spoil 10 = .ok (.if_icmp .lt 7, 3) := by decide +kernel
theorem d_Mo_spoil_13 : decode b_Mo_spoil 13 = .ok (.iconst 1, 1) := by decide +kernel
theorem d_Mo_spoil_14 : decode b_Mo_spoil 14 = .ok (.goto 19, 3) := by decide +kernel
theorem d_Mo_spoil_17 : decode b_Mo_spoil 17 = .ok (.iload_n 2, 1) := by decide +kernel
theorem d_Mo_spoil_18 : decode b_Mo_spoil 18 = .ok (.ifCond .lt 10, 3) := by decide +kernel
theorem d_Mo_spoil_21 : decode b_Mo_spoil 21 = .ok (.iload_n 2, 1) := by decide +kernel
theorem d_Mo_spoil_22 : decode b_Mo_spoil 22 = .ok (.sipush 255, 3) := by decide +kernel
theorem d_Mo_spoil_25 : decode b_Mo_spoil 25 = .ok (.if_icmp .le 7, 3) := by decide +kernel
theorem d_Mo_spoil_28 : decode b_Mo_spoil 28 = .ok (.iconst 2, 1) := by decide +kernel
theorem d_Mo_spoil_29 : decode b_Mo_spoil 29 = .ok (.goto 4, 3) := by decide +kernel
theorem d_Mo_spoil_32 : decode b_Mo_spoil 32 = .ok (.iconst 0, 1) := by decide +kernel
theorem d_Mo_spoil_33 : decode b_Mo_spoil 33 = .ok (.putfield 156, 3) := by decide +kernel
theorem d_Mo_spoil_36 : decode b_Mo_spoil 36 = .ok (.aload_n 0, 1) := by decide +kernel
theorem d_Mo_spoil_37 : decode b_Mo_spoil 37 = .ok (.getfield 156, 3) := by decide +kernel
theorem d_Mo_spoil_40 : decode b_Mo_spoil 40 = .ok (.ifCond .le 5, 3) := by decide +kernel
theorem d_Mo_spoil_43 : decode b_Mo_spoil 43 = .ok (.iconst 0, 1) := by decide +kernel
theorem d_Mo_spoil_44 : decode b_Mo_spoil 44 = .ok (.ireturn, 1) := by decide +kernel
theorem d_Mo_spoil_45 : decode b_Mo_spoil 45 = .ok (.aload_n 0, 1) := by decide +kernel
theorem d_Mo_spoil_46 : decode b_Mo_spoil 46 = .ok (.getfield 7, 3) := by decide +kernel
theorem d_Mo_spoil_49 : decode b_Mo_spoil 49 = .ok (.iload_n 1, 1) := by decide +kernel
theorem d_Mo_spoil_50 : decode b_Mo_spoil 50 = .ok (.iaload, 1) := by decide +kernel
theorem d_Mo_spoil_51 : decode b_Mo_spoil 51 = .ok (.istore_n 3, 1) := by decide +kernel
theorem d_Mo_spoil_52 : decode b_Mo_spoil 52 = .ok (.aload_n 0, 1) := by decide +kernel
theorem d_Mo_spoil_53 : decode b_Mo_spoil 53 = .ok (.getfield 7, 3) := by decide +kernel
theorem d_Mo_spoil_56 : decode b_Mo_spoil 56 = .ok (.iload_n 1, 1) := by decide +kernel
theorem d_Mo_spoil_57 : decode b_Mo_spoil 57 = .ok (.iload_n 2, 1) := by decide +kernel
theorem d_Mo_spoil_58 : decode b_Mo_spoil 58 = .ok (.iastore, 1) := by decide +kernel
theorem d_Mo_spoil_59 : decode b_Mo_spoil 59 = .ok (.iload_n 3, 1) := by decide +kernel
theorem d_Mo_spoil_60 : decode b_Mo_spoil 60 = .ok (.ireturn, 1) := by decide +kernel
theorem d_Mo_tape_0 : decode b_Mo_tape 0 = .ok (.aload_n 0, 1) := by decide +kernel
theorem d_Mo_tape_1 : decode b_Mo_tape 1 = .ok (.iconst 0, 1) := by decide +kernel
theorem d_Mo_tape_2 : decode b_Mo_tape 2 = .ok (.putfield 156, 3) := by decide +kernel
theorem d_Mo_tape_5 : decode b_Mo_tape 5 = .ok (.lconst 0, 1) := by decide +kernel
theorem d_Mo_tape_6 : decode b_Mo_tape 6 = .ok (.lstore_n 2, 1) := by decide +kernel
theorem d_Mo_tape_7 : decode b_Mo_tape 7 = .ok (.iconst 0, 1) := by decide +kernel
theorem d_Mo_tape_8 : decode b_Mo_tape 8 = .ok (.istore 4, 2) := by decide +kernel
theorem d_Mo_tape_10 : decode b_Mo_tape 10 = .ok (.iload 4, 2) := by decide +kernel
theorem d_Mo_tape_12 : decode b_Mo_tape 12 = .ok (.bipush 8, 2) := by decide +kernel
theorem d_Mo_tape_14 : decode b_Mo_tape 14 = .ok (.if_icmp .ge 57, 3) := by decide +kernel
theorem d_Mo_tape_17 : decode b_Mo_tape 17 = .ok (.iload_n 1, 1) := by decide +kernel
theorem d_Mo_tape_18 : decode b_Mo_tape 18 = .ok (.i2l, 1) := by decide +kernel
theorem d_Mo_tape_19 : decode b_Mo_tape 19 = .ok (.iload 4, 2) := by decide +kernel
theorem d_Mo_tape_21 : decode b_Mo_tape 21 = .ok (.i2l, 1) := by decide +kernel
theorem d_Mo_tape_22 : decode b_Mo_tape 22 = .ok (.ladd, 1) := by decide +kernel
theorem d_Mo_tape_23 : decode b_Mo_tape 23 = .ok (.lstore 5, 2) := by decide +kernel
theorem d_Mo_tape_25 : decode b_Mo_tape 25 = .ok (.lload 5, 2) := by decide +kernel
theorem d_Mo_tape_27 : decode b_Mo_tape 27 = .ok (.lconst 0, 1) := by decide +kernel
theorem d_Mo_tape_28 : decode b_Mo_tape 28 = .ok (.lcmp, 1) := by decide +kernel
theorem d_Mo_tape_29 : decode b_Mo_tape 29 = .ok (.ifCond .lt 34, 3) := by decide +kernel
theorem d_Mo_tape_32 : decode b_Mo_tape 32 = .ok (.lload 5, 2) := by decide +kernel
theorem d_Mo_tape_34 : decode b_Mo_tape 34 = .ok (.aload_n 0, 1) := by decide +kernel
theorem d_Mo_tape_35 : decode b_Mo_tape 35 = .ok (.getfield 159, 3) := by decide +kernel
theorem d_Mo_tape_38 : decode b_Mo_tape 38 = .ok (.i2l, 1) := by decide +kernel
theorem d_Mo_tape_39 : decode b_Mo_tape 39 = .ok (.lcmp, 1) := by decide +kernel
theorem d_Mo_tape_40 : decode b_Mo_tape 40 = .ok (.ifCond .ge 23, 3) := by decide +kernel
theorem d_Mo_tape_43 : decode b_Mo_tape 43 = .ok (.lload_n 2, 1) := by decide +kernel
theorem d_Mo_tape_44 : decode b_Mo_tape 44 = .ok (.aload_n 0, 1) := by decide +kernel
theorem d_Mo_tape_45 : decode b_Mo_tape 45 = .ok (.getfield 7, 3) := by decide +kernel
theorem d_Mo_tape_48 : decode b_Mo_tape 48 = .ok (.lload 5, 2) := by decide +kernel
theorem d_Mo_tape_50 : decode b_Mo_tape 50 = .ok (.l2i, 1) := by decide +kernel
theorem d_Mo_tape_51 : decode b_Mo_tape 51 = .ok (.iaload, 1) := by decide +kernel
theorem d_Mo_tape_52 : decode b_Mo_tape 52 = .ok (.i2l, 1) := by decide +kernel
theorem d_Mo_tape_53 : decode b_Mo_tape 53 = .ok (.bipush 8, 2) := by decide +kernel
theorem d_Mo_tape_55 : decode b_Mo_tape 55 = .ok (.iload 4, 2) := by decide +kernel
theorem d_Mo_tape_57 : decode b_Mo_tape 57 = .ok (.imul, 1) := by decide +kernel
theorem d_Mo_tape_58 : decode b_Mo_tape 58 = .ok (.lshl, 1) := by decide +kernel
theorem d_Mo_tape_59 : decode b_Mo_tape 59 = .ok (.lor, 1) := by decide +kernel
theorem d_Mo_tape_60 : decode b_Mo_tape 60 = .ok (.goto 4, 3) := by decide +kernel
theorem d_Mo_tape_63 : decode b_Mo_tape 63 = .ok (.lload_n 2, 1) := by decide +kernel
theorem d_Mo_tape_64 : decode b_Mo_tape 64 = .ok (.lstore_n 2, 1) := by decide +kernel
theorem d_Mo_tape_65 : decode b_Mo_tape 65 = .ok (.iinc 4 1, 3) := by decide +kernel
theorem d_Mo_tape_68 : decode b_Mo_tape 68 = .ok (.goto (-58), 3) := by decide +kernel
theorem d_Mo_tape_71 : decode b_Mo_tape 71 = .ok (.lload_n 2, 1) := by decide +kernel
theorem d_Mo_tape_72 : decode b_Mo_tape 72 = .ok (.lreturn, 1) := by decide +kernel
theorem d_Mo_thrown_0 : decode b_Mo_thrown 0 = .ok (.aload_n 0, 1) := by decide +kernel
theorem d_Mo_thrown_1 : decode b_Mo_thrown 1 = .ok (.getfield 156, 3) := by decide +kernel
theorem d_Mo_thrown_4 : decode b_Mo_thrown 4 = .ok (.ireturn, 1) := by decide +kernel
/-- the reference's object: its arrays at r, its ints -/
def mO (r : Nat → Nat) (th si le lv pg pn pl rs : Int32) : List Value := [.int th, .ref (r 1), .int si, .ref (r 3), .ref (r 4), .ref (r 5), .ref (r 6), .ref (r 7), .ref (r 8), .ref (r 9), .ref (r 10), .ref (r 11), .ref (r 12), .ref (r 13), .ref (r 14), .ref (r 15), .int le, .ref (r 17), .int lv, .int pg, .ref (r 20), .ref (r 21), .ref (r 22), .ref (r 23), .ref (r 24), .ref (r 25), .ref (r 26), .ref (r 27), .ref (r 28), .ref (r 29), .ref (r 30), .ref (r 31), .ref (r 32), .ref (r 33), .ref (r 34), .ref (r 35), .ref (r 36), .ref (r 37), .ref (r 38), .ref (r 39), .ref (r 40), .ref (r 41), .ref (r 42), .ref (r 43), .int pn, .int pl, .ref (r 46), .ref (r 47), .ref (r 48), .ref (r 49), .ref (r 50), .ref (r 51), .ref (r 52), .int rs]
def mf_b (b : Int64) (j : Nat) : Int32 := ((b >>> ((8 * nI j : Int32).toInt64 &&& 63)) &&& 255).toInt32
def mf_f (tp : Nat → Int32) (n : Nat) (b : Int64) : Nat → Nat → Int32
  | 0 => tp
  | j + 1 => upd (mf_f tp n b j) (n + j) (mf_b b j)
/-- eight bytes of the tape, as the reference reads them -/
def mt_l (tp : Nat → Int32) (n : Nat) (i : Int32) : Nat → Int64
  | 0 => 0
  | j + 1 => if ¬ lg_cmp (i.toInt64 + (nI j).toInt64) 0 < 0 ∧ ¬ 0 ≤ lg_cmp (i.toInt64 + (nI j).toInt64) (nI n).toInt64 then mt_l tp n i j ||| ((tp (i.toInt64 + (nI j).toInt64).toInt32.toNatClampNeg).toInt64 <<< ((8 * nI j : Int32).toInt64 &&& 63)) else mt_l tp n i j
theorem mt_in {x : Int64} {n : Nat} (h1 : ¬ lg_cmp x 0 < 0) (h2 : ¬ 0 ≤ lg_cmp x (nI n).toInt64) (hn : n ≤ 9400) : ∃ k : Nat, k < n ∧ x.toInt32 = nI k := by
  rw [lg_cmp_lt] at h1
  rw [lg_cmp_ge, nI_l (by omega)] at h2
  obtain ⟨k, hk, rfl⟩ := pk_lOf h1
  rw [pk_lLE (by omega) hk] at h2
  exact ⟨k, by omega, lN_i k⟩
theorem mt_no {tp : Nat → Int32} {n j : Nat} {i : Int32} (h : lg_cmp (i.toInt64 + (nI j).toInt64) 0 < 0 ∨ 0 ≤ lg_cmp (i.toInt64 + (nI j).toInt64) (nI n).toInt64) : mt_l tp n i (j + 1) = mt_l tp n i j := by
  show (if _ then _ else _) = _
  rw [if_neg (fun z => h.elim z.1 z.2)]
theorem mt_yes {tp : Nat → Int32} {n j k : Nat} {i : Int32} (h1 : ¬ lg_cmp (i.toInt64 + (nI j).toInt64) 0 < 0) (h2 : ¬ 0 ≤ lg_cmp (i.toInt64 + (nI j).toInt64) (nI n).toInt64) (hn : n ≤ 9400) (hkn : k < n) (hk : (i.toInt64 + (nI j).toInt64).toInt32 = nI k) : mt_l tp n i (j + 1) = mt_l tp n i j ||| ((tp k).toInt64 <<< ((8 * nI j : Int32).toInt64 &&& 63)) := by
  show (if _ then _ else _) = _
  rw [if_pos ⟨h1, h2⟩, hk, nI_clamp (by omega)]
def rm_f (tp : Nat → Int32) (c k : Nat) : Nat → Nat → Int32
  | 0 => tp
  | j + 1 => upd (rm_f tp c k j) (k + j) (rm_f tp c k j (k + j + c))
def md_f (tp : Nat → Int32) (n : Nat) (u : Int32 × Nat × Nat) : Nat → Int32 := if u.1 = 0 then rm_f tp u.2.2 u.2.1 (n - u.2.2 - u.2.1) else tp
/-- the reference's check, bit by bit -/
def ck_m (v x : Int32) : Nat → Int32
  | 0 => x
  | j + 1 => if ((ck_m v x j).toUInt32 >>> ((31 : Int32).toUInt32 &&& Int32.toUInt32 31)).toInt32 ^^^ ((v >>> ((nI 7 - nI j) &&& 31)) &&& 1) = 1 then (ck_m v x j <<< ((1 : Int32) &&& 31)) ^^^ 79764919 else ck_m v x j <<< ((1 : Int32) &&& 31)
theorem ck_meq {v x : Int32} {j : Nat} (h : ((ck_m v x j).toUInt32 >>> ((31 : Int32).toUInt32 &&& Int32.toUInt32 31)).toInt32 ^^^ ((v >>> ((nI 7 - nI j) &&& 31)) &&& 1) = 1) : (ck_m v x j <<< ((1 : Int32) &&& 31)) ^^^ 79764919 = ck_m v x (j + 1) := by
  show _ = if _ then _ else _
  rw [if_pos h]
theorem ck_mne {v x : Int32} {j : Nat} (h : ¬ ((ck_m v x j).toUInt32 >>> ((31 : Int32).toUInt32 &&& Int32.toUInt32 31)).toInt32 ^^^ ((v >>> ((nI 7 - nI j) &&& 31)) &&& 1) = 1) : ck_m v x j <<< ((1 : Int32) &&& 31) = ck_m v x (j + 1) := by
  show _ = if _ then _ else _
  rw [if_neg h]
theorem ck_seven {j : Nat} (h : j ≤ 8) : (nI 7 - nI j).toInt = 7 - (j : Int) := by
  rw [pk_sub_toInt (by omega) (by omega)]
  omega
theorem ck_out {j : Nat} (h : j ≤ 8) (h2 : nI 7 - nI j < 0) : 8 ≤ j := by
  have h3 := Int32.lt_iff_toInt_lt.mp h2
  rw [ck_seven h] at h3
  have h4 : (0 : Int32).toInt = 0 := by decide
  omega
theorem ck_in {j : Nat} (h : j ≤ 8) (h2 : ¬ nI 7 - nI j < 0) : ¬ 8 ≤ j := by
  intro h8
  apply h2
  rw [Int32.lt_iff_toInt_lt, ck_seven h]
  have h4 : (0 : Int32).toInt = 0 := by decide
  omega
theorem ck_dec (j : Nat) : nI 7 - nI j + (-1) = nI 7 - nI (j + 1) := by
  rw [nI_succ j, Int32.sub_eq_add_neg, Int32.sub_eq_add_neg (nI 7), Int32.neg_add, Int32.sub_eq_add_neg (-nI j), Int32.add_assoc]

set_option maxHeartbeats 4000000 in
set_option maxRecDepth 100000 in
theorem c_Mo_thrown (l : Launch) (D : va_G) (cI : ClassId) (h : Nat) (r : Nat → Nat) (th si le lv pg pn pl rs : Int32)  : Met l y_Mo_thrown [Cond.code y_Mo_thrown b_Mo_thrown 1 (some .int)] ({ frames := 0, cells := 0, slots := 0, locals := 0 }) (zP [.ref h] D [(h, .inr (13, mO r th si le lv pg pn pl rs))] []) (vp_Si (fun r => r = th)) 0 0 (fun _ => False) := by
  refine Met.ofW (cc := b_Mo_thrown) (maxL := 1) (ret := (some .int)) (by decide) rfl ?_
  intro p e s m args below meth cd s₁ Bd hml hv
  obtain ⟨rfl, hP, hK, hN⟩ := hv
  have hx := Bd.exec
  have hb := Bd.bytes
  have hr := Bd.returns
  have hts := hN.use (a := ([.ref h]).toArray)
  have hown : s.vm.findClass R_Mo = some m.cls := findClass_of_methodNamed Bd.named
  have hlocks := Bd.notSynchronized
  have hP : va_P D classes [(h, .inr (13, mO r th si le lv pg pn pl rs))] s.heap := hP
  have hl := lv_entry ([.ref h]) (n := 1) (Nat.le_of_ble_eq_true rfl)
  rw [lg_entry_eq]
  generalize (lg_sl ([.ref h]) ++ List.replicate (1 - (lg_sl ([.ref h])).length) Slot.unset).toArray = ls at hl ⊢
  have hl : lv_has ls 1 [(0, .ref h)] := hl
  refine lv_aload_n hx hb d_Mo_thrown_0 rfl (lv_at hl 0 rfl) ?_
  refine va_get (D := D) (ci := 13) (v := .int th) (C := R_Mo) (T := F_Mo) (N := 54) hx hb hts i_Mo hown hK hP 0 rfl rfl 0 (by decide) (hts _ wd_1088) (fun _ h9 => h9) rfl d_Mo_thrown_1 ?_
  exact W.iret (v := th) hx hb hr (fun t ht hW => ⟨_, rfl, rfl, ht⟩) (fun _ h => by cases h) d_Mo_thrown_4
set_option maxHeartbeats 4000000 in
set_option maxRecDepth 100000 in
theorem c_Mo_feed (l : Launch) (D : va_G) (sz : Nat) (cI : ClassId) (h : Nat) (r : Nat → Nat) (th le lv pg pn pl rs : Int32) (n : Nat) (tp : Nat → Int32) (c : Int32) (b : Int64) (hn : n ≤ 9400) : Met l y_Mo_feed [Cond.code y_Mo_feed b_Mo_feed 5 (some .int)] ({ frames := 0, cells := 0, slots := 0, locals := 0 }) (zM [.ref h, .int c, .long b] D [(h, .inr (13, mO r th (nI n) le lv pg pn pl rs)), (r 1, .inl (cI, 9400, .inl tp))] [(cI, .int)] sz) (va_Qi (fun r0 (u : Int32 × Nat) => if c < 1 ∨ 8 < c then u = (1, 0) ∧ r0 = 0 else if n + c.toNatClampNeg ≤ 9400 then u = (0, c.toNatClampNeg) ∧ r0 = nI (n + u.2) else u = (0, 0) ∧ r0 = -1) (fun (u : Int32 × Nat) t => zW D (va_A [(h, .inr (13, mO r th (nI n) le lv pg pn pl rs)), (r 1, .inl (cI, 9400, .inl tp))] sz) [(h, .inr (13, mO r u.1 (nI (n + u.2)) le lv pg pn pl rs)), (r 1, .inl (cI, 9400, .inl (mf_f tp n b u.2)))] [(cI, .int)] t) (va_A [(h, .inr (13, mO r th (nI n) le lv pg pn pl rs)), (r 1, .inl (cI, 9400, .inl tp))] sz)) 0 0 (va_A [(h, .inr (13, mO r th (nI n) le lv pg pn pl rs)), (r 1, .inl (cI, 9400, .inl tp))] sz) := by
  refine Met.ofW (cc := b_Mo_feed) (maxL := 5) (ret := (some .int)) (by decide) rfl ?_
  intro p e s m args below meth cd s₁ Bd hml hv
  obtain ⟨rfl, hsz, hP, hK, hN, hD0⟩ := hv
  have hx := Bd.exec
  have hb := Bd.bytes
  have hr := Bd.returns
  have hts := hN.use (a := ([.ref h, .int c, .long b]).toArray)
  have hown : s.vm.findClass R_Mo = some m.cls := findClass_of_methodNamed Bd.named
  have hlocks := Bd.notSynchronized
  subst hsz
  have hD := hD0.self (sz := s.heap.size)
  clear hD0
  have hA : ∀ q : Nat, s.heap.size ≤ q → va_A [(h, .inr (13, mO r th (nI n) le lv pg pn pl rs)), (r 1, .inl (cI, 9400, .inl tp))] s.heap.size q := fun q h => Or.inr h
  have hS : va_S (va_A [(h, .inr (13, mO r th (nI n) le lv pg pn pl rs)), (r 1, .inl (cI, 9400, .inl tp))] s.heap.size) s.heap s.heap [] := va_S.rf
  generalize hAe : va_A [(h, .inr (13, mO r th (nI n) le lv pg pn pl rs)), (r 1, .inl (cI, 9400, .inl tp))] s.heap.size = A at hD hA hS ⊢
  have hP : va_P D classes [(h, .inr (13, mO r th (nI n) le lv pg pn pl rs)), (r 1, .inl (cI, 9400, .inl tp))] s.heap := hP
  have hl := lv_entry ([.ref h, .int c, .long b]) (n := 5) (Nat.le_of_ble_eq_true rfl)
  rw [lg_entry_eq]
  generalize (lg_sl ([.ref h, .int c, .long b]) ++ List.replicate (5 - (lg_sl ([.ref h, .int c, .long b])).length) Slot.unset).toArray = ls at hl ⊢
  have hl : lv_has ls 5 [(0, .ref h), (1, .int c), (2, .long b)] := hl
  refine lv_aload_n hx hb d_Mo_feed_0 rfl (lv_at hl 0 rfl) ?_
  refine lv_iload_n hx hb d_Mo_feed_1 rfl (lv_at hl 1 rfl) ?_
  refine lv_iconst (v := 1) hx hb d_Mo_feed_2 (by decide) ?_
  refine lv_icmp_lt (tgt := 12) hx hb d_Mo_feed_3 rfl (fun h3 => ?_) (fun h3 => ?_)
  · refine lv_iconst (v := 1) hx hb d_Mo_feed_12 (by decide) ?_
    refine lv_goto (tgt := 17) hx hb d_Mo_feed_13 rfl ?_
    refine va_put (D := D) (ci := 13) (v := .int 1) (ty := .int) (C := R_Mo) (T := F_Mo) (N := 54) hx hb hts i_Mo t_Mo t_Mo_ok n_Mo hown hK hP hD hS 0 rfl rfl 0 (by decide) (hts _ wd_1088) (fun _ h9 => h9) rfl (by decide +kernel) rfl rfl (Nat.le_of_ble_eq_true rfl) d_Mo_feed_17 (fun H locs hP hD hS => ?_)
    have hP : va_P D classes [(h, .inr (13, mO r 1 (nI n) le lv pg pn pl rs)), (r 1, .inl (cI, 9400, .inl tp))] H := hP
    have hD : va_D A [(h, .inr (13, mO r 1 (nI n) le lv pg pn pl rs)), (r 1, .inl (cI, 9400, .inl tp))] := hD
    refine lv_aload_n hx hb d_Mo_feed_20 rfl (lv_at hl 0 rfl) ?_
    refine va_get (D := D) (ci := 13) (v := .int 1) (C := R_Mo) (T := F_Mo) (N := 54) hx hb hts i_Mo hown hK hP 0 rfl rfl 0 (by decide) (hts _ wd_1088) (fun _ h9 => h9) rfl d_Mo_feed_21 ?_
    refine lv_if_le (tgt := 29) hx hb d_Mo_feed_24 rfl (fun h9 => absurd h9 (by decide)) (fun h24 => ?_)
    refine lv_iconst (v := 0) hx hb d_Mo_feed_27 (by decide) ?_
    have hP9 := hP.sub (ws' := [(h, .inr (13, mO r 1 (nI n) le lv pg pn pl rs)), (r 1, .inl (cI, 9400, .inl tp))]) [0, 1] rfl
    have hD9 := hD.sub (ws' := [(h, .inr (13, mO r 1 (nI n) le lv pg pn pl rs)), (r 1, .inl (cI, 9400, .inl tp))]) [0, 1] (by decide) rfl
    have hK9 := hK.sub (tys' := [(cI, .int)]) [0] rfl
    exact W.iret (v := 0) hx hb hr (fun t ht hW => ⟨⟨_, (1, 0), rfl, (by dsimp only; rw [if_pos (by first | exact Or.inl h3 | exact Or.inr (Int32.not_le.mp h9))]; exact ⟨rfl, rfl⟩), ⟨by rw [ht]; exact hP9, va_K.moved hW.alike hK9, hD9⟩⟩, hS.F ht⟩) hS.2.2 d_Mo_feed_28
  · refine lv_iload_n hx hb d_Mo_feed_6 rfl (lv_at hl 1 rfl) ?_
    refine lv_bipush (v := 8) hx hb d_Mo_feed_7 (by decide) ?_
    refine lv_icmp_le (tgt := 16) hx hb d_Mo_feed_9 rfl (fun h9 => ?_) (fun h9 => ?_)
    · obtain ⟨k, hk, hck⟩ := nI_of2 (x := c) (M := 8) (n := 8) (by decide) (z_n1 h3) h9
      subst hck
      have hkc : (nI k).toNatClampNeg = k := nI_clamp (by omega)
      have hno : ¬ (nI k < 1 ∨ 8 < nI k) := fun z => z.elim h3 (fun q => Int32.not_lt.mpr h9 q)
      refine lv_iconst (v := 0) hx hb d_Mo_feed_16 (by decide) ?_
      refine va_put (D := D) (ci := 13) (v := .int 0) (ty := .int) (C := R_Mo) (T := F_Mo) (N := 54) hx hb hts i_Mo t_Mo t_Mo_ok n_Mo hown hK hP hD hS 0 rfl rfl 0 (by decide) (hts _ wd_1088) (fun _ h9 => h9) rfl (by decide +kernel) rfl rfl (Nat.le_of_ble_eq_true rfl) d_Mo_feed_17 (fun H locs hP hD hS => ?_)
      have hP : va_P D classes [(h, .inr (13, mO r 0 (nI n) le lv pg pn pl rs)), (r 1, .inl (cI, 9400, .inl tp))] H := hP
      have hD : va_D A [(h, .inr (13, mO r 0 (nI n) le lv pg pn pl rs)), (r 1, .inl (cI, 9400, .inl tp))] := hD
      refine lv_aload_n hx hb d_Mo_feed_20 rfl (lv_at hl 0 rfl) ?_
      refine va_get (D := D) (ci := 13) (v := .int 0) (C := R_Mo) (T := F_Mo) (N := 54) hx hb hts i_Mo hown hK hP 0 rfl rfl 0 (by decide) (hts _ wd_1088) (fun _ h9 => h9) rfl d_Mo_feed_21 ?_
      refine lv_if_le (tgt := 29) hx hb d_Mo_feed_24 rfl (fun h24 => ?_) (fun h9 => absurd h9 (by decide))
      refine lv_aload_n hx hb d_Mo_feed_29 rfl (lv_at hl 0 rfl) ?_
      refine va_get (D := D) (ci := 13) (v := .int (nI n)) (C := R_Mo) (T := F_Mo) (N := 54) hx hb hts i_Mo hown hK hP 0 rfl rfl 2 (by decide) (hts _ wd_1090) (fun _ h9 => h9) rfl d_Mo_feed_30 ?_
      refine lv_iload_n hx hb d_Mo_feed_33 rfl (lv_at hl 1 rfl) ?_
      refine lv_iadd hx hb d_Mo_feed_34 ?_
      refine z_topi (w := nI (n + k)) (nI_add _ _) ?_
      refine lv_sipush (v := 9400) hx hb d_Mo_feed_35 (by decide) ?_
      refine lv_icmp_le (tgt := 43) hx hb d_Mo_feed_38 rfl (fun h38 => ?_) (fun h38 => ?_)
      · have h38 : n + k ≤ 9400 := (nI_leI (b := 9400) (by omega) (by omega)).mp h38
        refine lv_iconst (v := 0) hx hb d_Mo_feed_43 (by decide) ?_
        refine lv_istore (lv' := [(4, .int 0), (0, .ref h), (1, .int (nI k)), (2, .long b)]) hx hb d_Mo_feed_44 hl (by decide) rfl (fun ls hl => ?_)
        have loop46 : ∀ (N : Nat) (j : Nat) (H : Heap) (locs : List Loc) (ls : Array Slot) (hm : k - j < N) (hj : j ≤ k) (hl : lv_has ls 5 [(0, .ref h), (1, .int (nI k)), (2, .long b), (4, .int (nI j))]) (hP : va_P D classes [(h, .inr (13, mO r 0 (nI (n + j)) le lv pg pn pl rs)), (r 1, .inl (cI, 9400, .inl (mf_f tp n b j)))] H) (hD : va_D A [(h, .inr (13, mO r 0 (nI (n + j)) le lv pg pn pl rs)), (r 1, .inl (cI, 9400, .inl (mf_f tp n b j)))]) (hS : va_S A s.heap H locs), W p l e ({ frames := 0, cells := 0, slots := 0, locals := 0 }) s m ([.ref h, .int (nI k), .long b]).toArray below meth cd H locs 0 0 (MQ below (va_Qi (fun r0 (u : Int32 × Nat) => if (nI k) < 1 ∨ 8 < (nI k) then u = (1, 0) ∧ r0 = 0 else if n + (nI k).toNatClampNeg ≤ 9400 then u = (0, (nI k).toNatClampNeg) ∧ r0 = nI (n + u.2) else u = (0, 0) ∧ r0 = -1) (fun (u : Int32 × Nat) t => zW D (A) [(h, .inr (13, mO r u.1 (nI (n + u.2)) le lv pg pn pl rs)), (r 1, .inl (cI, 9400, .inl (mf_f tp n b u.2)))] [(cI, .int)] t) (A)) ([.ref h, .int (nI k), .long b]).toArray s 0 0 (A)) (F0 m 46 ls []) := by
          intro N46
          induction N46 with
          | zero => intro j H locs ls hm hj hl hP hD hS; exact absurd hm (Nat.not_lt_zero _)
          | succ N46 ih46 =>
            intro j H locs ls hm hj hl hP hD hS
            refine lv_iload hx hb d_Mo_feed_46 (lv_at hl 3 rfl) ?_
            refine lv_iload_n hx hb d_Mo_feed_48 rfl (lv_at hl 1 rfl) ?_
            refine lv_icmp_ge (tgt := 89) hx hb d_Mo_feed_49 rfl (fun h49 => ?_) (fun h49 => ?_)
            · have h49 := (nI_leI (by omega) (by omega)).mp h49
              obtain rfl : j = k := by omega
              refine lv_aload_n hx hb d_Mo_feed_89 rfl (lv_at hl 0 rfl) ?_
              refine va_get (D := D) (ci := 13) (v := .int (nI (n + j))) (C := R_Mo) (T := F_Mo) (N := 54) hx hb hts i_Mo hown hK hP 0 rfl rfl 2 (by decide) (hts _ wd_1090) (fun _ h9 => h9) rfl d_Mo_feed_90 ?_
              have hP9 := hP.sub (ws' := [(h, .inr (13, mO r 0 (nI (n + j)) le lv pg pn pl rs)), (r 1, .inl (cI, 9400, .inl (mf_f tp n b j)))]) [0, 1] rfl
              have hD9 := hD.sub (ws' := [(h, .inr (13, mO r 0 (nI (n + j)) le lv pg pn pl rs)), (r 1, .inl (cI, 9400, .inl (mf_f tp n b j)))]) [0, 1] (by decide) rfl
              have hK9 := hK.sub (tys' := [(cI, .int)]) [0] rfl
              exact W.iret (v := (nI (n + j))) hx hb hr (fun t ht hW => ⟨⟨_, (0, j), rfl, (by dsimp only; rw [if_neg hno, hkc, if_pos h38]; exact ⟨rfl, rfl⟩), ⟨by rw [ht]; exact hP9, va_K.moved hW.alike hK9, hD9⟩⟩, hS.F ht⟩) hS.2.2 d_Mo_feed_93
            · have h49 := mt (nI_leI (by omega) (by omega)).mpr h49
              refine lv_aload_n hx hb d_Mo_feed_52 rfl (lv_at hl 0 rfl) ?_
              refine va_get (D := D) (ci := 13) (v := .ref (r 1)) (C := R_Mo) (T := F_Mo) (N := 54) hx hb hts i_Mo hown hK hP 0 rfl rfl 1 (by decide) (hts _ wd_1089) (fun _ h9 => h9) rfl d_Mo_feed_53 ?_
              refine lv_aload_n hx hb d_Mo_feed_56 rfl (lv_at hl 0 rfl) ?_
              refine va_get (D := D) (ci := 13) (v := .int (nI (n + j))) (C := R_Mo) (T := F_Mo) (N := 54) hx hb hts i_Mo hown hK hP 0 rfl rfl 2 (by decide) (hts _ wd_1090) (fun _ h9 => h9) rfl d_Mo_feed_57 ?_
              refine lv_lload_n hx hb d_Mo_feed_60 rfl (lv_at hl 2 rfl) ?_
              refine lv_bipush (v := 8) hx hb d_Mo_feed_61 (by decide) ?_
              refine lv_iload hx hb d_Mo_feed_63 (lv_at hl 3 rfl) ?_
              refine lv_imul hx hb d_Mo_feed_65 ?_
              refine lv_lshr (v := b >>> ((8 * (nI j)).toInt64 &&& 63)) hx hb d_Mo_feed_66 rfl ?_
              refine lv_ldc2 hx hb hown (hts _ wd_1261) d_Mo_feed_67 ?_
              refine lv_land hx hb d_Mo_feed_70 ?_
              refine lv_l2i (v := ((b >>> ((8 * (nI j)).toInt64 &&& 63)) &&& 255).toInt32) hx hb d_Mo_feed_71 rfl ?_
              refine z_topi (w := mf_b b j) rfl ?_
              refine z_iast hx hb hK hP hD hS 1 0 rfl rfl (n + j) rfl (by omega) (by omega) d_Mo_feed_72 (fun H locs hP hD hS => ?_)
              have hP : va_P D classes [(h, .inr (13, mO r 0 (nI (n + j)) le lv pg pn pl rs)), (r 1, .inl (cI, 9400, .inl (upd (mf_f tp n b j) (n + j) (mf_b b j))))] H := hP
              have hD : va_D A [(h, .inr (13, mO r 0 (nI (n + j)) le lv pg pn pl rs)), (r 1, .inl (cI, 9400, .inl (upd (mf_f tp n b j) (n + j) (mf_b b j))))] := hD
              refine lv_aload_n hx hb d_Mo_feed_73 rfl (lv_at hl 0 rfl) ?_
              refine lv_dup hx hb d_Mo_feed_74 rfl ?_
              refine va_get (D := D) (ci := 13) (v := .int (nI (n + j))) (C := R_Mo) (T := F_Mo) (N := 54) hx hb hts i_Mo hown hK hP 0 rfl rfl 2 (by decide) (hts _ wd_1090) (fun _ h9 => h9) rfl d_Mo_feed_75 ?_
              refine lv_iconst (v := 1) hx hb d_Mo_feed_78 (by decide) ?_
              refine lv_iadd hx hb d_Mo_feed_79 ?_
              refine z_topi (w := nI (n + j + 1)) (nI_1 _) ?_
              refine va_put (D := D) (ci := 13) (v := .int (nI (n + j + 1))) (ty := .int) (C := R_Mo) (T := F_Mo) (N := 54) hx hb hts i_Mo t_Mo t_Mo_ok n_Mo hown hK hP hD hS 0 rfl rfl 2 (by decide) (hts _ wd_1090) (fun _ h9 => h9) rfl (by decide +kernel) rfl rfl (Nat.le_of_ble_eq_true rfl) d_Mo_feed_80 (fun H locs hP hD hS => ?_)
              have hP : va_P D classes [(h, .inr (13, mO r 0 (nI (n + j + 1)) le lv pg pn pl rs)), (r 1, .inl (cI, 9400, .inl (upd (mf_f tp n b j) (n + j) (mf_b b j))))] H := hP
              have hD : va_D A [(h, .inr (13, mO r 0 (nI (n + j + 1)) le lv pg pn pl rs)), (r 1, .inl (cI, 9400, .inl (upd (mf_f tp n b j) (n + j) (mf_b b j))))] := hD
              refine lv_iinc (k := 3) (v := nI (j + 1)) (lv' := [(4, .int (nI (j + 1))), (0, .ref h), (1, .int (nI k)), (2, .long b)]) hx hb d_Mo_feed_83 hl rfl (nI_1 j) (by decide) rfl (fun ls hl => ?_)
              refine lv_goto (tgt := 46) hx hb d_Mo_feed_86 rfl ?_
              exact ih46 (j + 1) H locs ls (by omega) (by omega) (lv_sub hl [1, 2, 3, 0] rfl) hP hD hS
        exact loop46 _ 0 H locs ls (Nat.lt_succ_self _) (Nat.zero_le _) (lv_sub hl [1, 2, 3, 0] rfl) hP hD hS
      · have h38 : ¬ n + k ≤ 9400 := mt (nI_leI (b := 9400) (by omega) (by omega)).mpr h38
        refine lv_iconst (v := (-1)) hx hb d_Mo_feed_41 (by decide) ?_
        have hP9 := hP.sub (ws' := [(h, .inr (13, mO r 0 (nI n) le lv pg pn pl rs)), (r 1, .inl (cI, 9400, .inl tp))]) [0, 1] rfl
        have hD9 := hD.sub (ws' := [(h, .inr (13, mO r 0 (nI n) le lv pg pn pl rs)), (r 1, .inl (cI, 9400, .inl tp))]) [0, 1] (by decide) rfl
        have hK9 := hK.sub (tys' := [(cI, .int)]) [0] rfl
        exact W.iret (v := (-1)) hx hb hr (fun t ht hW => ⟨⟨_, (0, 0), rfl, (by dsimp only; rw [if_neg hno, hkc, if_neg h38]; exact ⟨rfl, rfl⟩), ⟨by rw [ht]; exact hP9, va_K.moved hW.alike hK9, hD9⟩⟩, hS.F ht⟩) hS.2.2 d_Mo_feed_42
    · refine lv_iconst (v := 1) hx hb d_Mo_feed_12 (by decide) ?_
      refine lv_goto (tgt := 17) hx hb d_Mo_feed_13 rfl ?_
      refine va_put (D := D) (ci := 13) (v := .int 1) (ty := .int) (C := R_Mo) (T := F_Mo) (N := 54) hx hb hts i_Mo t_Mo t_Mo_ok n_Mo hown hK hP hD hS 0 rfl rfl 0 (by decide) (hts _ wd_1088) (fun _ h9 => h9) rfl (by decide +kernel) rfl rfl (Nat.le_of_ble_eq_true rfl) d_Mo_feed_17 (fun H locs hP hD hS => ?_)
      have hP : va_P D classes [(h, .inr (13, mO r 1 (nI n) le lv pg pn pl rs)), (r 1, .inl (cI, 9400, .inl tp))] H := hP
      have hD : va_D A [(h, .inr (13, mO r 1 (nI n) le lv pg pn pl rs)), (r 1, .inl (cI, 9400, .inl tp))] := hD
      refine lv_aload_n hx hb d_Mo_feed_20 rfl (lv_at hl 0 rfl) ?_
      refine va_get (D := D) (ci := 13) (v := .int 1) (C := R_Mo) (T := F_Mo) (N := 54) hx hb hts i_Mo hown hK hP 0 rfl rfl 0 (by decide) (hts _ wd_1088) (fun _ h9 => h9) rfl d_Mo_feed_21 ?_
      refine lv_if_le (tgt := 29) hx hb d_Mo_feed_24 rfl (fun h9 => absurd h9 (by decide)) (fun h24 => ?_)
      refine lv_iconst (v := 0) hx hb d_Mo_feed_27 (by decide) ?_
      have hP9 := hP.sub (ws' := [(h, .inr (13, mO r 1 (nI n) le lv pg pn pl rs)), (r 1, .inl (cI, 9400, .inl tp))]) [0, 1] rfl
      have hD9 := hD.sub (ws' := [(h, .inr (13, mO r 1 (nI n) le lv pg pn pl rs)), (r 1, .inl (cI, 9400, .inl tp))]) [0, 1] (by decide) rfl
      have hK9 := hK.sub (tys' := [(cI, .int)]) [0] rfl
      exact W.iret (v := 0) hx hb hr (fun t ht hW => ⟨⟨_, (1, 0), rfl, (by dsimp only; rw [if_pos (by first | exact Or.inl h3 | exact Or.inr (Int32.not_le.mp h9))]; exact ⟨rfl, rfl⟩), ⟨by rw [ht]; exact hP9, va_K.moved hW.alike hK9, hD9⟩⟩, hS.F ht⟩) hS.2.2 d_Mo_feed_28
set_option maxHeartbeats 4000000 in
set_option maxRecDepth 100000 in
theorem c_Mo_spoil (l : Launch) (D : va_G) (sz : Nat) (cI : ClassId) (h : Nat) (r : Nat → Nat) (th le lv pg pn pl rs : Int32) (n : Nat) (tp : Nat → Int32) (i v : Int32) (hn : n ≤ 9400) : Met l y_Mo_spoil [Cond.code y_Mo_spoil b_Mo_spoil 4 (some .int)] ({ frames := 0, cells := 0, slots := 0, locals := 0 }) (zM [.ref h, .int i, .int v] D [(h, .inr (13, mO r th (nI n) le lv pg pn pl rs)), (r 1, .inl (cI, 9400, .inl tp))] [(cI, .int)] sz) (va_Qi (fun r0 (u : Int32 × (Nat → Int32)) => if i < 0 ∨ nI n ≤ i then u = (1, tp) ∧ r0 = 0 else if v < 0 ∨ 255 < v then u = (2, tp) ∧ r0 = 0 else u = (0, upd tp i.toNatClampNeg v) ∧ r0 = tp i.toNatClampNeg) (fun (u : Int32 × (Nat → Int32)) t => zW D (va_A [(h, .inr (13, mO r th (nI n) le lv pg pn pl rs)), (r 1, .inl (cI, 9400, .inl tp))] sz) [(h, .inr (13, mO r u.1 (nI n) le lv pg pn pl rs)), (r 1, .inl (cI, 9400, .inl u.2))] [(cI, .int)] t) (va_A [(h, .inr (13, mO r th (nI n) le lv pg pn pl rs)), (r 1, .inl (cI, 9400, .inl tp))] sz)) 0 0 (va_A [(h, .inr (13, mO r th (nI n) le lv pg pn pl rs)), (r 1, .inl (cI, 9400, .inl tp))] sz) := by
  refine Met.ofW (cc := b_Mo_spoil) (maxL := 4) (ret := (some .int)) (by decide) rfl ?_
  intro p e s m args below meth cd s₁ Bd hml hv
  obtain ⟨rfl, hsz, hP, hK, hN, hD0⟩ := hv
  have hx := Bd.exec
  have hb := Bd.bytes
  have hr := Bd.returns
  have hts := hN.use (a := ([.ref h, .int i, .int v]).toArray)
  have hown : s.vm.findClass R_Mo = some m.cls := findClass_of_methodNamed Bd.named
  have hlocks := Bd.notSynchronized
  subst hsz
  have hD := hD0.self (sz := s.heap.size)
  clear hD0
  have hA : ∀ q : Nat, s.heap.size ≤ q → va_A [(h, .inr (13, mO r th (nI n) le lv pg pn pl rs)), (r 1, .inl (cI, 9400, .inl tp))] s.heap.size q := fun q h => Or.inr h
  have hS : va_S (va_A [(h, .inr (13, mO r th (nI n) le lv pg pn pl rs)), (r 1, .inl (cI, 9400, .inl tp))] s.heap.size) s.heap s.heap [] := va_S.rf
  generalize hAe : va_A [(h, .inr (13, mO r th (nI n) le lv pg pn pl rs)), (r 1, .inl (cI, 9400, .inl tp))] s.heap.size = A at hD hA hS ⊢
  have hP : va_P D classes [(h, .inr (13, mO r th (nI n) le lv pg pn pl rs)), (r 1, .inl (cI, 9400, .inl tp))] s.heap := hP
  have hl := lv_entry ([.ref h, .int i, .int v]) (n := 4) (Nat.le_of_ble_eq_true rfl)
  rw [lg_entry_eq]
  generalize (lg_sl ([.ref h, .int i, .int v]) ++ List.replicate (4 - (lg_sl ([.ref h, .int i, .int v])).length) Slot.unset).toArray = ls at hl ⊢
  have hl : lv_has ls 4 [(0, .ref h), (1, .int i), (2, .int v)] := hl
  refine lv_aload_n hx hb d_Mo_spoil_0 rfl (lv_at hl 0 rfl) ?_
  refine lv_iload_n hx hb d_Mo_spoil_1 rfl (lv_at hl 1 rfl) ?_
  refine lv_if_lt (tgt := 13) hx hb d_Mo_spoil_2 rfl (fun h2 => ?_) (fun h2 => ?_)
  · refine lv_iconst (v := 1) hx hb d_Mo_spoil_13 (by decide) ?_
    refine lv_goto (tgt := 33) hx hb d_Mo_spoil_14 rfl ?_
    refine va_put (D := D) (ci := 13) (v := .int 1) (ty := .int) (C := R_Mo) (T := F_Mo) (N := 54) hx hb hts i_Mo t_Mo t_Mo_ok n_Mo hown hK hP hD hS 0 rfl rfl 0 (by decide) (hts _ wd_1088) (fun _ h9 => h9) rfl (by decide +kernel) rfl rfl (Nat.le_of_ble_eq_true rfl) d_Mo_spoil_33 (fun H locs hP hD hS => ?_)
    have hP : va_P D classes [(h, .inr (13, mO r 1 (nI n) le lv pg pn pl rs)), (r 1, .inl (cI, 9400, .inl tp))] H := hP
    have hD : va_D A [(h, .inr (13, mO r 1 (nI n) le lv pg pn pl rs)), (r 1, .inl (cI, 9400, .inl tp))] := hD
    refine lv_aload_n hx hb d_Mo_spoil_36 rfl (lv_at hl 0 rfl) ?_
    refine va_get (D := D) (ci := 13) (v := .int 1) (C := R_Mo) (T := F_Mo) (N := 54) hx hb hts i_Mo hown hK hP 0 rfl rfl 0 (by decide) (hts _ wd_1088) (fun _ h9 => h9) rfl d_Mo_spoil_37 ?_
    refine lv_if_le (tgt := 45) hx hb d_Mo_spoil_40 rfl (fun h9 => absurd h9 (by decide)) (fun h40 => ?_)
    refine lv_iconst (v := 0) hx hb d_Mo_spoil_43 (by decide) ?_
    have hP9 := hP.sub (ws' := [(h, .inr (13, mO r 1 (nI n) le lv pg pn pl rs)), (r 1, .inl (cI, 9400, .inl tp))]) [0, 1] rfl
    have hD9 := hD.sub (ws' := [(h, .inr (13, mO r 1 (nI n) le lv pg pn pl rs)), (r 1, .inl (cI, 9400, .inl tp))]) [0, 1] (by decide) rfl
    have hK9 := hK.sub (tys' := [(cI, .int)]) [0] rfl
    exact W.iret (v := 0) hx hb hr (fun t ht hW => ⟨⟨_, (1, tp), rfl, (by dsimp only; rw [if_pos (by first | exact Or.inl h2 | exact Or.inr (Int32.not_lt.mp h10))]; exact ⟨rfl, rfl⟩), ⟨by rw [ht]; exact hP9, va_K.moved hW.alike hK9, hD9⟩⟩, hS.F ht⟩) hS.2.2 d_Mo_spoil_44
  · refine lv_iload_n hx hb d_Mo_spoil_5 rfl (lv_at hl 1 rfl) ?_
    refine lv_aload_n hx hb d_Mo_spoil_6 rfl (lv_at hl 0 rfl) ?_
    refine va_get (D := D) (ci := 13) (v := .int (nI n)) (C := R_Mo) (T := F_Mo) (N := 54) hx hb hts i_Mo hown hK hP 0 rfl rfl 2 (by decide) (hts _ wd_1090) (fun _ h9 => h9) rfl d_Mo_spoil_7 ?_
    refine lv_icmp_lt (tgt := 17) hx hb d_Mo_spoil_10 rfl (fun h10 => ?_) (fun h10 => ?_)
    · obtain ⟨k, hk, hik⟩ := z_in h2 h10 (by omega)
      subst hik
      have hkc : (nI k).toNatClampNeg = k := nI_clamp (by omega)
      have hno : ¬ (nI k < 0 ∨ nI n ≤ nI k) := fun z => z.elim h2 (fun q => Int32.not_le.mpr h10 q)
      refine lv_iload_n hx hb d_Mo_spoil_17 rfl (lv_at hl 2 rfl) ?_
      refine lv_if_lt (tgt := 28) hx hb d_Mo_spoil_18 rfl (fun h18 => ?_) (fun h18 => ?_)
      · refine lv_iconst (v := 2) hx hb d_Mo_spoil_28 (by decide) ?_
        refine lv_goto (tgt := 33) hx hb d_Mo_spoil_29 rfl ?_
        refine va_put (D := D) (ci := 13) (v := .int 2) (ty := .int) (C := R_Mo) (T := F_Mo) (N := 54) hx hb hts i_Mo t_Mo t_Mo_ok n_Mo hown hK hP hD hS 0 rfl rfl 0 (by decide) (hts _ wd_1088) (fun _ h9 => h9) rfl (by decide +kernel) rfl rfl (Nat.le_of_ble_eq_true rfl) d_Mo_spoil_33 (fun H locs hP hD hS => ?_)
        have hP : va_P D classes [(h, .inr (13, mO r 2 (nI n) le lv pg pn pl rs)), (r 1, .inl (cI, 9400, .inl tp))] H := hP
        have hD : va_D A [(h, .inr (13, mO r 2 (nI n) le lv pg pn pl rs)), (r 1, .inl (cI, 9400, .inl tp))] := hD
        refine lv_aload_n hx hb d_Mo_spoil_36 rfl (lv_at hl 0 rfl) ?_
        refine va_get (D := D) (ci := 13) (v := .int 2) (C := R_Mo) (T := F_Mo) (N := 54) hx hb hts i_Mo hown hK hP 0 rfl rfl 0 (by decide) (hts _ wd_1088) (fun _ h9 => h9) rfl d_Mo_spoil_37 ?_
        refine lv_if_le (tgt := 45) hx hb d_Mo_spoil_40 rfl (fun h9 => absurd h9 (by decide)) (fun h40 => ?_)
        refine lv_iconst (v := 0) hx hb d_Mo_spoil_43 (by decide) ?_
        have hP9 := hP.sub (ws' := [(h, .inr (13, mO r 2 (nI n) le lv pg pn pl rs)), (r 1, .inl (cI, 9400, .inl tp))]) [0, 1] rfl
        have hD9 := hD.sub (ws' := [(h, .inr (13, mO r 2 (nI n) le lv pg pn pl rs)), (r 1, .inl (cI, 9400, .inl tp))]) [0, 1] (by decide) rfl
        have hK9 := hK.sub (tys' := [(cI, .int)]) [0] rfl
        exact W.iret (v := 0) hx hb hr (fun t ht hW => ⟨⟨_, (2, tp), rfl, (by dsimp only; rw [if_neg hno, if_pos (by first | exact Or.inl h18 | exact Or.inr (Int32.not_le.mp h25))]; exact ⟨rfl, rfl⟩), ⟨by rw [ht]; exact hP9, va_K.moved hW.alike hK9, hD9⟩⟩, hS.F ht⟩) hS.2.2 d_Mo_spoil_44
      · refine lv_iload_n hx hb d_Mo_spoil_21 rfl (lv_at hl 2 rfl) ?_
        refine lv_sipush (v := 255) hx hb d_Mo_spoil_22 (by decide) ?_
        refine lv_icmp_le (tgt := 32) hx hb d_Mo_spoil_25 rfl (fun h25 => ?_) (fun h25 => ?_)
        · refine lv_iconst (v := 0) hx hb d_Mo_spoil_32 (by decide) ?_
          refine va_put (D := D) (ci := 13) (v := .int 0) (ty := .int) (C := R_Mo) (T := F_Mo) (N := 54) hx hb hts i_Mo t_Mo t_Mo_ok n_Mo hown hK hP hD hS 0 rfl rfl 0 (by decide) (hts _ wd_1088) (fun _ h9 => h9) rfl (by decide +kernel) rfl rfl (Nat.le_of_ble_eq_true rfl) d_Mo_spoil_33 (fun H locs hP hD hS => ?_)
          have hP : va_P D classes [(h, .inr (13, mO r 0 (nI n) le lv pg pn pl rs)), (r 1, .inl (cI, 9400, .inl tp))] H := hP
          have hD : va_D A [(h, .inr (13, mO r 0 (nI n) le lv pg pn pl rs)), (r 1, .inl (cI, 9400, .inl tp))] := hD
          refine lv_aload_n hx hb d_Mo_spoil_36 rfl (lv_at hl 0 rfl) ?_
          refine va_get (D := D) (ci := 13) (v := .int 0) (C := R_Mo) (T := F_Mo) (N := 54) hx hb hts i_Mo hown hK hP 0 rfl rfl 0 (by decide) (hts _ wd_1088) (fun _ h9 => h9) rfl d_Mo_spoil_37 ?_
          refine lv_if_le (tgt := 45) hx hb d_Mo_spoil_40 rfl (fun h40 => ?_) (fun h9 => absurd h9 (by decide))
          refine lv_aload_n hx hb d_Mo_spoil_45 rfl (lv_at hl 0 rfl) ?_
          refine va_get (D := D) (ci := 13) (v := .ref (r 1)) (C := R_Mo) (T := F_Mo) (N := 54) hx hb hts i_Mo hown hK hP 0 rfl rfl 1 (by decide) (hts _ wd_1089) (fun _ h9 => h9) rfl d_Mo_spoil_46 ?_
          refine lv_iload_n hx hb d_Mo_spoil_49 rfl (lv_at hl 1 rfl) ?_
          refine z_iald hx hb hK hP 1 0 rfl rfl k rfl (by omega) (by omega) d_Mo_spoil_50 ?_
          refine lv_istore_n (lv' := [(3, .int (tp k)), (0, .ref h), (1, .int (nI k)), (2, .int v)]) hx hb d_Mo_spoil_51 rfl hl (by decide) rfl (fun ls hl => ?_)
          refine lv_aload_n hx hb d_Mo_spoil_52 rfl (lv_at hl 1 rfl) ?_
          refine va_get (D := D) (ci := 13) (v := .ref (r 1)) (C := R_Mo) (T := F_Mo) (N := 54) hx hb hts i_Mo hown hK hP 0 rfl rfl 1 (by decide) (hts _ wd_1089) (fun _ h9 => h9) rfl d_Mo_spoil_53 ?_
          refine lv_iload_n hx hb d_Mo_spoil_56 rfl (lv_at hl 2 rfl) ?_
          refine lv_iload_n hx hb d_Mo_spoil_57 rfl (lv_at hl 3 rfl) ?_
          refine z_iast hx hb hK hP hD hS 1 0 rfl rfl k rfl (by omega) (by omega) d_Mo_spoil_58 (fun H locs hP hD hS => ?_)
          have hP : va_P D classes [(h, .inr (13, mO r 0 (nI n) le lv pg pn pl rs)), (r 1, .inl (cI, 9400, .inl (upd tp k v)))] H := hP
          have hD : va_D A [(h, .inr (13, mO r 0 (nI n) le lv pg pn pl rs)), (r 1, .inl (cI, 9400, .inl (upd tp k v)))] := hD
          refine lv_iload_n hx hb d_Mo_spoil_59 rfl (lv_at hl 0 rfl) ?_
          have hP9 := hP.sub (ws' := [(h, .inr (13, mO r 0 (nI n) le lv pg pn pl rs)), (r 1, .inl (cI, 9400, .inl (upd tp k v)))]) [0, 1] rfl
          have hD9 := hD.sub (ws' := [(h, .inr (13, mO r 0 (nI n) le lv pg pn pl rs)), (r 1, .inl (cI, 9400, .inl (upd tp k v)))]) [0, 1] (by decide) rfl
          have hK9 := hK.sub (tys' := [(cI, .int)]) [0] rfl
          exact W.iret (v := (tp k)) hx hb hr (fun t ht hW => ⟨⟨_, (0, upd tp k v), rfl, (by dsimp only; rw [if_neg hno, if_neg (fun z => z.elim h18 (fun q => Int32.not_lt.mpr h25 q)), hkc]; exact ⟨rfl, rfl⟩), ⟨by rw [ht]; exact hP9, va_K.moved hW.alike hK9, hD9⟩⟩, hS.F ht⟩) hS.2.2 d_Mo_spoil_60
        · refine lv_iconst (v := 2) hx hb d_Mo_spoil_28 (by decide) ?_
          refine lv_goto (tgt := 33) hx hb d_Mo_spoil_29 rfl ?_
          refine va_put (D := D) (ci := 13) (v := .int 2) (ty := .int) (C := R_Mo) (T := F_Mo) (N := 54) hx hb hts i_Mo t_Mo t_Mo_ok n_Mo hown hK hP hD hS 0 rfl rfl 0 (by decide) (hts _ wd_1088) (fun _ h9 => h9) rfl (by decide +kernel) rfl rfl (Nat.le_of_ble_eq_true rfl) d_Mo_spoil_33 (fun H locs hP hD hS => ?_)
          have hP : va_P D classes [(h, .inr (13, mO r 2 (nI n) le lv pg pn pl rs)), (r 1, .inl (cI, 9400, .inl tp))] H := hP
          have hD : va_D A [(h, .inr (13, mO r 2 (nI n) le lv pg pn pl rs)), (r 1, .inl (cI, 9400, .inl tp))] := hD
          refine lv_aload_n hx hb d_Mo_spoil_36 rfl (lv_at hl 0 rfl) ?_
          refine va_get (D := D) (ci := 13) (v := .int 2) (C := R_Mo) (T := F_Mo) (N := 54) hx hb hts i_Mo hown hK hP 0 rfl rfl 0 (by decide) (hts _ wd_1088) (fun _ h9 => h9) rfl d_Mo_spoil_37 ?_
          refine lv_if_le (tgt := 45) hx hb d_Mo_spoil_40 rfl (fun h9 => absurd h9 (by decide)) (fun h40 => ?_)
          refine lv_iconst (v := 0) hx hb d_Mo_spoil_43 (by decide) ?_
          have hP9 := hP.sub (ws' := [(h, .inr (13, mO r 2 (nI n) le lv pg pn pl rs)), (r 1, .inl (cI, 9400, .inl tp))]) [0, 1] rfl
          have hD9 := hD.sub (ws' := [(h, .inr (13, mO r 2 (nI n) le lv pg pn pl rs)), (r 1, .inl (cI, 9400, .inl tp))]) [0, 1] (by decide) rfl
          have hK9 := hK.sub (tys' := [(cI, .int)]) [0] rfl
          exact W.iret (v := 0) hx hb hr (fun t ht hW => ⟨⟨_, (2, tp), rfl, (by dsimp only; rw [if_neg hno, if_pos (by first | exact Or.inl h18 | exact Or.inr (Int32.not_le.mp h25))]; exact ⟨rfl, rfl⟩), ⟨by rw [ht]; exact hP9, va_K.moved hW.alike hK9, hD9⟩⟩, hS.F ht⟩) hS.2.2 d_Mo_spoil_44
    · refine lv_iconst (v := 1) hx hb d_Mo_spoil_13 (by decide) ?_
      refine lv_goto (tgt := 33) hx hb d_Mo_spoil_14 rfl ?_
      refine va_put (D := D) (ci := 13) (v := .int 1) (ty := .int) (C := R_Mo) (T := F_Mo) (N := 54) hx hb hts i_Mo t_Mo t_Mo_ok n_Mo hown hK hP hD hS 0 rfl rfl 0 (by decide) (hts _ wd_1088) (fun _ h9 => h9) rfl (by decide +kernel) rfl rfl (Nat.le_of_ble_eq_true rfl) d_Mo_spoil_33 (fun H locs hP hD hS => ?_)
      have hP : va_P D classes [(h, .inr (13, mO r 1 (nI n) le lv pg pn pl rs)), (r 1, .inl (cI, 9400, .inl tp))] H := hP
      have hD : va_D A [(h, .inr (13, mO r 1 (nI n) le lv pg pn pl rs)), (r 1, .inl (cI, 9400, .inl tp))] := hD
      refine lv_aload_n hx hb d_Mo_spoil_36 rfl (lv_at hl 0 rfl) ?_
      refine va_get (D := D) (ci := 13) (v := .int 1) (C := R_Mo) (T := F_Mo) (N := 54) hx hb hts i_Mo hown hK hP 0 rfl rfl 0 (by decide) (hts _ wd_1088) (fun _ h9 => h9) rfl d_Mo_spoil_37 ?_
      refine lv_if_le (tgt := 45) hx hb d_Mo_spoil_40 rfl (fun h9 => absurd h9 (by decide)) (fun h40 => ?_)
      refine lv_iconst (v := 0) hx hb d_Mo_spoil_43 (by decide) ?_
      have hP9 := hP.sub (ws' := [(h, .inr (13, mO r 1 (nI n) le lv pg pn pl rs)), (r 1, .inl (cI, 9400, .inl tp))]) [0, 1] rfl
      have hD9 := hD.sub (ws' := [(h, .inr (13, mO r 1 (nI n) le lv pg pn pl rs)), (r 1, .inl (cI, 9400, .inl tp))]) [0, 1] (by decide) rfl
      have hK9 := hK.sub (tys' := [(cI, .int)]) [0] rfl
      exact W.iret (v := 0) hx hb hr (fun t ht hW => ⟨⟨_, (1, tp), rfl, (by dsimp only; rw [if_pos (by first | exact Or.inl h2 | exact Or.inr (Int32.not_lt.mp h10))]; exact ⟨rfl, rfl⟩), ⟨by rw [ht]; exact hP9, va_K.moved hW.alike hK9, hD9⟩⟩, hS.F ht⟩) hS.2.2 d_Mo_spoil_44
set_option maxHeartbeats 4000000 in
set_option maxRecDepth 100000 in
theorem c_Mo_tape (l : Launch) (D : va_G) (sz : Nat) (cI : ClassId) (h : Nat) (r : Nat → Nat) (th le lv pg pn pl rs : Int32) (n : Nat) (tp : Nat → Int32) (i : Int32) (hn : n ≤ 9400) : Met l y_Mo_tape [Cond.code y_Mo_tape b_Mo_tape 7 (some .long)] ({ frames := 0, cells := 0, slots := 0, locals := 0 }) (zM [.ref h, .int i] D [(h, .inr (13, mO r th (nI n) le lv pg pn pl rs)), (r 1, .inl (cI, 9400, .inl tp))] [(cI, .int)] sz) (va_Ql (fun r0 (_ : Unit) => r0 = mt_l tp n i 8) (fun (_u : Unit) t => zW D (va_A [(h, .inr (13, mO r th (nI n) le lv pg pn pl rs)), (r 1, .inl (cI, 9400, .inl tp))] sz) [(h, .inr (13, mO r 0 (nI n) le lv pg pn pl rs)), (r 1, .inl (cI, 9400, .inl tp))] [(cI, .int)] t) (va_A [(h, .inr (13, mO r th (nI n) le lv pg pn pl rs)), (r 1, .inl (cI, 9400, .inl tp))] sz)) 0 0 (va_A [(h, .inr (13, mO r th (nI n) le lv pg pn pl rs)), (r 1, .inl (cI, 9400, .inl tp))] sz) := by
  refine Met.ofW (cc := b_Mo_tape) (maxL := 7) (ret := (some .long)) (by decide) rfl ?_
  intro p e s m args below meth cd s₁ Bd hml hv
  obtain ⟨rfl, hsz, hP, hK, hN, hD0⟩ := hv
  have hx := Bd.exec
  have hb := Bd.bytes
  have hr := Bd.returns
  have hts := hN.use (a := ([.ref h, .int i]).toArray)
  have hown : s.vm.findClass R_Mo = some m.cls := findClass_of_methodNamed Bd.named
  have hlocks := Bd.notSynchronized
  subst hsz
  have hD := hD0.self (sz := s.heap.size)
  clear hD0
  have hA : ∀ q : Nat, s.heap.size ≤ q → va_A [(h, .inr (13, mO r th (nI n) le lv pg pn pl rs)), (r 1, .inl (cI, 9400, .inl tp))] s.heap.size q := fun q h => Or.inr h
  have hS : va_S (va_A [(h, .inr (13, mO r th (nI n) le lv pg pn pl rs)), (r 1, .inl (cI, 9400, .inl tp))] s.heap.size) s.heap s.heap [] := va_S.rf
  generalize hAe : va_A [(h, .inr (13, mO r th (nI n) le lv pg pn pl rs)), (r 1, .inl (cI, 9400, .inl tp))] s.heap.size = A at hD hA hS ⊢
  have hP : va_P D classes [(h, .inr (13, mO r th (nI n) le lv pg pn pl rs)), (r 1, .inl (cI, 9400, .inl tp))] s.heap := hP
  have hl := lv_entry ([.ref h, .int i]) (n := 7) (Nat.le_of_ble_eq_true rfl)
  rw [lg_entry_eq]
  generalize (lg_sl ([.ref h, .int i]) ++ List.replicate (7 - (lg_sl ([.ref h, .int i])).length) Slot.unset).toArray = ls at hl ⊢
  have hl : lv_has ls 7 [(0, .ref h), (1, .int i)] := hl
  refine lv_aload_n hx hb d_Mo_tape_0 rfl (lv_at hl 0 rfl) ?_
  refine lv_iconst (v := 0) hx hb d_Mo_tape_1 (by decide) ?_
  refine va_put (D := D) (ci := 13) (v := .int 0) (ty := .int) (C := R_Mo) (T := F_Mo) (N := 54) hx hb hts i_Mo t_Mo t_Mo_ok n_Mo hown hK hP hD hS 0 rfl rfl 0 (by decide) (hts _ wd_1088) (fun _ h9 => h9) rfl (by decide +kernel) rfl rfl (Nat.le_of_ble_eq_true rfl) d_Mo_tape_2 (fun H locs hP hD hS => ?_)
  have hP : va_P D classes [(h, .inr (13, mO r 0 (nI n) le lv pg pn pl rs)), (r 1, .inl (cI, 9400, .inl tp))] H := hP
  have hD : va_D A [(h, .inr (13, mO r 0 (nI n) le lv pg pn pl rs)), (r 1, .inl (cI, 9400, .inl tp))] := hD
  refine lv_lconst (v := 0) hx hb d_Mo_tape_5 (by decide) ?_
  refine lv_lstore_n (lv' := [(2, .long 0), (0, .ref h), (1, .int i)]) hx hb d_Mo_tape_6 rfl hl (by decide) rfl (fun ls hl => ?_)
  refine lv_iconst (v := 0) hx hb d_Mo_tape_7 (by decide) ?_
  refine lv_istore (lv' := [(4, .int 0), (2, .long 0), (0, .ref h), (1, .int i)]) hx hb d_Mo_tape_8 hl (by decide) rfl (fun ls hl => ?_)
  have loop10 : ∀ (N : Nat) (j : Nat) (H : Heap) (locs : List Loc) (ls : Array Slot) (hm : 8 - j < N) (hj : j ≤ 8) (hl : lv_has ls 7 [(0, .ref h), (1, .int i), (2, .long (mt_l tp n i j)), (4, .int (nI j))]) (hP : va_P D classes [(h, .inr (13, mO r 0 (nI n) le lv pg pn pl rs)), (r 1, .inl (cI, 9400, .inl tp))] H) (hD : va_D A [(h, .inr (13, mO r 0 (nI n) le lv pg pn pl rs)), (r 1, .inl (cI, 9400, .inl tp))]) (hS : va_S A s.heap H locs), W p l e ({ frames := 0, cells := 0, slots := 0, locals := 0 }) s m ([.ref h, .int i]).toArray below meth cd H locs 0 0 (MQ below (va_Ql (fun r0 (_ : Unit) => r0 = mt_l tp n i 8) (fun (_u : Unit) t => zW D (A) [(h, .inr (13, mO r 0 (nI n) le lv pg pn pl rs)), (r 1, .inl (cI, 9400, .inl tp))] [(cI, .int)] t) (A)) ([.ref h, .int i]).toArray s 0 0 (A)) (F0 m 10 ls []) := by
    intro N10
    induction N10 with
    | zero => intro j H locs ls hm hj hl hP hD hS; exact absurd hm (Nat.not_lt_zero _)
    | succ N10 ih10 =>
      intro j H locs ls hm hj hl hP hD hS
      refine lv_iload hx hb d_Mo_tape_10 (lv_at hl 3 rfl) ?_
      refine lv_bipush (v := 8) hx hb d_Mo_tape_12 (by decide) ?_
      refine lv_icmp_ge (tgt := 71) hx hb d_Mo_tape_14 rfl (fun h14 => ?_) (fun h14 => ?_)
      · have h14 : 8 ≤ j := (nI_leI (a := 8) (by omega) (by omega)).mp h14
        have hj8 : 8 = j := by omega
        refine lv_lload_n hx hb d_Mo_tape_71 rfl (lv_at hl 2 rfl) ?_
        have hP9 := hP.sub (ws' := [(h, .inr (13, mO r 0 (nI n) le lv pg pn pl rs)), (r 1, .inl (cI, 9400, .inl tp))]) [0, 1] rfl
        have hD9 := hD.sub (ws' := [(h, .inr (13, mO r 0 (nI n) le lv pg pn pl rs)), (r 1, .inl (cI, 9400, .inl tp))]) [0, 1] (by decide) rfl
        have hK9 := hK.sub (tys' := [(cI, .int)]) [0] rfl
        exact W.lret (v := (mt_l tp n i j)) hx hb hr (fun t ht hW => ⟨⟨_, (), rfl, (by dsimp only; rw [hj8]), ⟨by rw [ht]; exact hP9, va_K.moved hW.alike hK9, hD9⟩⟩, hS.F ht⟩) hS.2.2 d_Mo_tape_72
      · have h14 : ¬ 8 ≤ j := mt (nI_leI (a := 8) (by omega) (by omega)).mpr h14
        refine lv_iload_n hx hb d_Mo_tape_17 rfl (lv_at hl 1 rfl) ?_
        refine lv_i2l (v := i.toInt64) hx hb d_Mo_tape_18 rfl ?_
        refine lv_iload hx hb d_Mo_tape_19 (lv_at hl 3 rfl) ?_
        refine lv_i2l (v := (nI j).toInt64) hx hb d_Mo_tape_21 rfl ?_
        refine lv_ladd hx hb d_Mo_tape_22 ?_
        refine lv_lstore (lv' := [(5, .long (i.toInt64 + ((nI j).toInt64))), (0, .ref h), (1, .int i), (2, .long (mt_l tp n i j)), (4, .int (nI j))]) hx hb d_Mo_tape_23 hl (by decide) rfl (fun ls hl => ?_)
        refine lv_lload hx hb d_Mo_tape_25 (lv_at hl 0 rfl) ?_
        refine lv_lconst (v := 0) hx hb d_Mo_tape_27 (by decide) ?_
        refine W.lcmp hx hb d_Mo_tape_28 ?_
        refine lv_if_lt (tgt := 63) hx hb d_Mo_tape_29 rfl (fun h29 => ?_) (fun h29 => ?_)
        · refine lv_lload_n hx hb d_Mo_tape_63 rfl (lv_at hl 3 rfl) ?_
          refine z_topl (w := mt_l tp n i (j + 1)) (by first | exact (mt_no (Or.inl h29)).symm | exact (mt_no (Or.inr h40)).symm | exact (mt_yes h29 h40 hn hk hkk).symm) ?_
          refine lv_lstore_n (lv' := [(2, .long (mt_l tp n i (j + 1))), (5, .long (i.toInt64 + ((nI j).toInt64))), (0, .ref h), (1, .int i), (4, .int (nI j))]) hx hb d_Mo_tape_64 rfl hl (by decide) rfl (fun ls hl => ?_)
          refine lv_iinc (k := 4) (v := nI (j + 1)) (lv' := [(4, .int (nI (j + 1))), (2, .long (mt_l tp n i (j + 1))), (5, .long (i.toInt64 + ((nI j).toInt64))), (0, .ref h), (1, .int i)]) hx hb d_Mo_tape_65 hl rfl (nI_1 j) (by decide) rfl (fun ls hl => ?_)
          refine lv_goto (tgt := 10) hx hb d_Mo_tape_68 rfl ?_
          exact ih10 (j + 1) H locs ls (by omega) (by omega) (lv_sub hl [3, 4, 1, 0] rfl) hP hD hS
        · refine lv_lload hx hb d_Mo_tape_32 (lv_at hl 0 rfl) ?_
          refine lv_aload_n hx hb d_Mo_tape_34 rfl (lv_at hl 1 rfl) ?_
          refine va_get (D := D) (ci := 13) (v := .int (nI n)) (C := R_Mo) (T := F_Mo) (N := 54) hx hb hts i_Mo hown hK hP 0 rfl rfl 2 (by decide) (hts _ wd_1090) (fun _ h9 => h9) rfl d_Mo_tape_35 ?_
          refine lv_i2l (v := (nI n).toInt64) hx hb d_Mo_tape_38 rfl ?_
          refine W.lcmp hx hb d_Mo_tape_39 ?_
          refine lv_if_ge (tgt := 63) hx hb d_Mo_tape_40 rfl (fun h40 => ?_) (fun h40 => ?_)
          · refine lv_lload_n hx hb d_Mo_tape_63 rfl (lv_at hl 3 rfl) ?_
            refine z_topl (w := mt_l tp n i (j + 1)) (by first | exact (mt_no (Or.inl h29)).symm | exact (mt_no (Or.inr h40)).symm | exact (mt_yes h29 h40 hn hk hkk).symm) ?_
            refine lv_lstore_n (lv' := [(2, .long (mt_l tp n i (j + 1))), (5, .long (i.toInt64 + ((nI j).toInt64))), (0, .ref h), (1, .int i), (4, .int (nI j))]) hx hb d_Mo_tape_64 rfl hl (by decide) rfl (fun ls hl => ?_)
            refine lv_iinc (k := 4) (v := nI (j + 1)) (lv' := [(4, .int (nI (j + 1))), (2, .long (mt_l tp n i (j + 1))), (5, .long (i.toInt64 + ((nI j).toInt64))), (0, .ref h), (1, .int i)]) hx hb d_Mo_tape_65 hl rfl (nI_1 j) (by decide) rfl (fun ls hl => ?_)
            refine lv_goto (tgt := 10) hx hb d_Mo_tape_68 rfl ?_
            exact ih10 (j + 1) H locs ls (by omega) (by omega) (lv_sub hl [3, 4, 1, 0] rfl) hP hD hS
          · obtain ⟨k, hk, hkk⟩ := mt_in h29 h40 hn
            refine lv_lload_n hx hb d_Mo_tape_43 rfl (lv_at hl 3 rfl) ?_
            refine lv_aload_n hx hb d_Mo_tape_44 rfl (lv_at hl 1 rfl) ?_
            refine va_get (D := D) (ci := 13) (v := .ref (r 1)) (C := R_Mo) (T := F_Mo) (N := 54) hx hb hts i_Mo hown hK hP 0 rfl rfl 1 (by decide) (hts _ wd_1089) (fun _ h9 => h9) rfl d_Mo_tape_45 ?_
            refine lv_lload hx hb d_Mo_tape_48 (lv_at hl 0 rfl) ?_
            refine lv_l2i (v := (i.toInt64 + ((nI j).toInt64)).toInt32) hx hb d_Mo_tape_50 rfl ?_
            refine z_iald hx hb hK hP 1 0 rfl rfl k hkk (by omega) (by omega) d_Mo_tape_51 ?_
            refine lv_i2l (v := (tp k).toInt64) hx hb d_Mo_tape_52 rfl ?_
            refine lv_bipush (v := 8) hx hb d_Mo_tape_53 (by decide) ?_
            refine lv_iload hx hb d_Mo_tape_55 (lv_at hl 4 rfl) ?_
            refine lv_imul hx hb d_Mo_tape_57 ?_
            refine lv_lshl (v := ((tp k).toInt64) <<< ((8 * (nI j)).toInt64 &&& 63)) hx hb d_Mo_tape_58 rfl ?_
            refine lv_lor hx hb d_Mo_tape_59 ?_
            refine lv_goto (tgt := 64) hx hb d_Mo_tape_60 rfl ?_
            refine z_topl (w := mt_l tp n i (j + 1)) (by first | exact (mt_no (Or.inl h29)).symm | exact (mt_no (Or.inr h40)).symm | exact (mt_yes h29 h40 hn hk hkk).symm) ?_
            refine lv_lstore_n (lv' := [(2, .long (mt_l tp n i (j + 1))), (5, .long (i.toInt64 + ((nI j).toInt64))), (0, .ref h), (1, .int i), (4, .int (nI j))]) hx hb d_Mo_tape_64 rfl hl (by decide) rfl (fun ls hl => ?_)
            refine lv_iinc (k := 4) (v := nI (j + 1)) (lv' := [(4, .int (nI (j + 1))), (2, .long (mt_l tp n i (j + 1))), (5, .long (i.toInt64 + ((nI j).toInt64))), (0, .ref h), (1, .int i)]) hx hb d_Mo_tape_65 hl rfl (nI_1 j) (by decide) rfl (fun ls hl => ?_)
            refine lv_goto (tgt := 10) hx hb d_Mo_tape_68 rfl ?_
            exact ih10 (j + 1) H locs ls (by omega) (by omega) (lv_sub hl [3, 4, 1, 0] rfl) hP hD hS
  exact loop10 _ 0 H locs ls (Nat.lt_succ_self _) (Nat.zero_le _) (lv_sub hl [2, 3, 1, 0] rfl) hP hD hS
set_option maxHeartbeats 4000000 in
set_option maxRecDepth 100000 in
theorem c_Mo_remove (l : Launch) (D : va_G) (sz : Nat) (cI : ClassId) (h : Nat) (r : Nat → Nat) (th le lv pg pn pl rs : Int32) (n : Nat) (tp : Nat → Int32) (k c : Nat) (hn : n ≤ 9400) (hk : k + c ≤ n) : Met l y_Mo_remove [Cond.code y_Mo_remove b_Mo_remove 4 none] ({ frames := 0, cells := 0, slots := 0, locals := 0 }) (zM [.ref h, .int (nI k), .int (nI c)] D [(h, .inr (13, mO r th (nI n) le lv pg pn pl rs)), (r 1, .inl (cI, 9400, .inl tp))] [(cI, .int)] sz) (va_Qv (fun (_ : Unit) => True) (fun (_u : Unit) t => zW D (va_A [(h, .inr (13, mO r th (nI n) le lv pg pn pl rs)), (r 1, .inl (cI, 9400, .inl tp))] sz) [(h, .inr (13, mO r th (nI (n - c)) le lv pg pn pl rs)), (r 1, .inl (cI, 9400, .inl (rm_f tp c k (n - c - k))))] [(cI, .int)] t) (va_A [(h, .inr (13, mO r th (nI n) le lv pg pn pl rs)), (r 1, .inl (cI, 9400, .inl tp))] sz)) 0 0 (va_A [(h, .inr (13, mO r th (nI n) le lv pg pn pl rs)), (r 1, .inl (cI, 9400, .inl tp))] sz) := by
  refine Met.ofW (cc := b_Mo_remove) (maxL := 4) (ret := none) (by decide) rfl ?_
  intro p e s m args below meth cd s₁ Bd hml hv
  obtain ⟨rfl, hsz, hP, hK, hN, hD0⟩ := hv
  have hx := Bd.exec
  have hb := Bd.bytes
  have hr := Bd.returns
  have hts := hN.use (a := ([.ref h, .int (nI k), .int (nI c)]).toArray)
  have hown : s.vm.findClass R_Mo = some m.cls := findClass_of_methodNamed Bd.named
  have hlocks := Bd.notSynchronized
  subst hsz
  have hD := hD0.self (sz := s.heap.size)
  clear hD0
  have hA : ∀ q : Nat, s.heap.size ≤ q → va_A [(h, .inr (13, mO r th (nI n) le lv pg pn pl rs)), (r 1, .inl (cI, 9400, .inl tp))] s.heap.size q := fun q h => Or.inr h
  have hS : va_S (va_A [(h, .inr (13, mO r th (nI n) le lv pg pn pl rs)), (r 1, .inl (cI, 9400, .inl tp))] s.heap.size) s.heap s.heap [] := va_S.rf
  generalize hAe : va_A [(h, .inr (13, mO r th (nI n) le lv pg pn pl rs)), (r 1, .inl (cI, 9400, .inl tp))] s.heap.size = A at hD hA hS ⊢
  have hP : va_P D classes [(h, .inr (13, mO r th (nI n) le lv pg pn pl rs)), (r 1, .inl (cI, 9400, .inl tp))] s.heap := hP
  have hl := lv_entry ([.ref h, .int (nI k), .int (nI c)]) (n := 4) (Nat.le_of_ble_eq_true rfl)
  rw [lg_entry_eq]
  generalize (lg_sl ([.ref h, .int (nI k), .int (nI c)]) ++ List.replicate (4 - (lg_sl ([.ref h, .int (nI k), .int (nI c)])).length) Slot.unset).toArray = ls at hl ⊢
  have hl : lv_has ls 4 [(0, .ref h), (1, .int (nI k)), (2, .int (nI c))] := hl
  refine lv_aload_n hx hb d_Mo_remove_0 rfl (lv_at hl 0 rfl) ?_
  refine lv_aload_n hx hb d_Mo_remove_1 rfl (lv_at hl 0 rfl) ?_
  refine va_get (D := D) (ci := 13) (v := .int (nI n)) (C := R_Mo) (T := F_Mo) (N := 54) hx hb hts i_Mo hown hK hP 0 rfl rfl 2 (by decide) (hts _ wd_1090) (fun _ h9 => h9) rfl d_Mo_remove_2 ?_
  refine lv_iload_n hx hb d_Mo_remove_5 rfl (lv_at hl 2 rfl) ?_
  refine lv_isub hx hb d_Mo_remove_6 ?_
  refine z_topi (w := nI (n - c)) (pk_sub (by omega)) ?_
  refine va_put (D := D) (ci := 13) (v := .int (nI (n - c))) (ty := .int) (C := R_Mo) (T := F_Mo) (N := 54) hx hb hts i_Mo t_Mo t_Mo_ok n_Mo hown hK hP hD hS 0 rfl rfl 2 (by decide) (hts _ wd_1090) (fun _ h9 => h9) rfl (by decide +kernel) rfl rfl (Nat.le_of_ble_eq_true rfl) d_Mo_remove_7 (fun H locs hP hD hS => ?_)
  have hP : va_P D classes [(h, .inr (13, mO r th (nI (n - c)) le lv pg pn pl rs)), (r 1, .inl (cI, 9400, .inl tp))] H := hP
  have hD : va_D A [(h, .inr (13, mO r th (nI (n - c)) le lv pg pn pl rs)), (r 1, .inl (cI, 9400, .inl tp))] := hD
  refine lv_iload_n hx hb d_Mo_remove_10 rfl (lv_at hl 1 rfl) ?_
  refine lv_istore_n (lv' := [(3, .int (nI k)), (0, .ref h), (1, .int (nI k)), (2, .int (nI c))]) hx hb d_Mo_remove_11 rfl hl (by decide) rfl (fun ls hl => ?_)
  have loop12 : ∀ (N : Nat) (j : Nat) (H : Heap) (locs : List Loc) (ls : Array Slot) (hm : n - c - k - j < N) (hj : j ≤ n - c - k) (hl : lv_has ls 4 [(0, .ref h), (2, .int (nI c)), (3, .int (nI (k + j)))]) (hP : va_P D classes [(h, .inr (13, mO r th (nI (n - c)) le lv pg pn pl rs)), (r 1, .inl (cI, 9400, .inl (rm_f tp c k j)))] H) (hD : va_D A [(h, .inr (13, mO r th (nI (n - c)) le lv pg pn pl rs)), (r 1, .inl (cI, 9400, .inl (rm_f tp c k j)))]) (hS : va_S A s.heap H locs), W p l e ({ frames := 0, cells := 0, slots := 0, locals := 0 }) s m ([.ref h, .int (nI k), .int (nI c)]).toArray below meth cd H locs 0 0 (MQ below (va_Qv (fun (_ : Unit) => True) (fun (_u : Unit) t => zW D (A) [(h, .inr (13, mO r th (nI (n - c)) le lv pg pn pl rs)), (r 1, .inl (cI, 9400, .inl (rm_f tp c k (n - c - k))))] [(cI, .int)] t) (A)) ([.ref h, .int (nI k), .int (nI c)]).toArray s 0 0 (A)) (F0 m 12 ls []) := by
    intro N12
    induction N12 with
    | zero => intro j H locs ls hm hj hl hP hD hS; exact absurd hm (Nat.not_lt_zero _)
    | succ N12 ih12 =>
      intro j H locs ls hm hj hl hP hD hS
      refine lv_iload_n hx hb d_Mo_remove_12 rfl (lv_at hl 2 rfl) ?_
      refine lv_aload_n hx hb d_Mo_remove_13 rfl (lv_at hl 0 rfl) ?_
      refine va_get (D := D) (ci := 13) (v := .int (nI (n - c))) (C := R_Mo) (T := F_Mo) (N := 54) hx hb hts i_Mo hown hK hP 0 rfl rfl 2 (by decide) (hts _ wd_1090) (fun _ h9 => h9) rfl d_Mo_remove_14 ?_
      refine lv_icmp_ge (tgt := 40) hx hb d_Mo_remove_17 rfl (fun h17 => ?_) (fun h17 => ?_)
      · have h17 := (nI_leI (by omega) (by omega)).mp h17
        obtain rfl : j = n - c - k := by omega
        have hP9 := hP.sub (ws' := [(h, .inr (13, mO r th (nI (n - c)) le lv pg pn pl rs)), (r 1, .inl (cI, 9400, .inl (rm_f tp c k (n - c - k))))]) [0, 1] rfl
        have hD9 := hD.sub (ws' := [(h, .inr (13, mO r th (nI (n - c)) le lv pg pn pl rs)), (r 1, .inl (cI, 9400, .inl (rm_f tp c k (n - c - k))))]) [0, 1] (by decide) rfl
        have hK9 := hK.sub (tys' := [(cI, .int)]) [0] rfl
        exact W.vret hx hb hr (fun t ht hW => ⟨⟨(), rfl, trivial, ⟨by rw [ht]; exact hP9, va_K.moved hW.alike hK9, hD9⟩⟩, hS.F ht⟩) hS.2.2 d_Mo_remove_40
      · have h17 := mt (nI_leI (by omega) (by omega)).mpr h17
        refine lv_aload_n hx hb d_Mo_remove_20 rfl (lv_at hl 0 rfl) ?_
        refine va_get (D := D) (ci := 13) (v := .ref (r 1)) (C := R_Mo) (T := F_Mo) (N := 54) hx hb hts i_Mo hown hK hP 0 rfl rfl 1 (by decide) (hts _ wd_1089) (fun _ h9 => h9) rfl d_Mo_remove_21 ?_
        refine lv_iload_n hx hb d_Mo_remove_24 rfl (lv_at hl 2 rfl) ?_
        refine lv_aload_n hx hb d_Mo_remove_25 rfl (lv_at hl 0 rfl) ?_
        refine va_get (D := D) (ci := 13) (v := .ref (r 1)) (C := R_Mo) (T := F_Mo) (N := 54) hx hb hts i_Mo hown hK hP 0 rfl rfl 1 (by decide) (hts _ wd_1089) (fun _ h9 => h9) rfl d_Mo_remove_26 ?_
        refine lv_iload_n hx hb d_Mo_remove_29 rfl (lv_at hl 2 rfl) ?_
        refine lv_iload_n hx hb d_Mo_remove_30 rfl (lv_at hl 1 rfl) ?_
        refine lv_iadd hx hb d_Mo_remove_31 ?_
        refine z_topi (w := nI (k + j + c)) (nI_add _ _) ?_
        refine z_iald hx hb hK hP 1 0 rfl rfl (k + j + c) rfl (by omega) (by omega) d_Mo_remove_32 ?_
        refine z_iast hx hb hK hP hD hS 1 0 rfl rfl (k + j) rfl (by omega) (by omega) d_Mo_remove_33 (fun H locs hP hD hS => ?_)
        have hP : va_P D classes [(h, .inr (13, mO r th (nI (n - c)) le lv pg pn pl rs)), (r 1, .inl (cI, 9400, .inl (upd (rm_f tp c k j) (k + j) ((rm_f tp c k j) (k + j + c)))))] H := hP
        have hD : va_D A [(h, .inr (13, mO r th (nI (n - c)) le lv pg pn pl rs)), (r 1, .inl (cI, 9400, .inl (upd (rm_f tp c k j) (k + j) ((rm_f tp c k j) (k + j + c)))))] := hD
        refine lv_iinc (k := 2) (v := nI (k + j + 1)) (lv' := [(3, .int (nI (k + j + 1))), (0, .ref h), (2, .int (nI c))]) hx hb d_Mo_remove_34 hl rfl (nI_1 _) (by decide) rfl (fun ls hl => ?_)
        refine lv_goto (tgt := 12) hx hb d_Mo_remove_37 rfl ?_
        exact ih12 (j + 1) H locs ls (by omega) (by omega) (lv_sub hl [1, 2, 0] rfl) hP hD hS
  exact loop12 _ 0 H locs ls (Nat.lt_succ_self _) (Nat.zero_le _) (lv_sub hl [1, 3, 0] rfl) hP hD hS
set_option maxHeartbeats 4000000 in
set_option maxRecDepth 100000 in
theorem c_Mo_drop (l : Launch) (D : va_G) (sz : Nat) (cI : ClassId) (h : Nat) (r : Nat → Nat) (th le lv pg pn pl rs : Int32) (n : Nat) (tp : Nat → Int32) (i c : Int32) (hn : n ≤ 9400) : Met l y_Mo_drop [Cond.code y_Mo_drop b_Mo_drop 3 (some .int)] ({ frames := 1, cells := 0, slots := 0, locals := 23 }) (zM [.ref h, .int i, .int c] D [(h, .inr (13, mO r th (nI n) le lv pg pn pl rs)), (r 1, .inl (cI, 9400, .inl tp))] [(cI, .int)] sz) (va_Qi (fun r0 (u : Int32 × Nat × Nat) => (u = (1, 0, 0) ∧ r0 = 0 ∧ (i < 0 ∨ c < 0 ∨ nI n - c < i)) ∨ (u.1 = 0 ∧ i = nI u.2.1 ∧ c = nI u.2.2 ∧ u.2.1 + u.2.2 ≤ n ∧ r0 = nI (n - u.2.2))) (fun (u : Int32 × Nat × Nat) t => zW D (va_A [(h, .inr (13, mO r th (nI n) le lv pg pn pl rs)), (r 1, .inl (cI, 9400, .inl tp))] sz) [(h, .inr (13, mO r u.1 (nI (n - u.2.2)) le lv pg pn pl rs)), (r 1, .inl (cI, 9400, .inl (md_f tp n u)))] [(cI, .int)] t) (va_A [(h, .inr (13, mO r th (nI n) le lv pg pn pl rs)), (r 1, .inl (cI, 9400, .inl tp))] sz)) 0 0 (va_A [(h, .inr (13, mO r th (nI n) le lv pg pn pl rs)), (r 1, .inl (cI, 9400, .inl tp))] sz) := by
  refine Met.ofW (cc := b_Mo_drop) (maxL := 3) (ret := (some .int)) (by decide) rfl ?_
  intro p e s m args below meth cd s₁ Bd hml hv
  obtain ⟨rfl, hsz, hP, hK, hN, hD0⟩ := hv
  have hx := Bd.exec
  have hb := Bd.bytes
  have hr := Bd.returns
  have hts := hN.use (a := ([.ref h, .int i, .int c]).toArray)
  have hown : s.vm.findClass R_Mo = some m.cls := findClass_of_methodNamed Bd.named
  have hlocks := Bd.notSynchronized
  subst hsz
  have hD := hD0.self (sz := s.heap.size)
  clear hD0
  have hA : ∀ q : Nat, s.heap.size ≤ q → va_A [(h, .inr (13, mO r th (nI n) le lv pg pn pl rs)), (r 1, .inl (cI, 9400, .inl tp))] s.heap.size q := fun q h => Or.inr h
  have hS : va_S (va_A [(h, .inr (13, mO r th (nI n) le lv pg pn pl rs)), (r 1, .inl (cI, 9400, .inl tp))] s.heap.size) s.heap s.heap [] := va_S.rf
  generalize hAe : va_A [(h, .inr (13, mO r th (nI n) le lv pg pn pl rs)), (r 1, .inl (cI, 9400, .inl tp))] s.heap.size = A at hD hA hS ⊢
  have hP : va_P D classes [(h, .inr (13, mO r th (nI n) le lv pg pn pl rs)), (r 1, .inl (cI, 9400, .inl tp))] s.heap := hP
  have hl := lv_entry ([.ref h, .int i, .int c]) (n := 3) (Nat.le_of_ble_eq_true rfl)
  rw [lg_entry_eq]
  generalize (lg_sl ([.ref h, .int i, .int c]) ++ List.replicate (3 - (lg_sl ([.ref h, .int i, .int c])).length) Slot.unset).toArray = ls at hl ⊢
  have hl : lv_has ls 3 [(0, .ref h), (1, .int i), (2, .int c)] := hl
  refine lv_aload_n hx hb d_Mo_drop_0 rfl (lv_at hl 0 rfl) ?_
  refine lv_iload_n hx hb d_Mo_drop_1 rfl (lv_at hl 1 rfl) ?_
  refine lv_if_lt (tgt := 19) hx hb d_Mo_drop_2 rfl (fun h2 => ?_) (fun h2 => ?_)
  · refine lv_iconst (v := 1) hx hb d_Mo_drop_19 (by decide) ?_
    refine lv_goto (tgt := 24) hx hb d_Mo_drop_20 rfl ?_
    refine va_put (D := D) (ci := 13) (v := .int 1) (ty := .int) (C := R_Mo) (T := F_Mo) (N := 54) hx hb hts i_Mo t_Mo t_Mo_ok n_Mo hown hK hP hD hS 0 rfl rfl 0 (by decide) (hts _ wd_1088) (fun _ h9 => h9) rfl (by decide +kernel) rfl rfl (Nat.le_of_ble_eq_true rfl) d_Mo_drop_24 (fun H locs hP hD hS => ?_)
    have hP : va_P D classes [(h, .inr (13, mO r 1 (nI n) le lv pg pn pl rs)), (r 1, .inl (cI, 9400, .inl tp))] H := hP
    have hD : va_D A [(h, .inr (13, mO r 1 (nI n) le lv pg pn pl rs)), (r 1, .inl (cI, 9400, .inl tp))] := hD
    refine lv_aload_n hx hb d_Mo_drop_27 rfl (lv_at hl 0 rfl) ?_
    refine va_get (D := D) (ci := 13) (v := .int 1) (C := R_Mo) (T := F_Mo) (N := 54) hx hb hts i_Mo hown hK hP 0 rfl rfl 0 (by decide) (hts _ wd_1088) (fun _ h9 => h9) rfl d_Mo_drop_28 ?_
    refine lv_if_le (tgt := 36) hx hb d_Mo_drop_31 rfl (fun h9 => absurd h9 (by decide)) (fun h31 => ?_)
    refine lv_iconst (v := 0) hx hb d_Mo_drop_34 (by decide) ?_
    have hP9 := hP.sub (ws' := [(h, .inr (13, mO r 1 (nI n) le lv pg pn pl rs)), (r 1, .inl (cI, 9400, .inl tp))]) [0, 1] rfl
    have hD9 := hD.sub (ws' := [(h, .inr (13, mO r 1 (nI n) le lv pg pn pl rs)), (r 1, .inl (cI, 9400, .inl tp))]) [0, 1] (by decide) rfl
    have hK9 := hK.sub (tys' := [(cI, .int)]) [0] rfl
    exact W.iret (v := 0) hx hb hr (fun t ht hW => ⟨⟨_, (1, 0, 0), rfl, Or.inl ⟨rfl, rfl, by first | exact Or.inl h2 | exact Or.inr (Or.inl h6) | exact Or.inr (Or.inr (Int32.not_le.mp h16))⟩, ⟨by rw [ht]; exact hP9, va_K.moved hW.alike hK9, hD9⟩⟩, hS.F ht⟩) hS.2.2 d_Mo_drop_35
  · refine lv_iload_n hx hb d_Mo_drop_5 rfl (lv_at hl 2 rfl) ?_
    refine lv_if_lt (tgt := 19) hx hb d_Mo_drop_6 rfl (fun h6 => ?_) (fun h6 => ?_)
    · refine lv_iconst (v := 1) hx hb d_Mo_drop_19 (by decide) ?_
      refine lv_goto (tgt := 24) hx hb d_Mo_drop_20 rfl ?_
      refine va_put (D := D) (ci := 13) (v := .int 1) (ty := .int) (C := R_Mo) (T := F_Mo) (N := 54) hx hb hts i_Mo t_Mo t_Mo_ok n_Mo hown hK hP hD hS 0 rfl rfl 0 (by decide) (hts _ wd_1088) (fun _ h9 => h9) rfl (by decide +kernel) rfl rfl (Nat.le_of_ble_eq_true rfl) d_Mo_drop_24 (fun H locs hP hD hS => ?_)
      have hP : va_P D classes [(h, .inr (13, mO r 1 (nI n) le lv pg pn pl rs)), (r 1, .inl (cI, 9400, .inl tp))] H := hP
      have hD : va_D A [(h, .inr (13, mO r 1 (nI n) le lv pg pn pl rs)), (r 1, .inl (cI, 9400, .inl tp))] := hD
      refine lv_aload_n hx hb d_Mo_drop_27 rfl (lv_at hl 0 rfl) ?_
      refine va_get (D := D) (ci := 13) (v := .int 1) (C := R_Mo) (T := F_Mo) (N := 54) hx hb hts i_Mo hown hK hP 0 rfl rfl 0 (by decide) (hts _ wd_1088) (fun _ h9 => h9) rfl d_Mo_drop_28 ?_
      refine lv_if_le (tgt := 36) hx hb d_Mo_drop_31 rfl (fun h9 => absurd h9 (by decide)) (fun h31 => ?_)
      refine lv_iconst (v := 0) hx hb d_Mo_drop_34 (by decide) ?_
      have hP9 := hP.sub (ws' := [(h, .inr (13, mO r 1 (nI n) le lv pg pn pl rs)), (r 1, .inl (cI, 9400, .inl tp))]) [0, 1] rfl
      have hD9 := hD.sub (ws' := [(h, .inr (13, mO r 1 (nI n) le lv pg pn pl rs)), (r 1, .inl (cI, 9400, .inl tp))]) [0, 1] (by decide) rfl
      have hK9 := hK.sub (tys' := [(cI, .int)]) [0] rfl
      exact W.iret (v := 0) hx hb hr (fun t ht hW => ⟨⟨_, (1, 0, 0), rfl, Or.inl ⟨rfl, rfl, by first | exact Or.inl h2 | exact Or.inr (Or.inl h6) | exact Or.inr (Or.inr (Int32.not_le.mp h16))⟩, ⟨by rw [ht]; exact hP9, va_K.moved hW.alike hK9, hD9⟩⟩, hS.F ht⟩) hS.2.2 d_Mo_drop_35
    · refine lv_iload_n hx hb d_Mo_drop_9 rfl (lv_at hl 1 rfl) ?_
      refine lv_aload_n hx hb d_Mo_drop_10 rfl (lv_at hl 0 rfl) ?_
      refine va_get (D := D) (ci := 13) (v := .int (nI n)) (C := R_Mo) (T := F_Mo) (N := 54) hx hb hts i_Mo hown hK hP 0 rfl rfl 2 (by decide) (hts _ wd_1090) (fun _ h9 => h9) rfl d_Mo_drop_11 ?_
      refine lv_iload_n hx hb d_Mo_drop_14 rfl (lv_at hl 2 rfl) ?_
      refine lv_isub hx hb d_Mo_drop_15 ?_
      refine lv_icmp_le (tgt := 23) hx hb d_Mo_drop_16 rfl (fun h16 => ?_) (fun h16 => ?_)
      · obtain ⟨q, k, hkq, hcq, hik⟩ := z_drop hn h6 h2 h16
        subst hik
        subst hcq
        refine lv_iconst (v := 0) hx hb d_Mo_drop_23 (by decide) ?_
        refine va_put (D := D) (ci := 13) (v := .int 0) (ty := .int) (C := R_Mo) (T := F_Mo) (N := 54) hx hb hts i_Mo t_Mo t_Mo_ok n_Mo hown hK hP hD hS 0 rfl rfl 0 (by decide) (hts _ wd_1088) (fun _ h9 => h9) rfl (by decide +kernel) rfl rfl (Nat.le_of_ble_eq_true rfl) d_Mo_drop_24 (fun H locs hP hD hS => ?_)
        have hP : va_P D classes [(h, .inr (13, mO r 0 (nI n) le lv pg pn pl rs)), (r 1, .inl (cI, 9400, .inl tp))] H := hP
        have hD : va_D A [(h, .inr (13, mO r 0 (nI n) le lv pg pn pl rs)), (r 1, .inl (cI, 9400, .inl tp))] := hD
        refine lv_aload_n hx hb d_Mo_drop_27 rfl (lv_at hl 0 rfl) ?_
        refine va_get (D := D) (ci := 13) (v := .int 0) (C := R_Mo) (T := F_Mo) (N := 54) hx hb hts i_Mo hown hK hP 0 rfl rfl 0 (by decide) (hts _ wd_1088) (fun _ h9 => h9) rfl d_Mo_drop_28 ?_
        refine lv_if_le (tgt := 36) hx hb d_Mo_drop_31 rfl (fun h31 => ?_) (fun h9 => absurd h9 (by decide))
        refine lv_aload_n hx hb d_Mo_drop_36 rfl (lv_at hl 0 rfl) ?_
        refine lv_iload_n hx hb d_Mo_drop_37 rfl (lv_at hl 1 rfl) ?_
        refine lv_iload_n hx hb d_Mo_drop_38 rfl (lv_at hl 2 rfl) ?_
        have hPc := hP.sub (ws' := [(h, .inr (13, mO r 0 (nI n) le lv pg pn pl rs)), (r 1, .inl (cI, 9400, .inl tp))]) [0, 1] rfl
        have hKc := hK.sub (tys' := [(cI, .int)]) [0] rfl
        have hDc := hD.sub (ws' := [(h, .inr (13, mO r 0 (nI n) le lv pg pn pl rs)), (r 1, .inl (cI, 9400, .inl tp))]) [0, 1] (by decide) rfl
        have hFc := va_free (wc := [(h, .inr (13, mO r 0 (nI n) le lv pg pn pl rs)), (r 1, .inl (cI, 9400, .inl tp))]) hD hS hA [0, 1] rfl
        refine va_callv (va_runV (As := [.int (nI k), .int (nI q)]) (rest := []) ⟨hx, hb, hml, hown, hts⟩ (c_Mo_remove l D H.size cI h r 0 le lv pg pn pl rs n tp k q hn (by omega)) (z_cV hN wd_1277 wd_67 wd_1274 hd_Mo_remove rfl rfl ⟨Nat.le_of_ble_eq_true rfl, Nat.le_of_ble_eq_true rfl⟩ wd_1276 wd_28) (z_preVm (va_recv (ci := 13) (q0 := 0) hK hP rfl rfl) hPc hKc hN hDc) rfl rfl hl.1 rfl (lv_room (Nat.le_of_ble_eq_true rfl)) d_Mo_drop_39 ⟨Nat.le_of_ble_eq_true rfl, Nat.le_of_ble_eq_true rfl⟩) hS (fun q _ h => hFc q h) hFc (fun u39 t H locs ht hvm e39 hB hz1 hk1 hS => ?_)
        obtain ⟨hP1, hK1, hD1⟩ := hB
        rw [ht] at hP1
        obtain ⟨hP, hD⟩ := va_join (wr := []) (w1 := [(h, .inr (13, mO r 0 (nI (n - q)) le lv pg pn pl rs)), (r 1, .inl (cI, 9400, .inl (rm_f tp q k (n - q - k))))]) hP hD [0, 1] [] rfl rfl (by decide) (by decide) hk1 hFc hP1 hD1
        clear hk1 hP1 hD1 hFc hPc hDc hz1
        have hP : va_P D classes [(h, .inr (13, mO r 0 (nI (n - q)) le lv pg pn pl rs)), (r 1, .inl (cI, 9400, .inl (rm_f tp q k (n - q - k))))] H := hP
        have hD : va_D A [(h, .inr (13, mO r 0 (nI (n - q)) le lv pg pn pl rs)), (r 1, .inl (cI, 9400, .inl (rm_f tp q k (n - q - k))))] := hD
        refine lv_aload_n hx hb d_Mo_drop_42 rfl (lv_at hl 0 rfl) ?_
        refine va_get (D := D) (ci := 13) (v := .int (nI (n - q))) (C := R_Mo) (T := F_Mo) (N := 54) hx hb hts i_Mo hown hK hP 0 rfl rfl 2 (by decide) (hts _ wd_1090) (fun _ h9 => h9) rfl d_Mo_drop_43 ?_
        have hP9 := hP.sub (ws' := [(h, .inr (13, mO r 0 (nI (n - q)) le lv pg pn pl rs)), (r 1, .inl (cI, 9400, .inl (rm_f tp q k (n - q - k))))]) [0, 1] rfl
        have hD9 := hD.sub (ws' := [(h, .inr (13, mO r 0 (nI (n - q)) le lv pg pn pl rs)), (r 1, .inl (cI, 9400, .inl (rm_f tp q k (n - q - k))))]) [0, 1] (by decide) rfl
        have hK9 := hK.sub (tys' := [(cI, .int)]) [0] rfl
        exact W.iret (v := (nI (n - q))) hx hb hr (fun t ht hW => ⟨⟨_, (0, k, q), rfl, Or.inr ⟨rfl, rfl, rfl, by show k + q ≤ n; omega, rfl⟩, ⟨by rw [ht]; exact hP9, va_K.moved hW.alike hK9, hD9⟩⟩, hS.F ht⟩) hS.2.2 d_Mo_drop_46
      · refine lv_iconst (v := 1) hx hb d_Mo_drop_19 (by decide) ?_
        refine lv_goto (tgt := 24) hx hb d_Mo_drop_20 rfl ?_
        refine va_put (D := D) (ci := 13) (v := .int 1) (ty := .int) (C := R_Mo) (T := F_Mo) (N := 54) hx hb hts i_Mo t_Mo t_Mo_ok n_Mo hown hK hP hD hS 0 rfl rfl 0 (by decide) (hts _ wd_1088) (fun _ h9 => h9) rfl (by decide +kernel) rfl rfl (Nat.le_of_ble_eq_true rfl) d_Mo_drop_24 (fun H locs hP hD hS => ?_)
        have hP : va_P D classes [(h, .inr (13, mO r 1 (nI n) le lv pg pn pl rs)), (r 1, .inl (cI, 9400, .inl tp))] H := hP
        have hD : va_D A [(h, .inr (13, mO r 1 (nI n) le lv pg pn pl rs)), (r 1, .inl (cI, 9400, .inl tp))] := hD
        refine lv_aload_n hx hb d_Mo_drop_27 rfl (lv_at hl 0 rfl) ?_
        refine va_get (D := D) (ci := 13) (v := .int 1) (C := R_Mo) (T := F_Mo) (N := 54) hx hb hts i_Mo hown hK hP 0 rfl rfl 0 (by decide) (hts _ wd_1088) (fun _ h9 => h9) rfl d_Mo_drop_28 ?_
        refine lv_if_le (tgt := 36) hx hb d_Mo_drop_31 rfl (fun h9 => absurd h9 (by decide)) (fun h31 => ?_)
        refine lv_iconst (v := 0) hx hb d_Mo_drop_34 (by decide) ?_
        have hP9 := hP.sub (ws' := [(h, .inr (13, mO r 1 (nI n) le lv pg pn pl rs)), (r 1, .inl (cI, 9400, .inl tp))]) [0, 1] rfl
        have hD9 := hD.sub (ws' := [(h, .inr (13, mO r 1 (nI n) le lv pg pn pl rs)), (r 1, .inl (cI, 9400, .inl tp))]) [0, 1] (by decide) rfl
        have hK9 := hK.sub (tys' := [(cI, .int)]) [0] rfl
        exact W.iret (v := 0) hx hb hr (fun t ht hW => ⟨⟨_, (1, 0, 0), rfl, Or.inl ⟨rfl, rfl, by first | exact Or.inl h2 | exact Or.inr (Or.inl h6) | exact Or.inr (Or.inr (Int32.not_le.mp h16))⟩, ⟨by rw [ht]; exact hP9, va_K.moved hW.alike hK9, hD9⟩⟩, hS.F ht⟩) hS.2.2 d_Mo_drop_35
set_option maxHeartbeats 4000000 in
set_option maxRecDepth 100000 in
theorem c_Mo_checkOn (l : Launch) (D : va_G) (x v : Int32)  : Met l y_Mo_checkOn [Cond.code y_Mo_checkOn b_Mo_checkOn 5 (some .int)] ({ frames := 0, cells := 0, slots := 0, locals := 0 }) (zP [.int x, .int v] D [] []) (vp_Si (fun r => r = ck_m v x 8)) 0 0 (fun _ => False) := by
  refine Met.ofW (cc := b_Mo_checkOn) (maxL := 5) (ret := (some .int)) (by decide) rfl ?_
  intro p e s m args below meth cd s₁ Bd hml hv
  obtain ⟨rfl, hP, hK, hN⟩ := hv
  have hx := Bd.exec
  have hb := Bd.bytes
  have hr := Bd.returns
  have hts := hN.use (a := ([.int x, .int v]).toArray)
  have hown : s.vm.findClass R_Mo = some m.cls := findClass_of_methodNamed Bd.named
  have hlocks := Bd.notSynchronized
  have hP : va_P D classes [] s.heap := hP
  have hl := lv_entry ([.int x, .int v]) (n := 5) (Nat.le_of_ble_eq_true rfl)
  rw [lg_entry_eq]
  generalize (lg_sl ([.int x, .int v]) ++ List.replicate (5 - (lg_sl ([.int x, .int v])).length) Slot.unset).toArray = ls at hl ⊢
  have hl : lv_has ls 5 [(0, .int x), (1, .int v)] := hl
  refine lv_iload_n hx hb d_Mo_checkOn_0 rfl (lv_at hl 0 rfl) ?_
  refine lv_istore_n (lv' := [(2, .int x), (0, .int x), (1, .int v)]) hx hb d_Mo_checkOn_1 rfl hl (by decide) rfl (fun ls hl => ?_)
  refine lv_bipush (v := 7) hx hb d_Mo_checkOn_2 (by decide) ?_
  refine lv_istore_n (lv' := [(3, .int 7), (2, .int x), (0, .int x), (1, .int v)]) hx hb d_Mo_checkOn_4 rfl hl (by decide) rfl (fun ls hl => ?_)
  have loop5 : ∀ (N : Nat) (j : Nat) (ls : Array Slot) (hm : 8 - j < N) (hj : j ≤ 8) (hl : lv_has ls 5 [(1, .int v), (2, .int (ck_m v x j)), (3, .int (nI 7 - nI j))]), W p l e ({ frames := 0, cells := 0, slots := 0, locals := 0 }) s m ([.int x, .int v]).toArray below meth cd s.heap [] 0 0 (MQ below (vp_Si (fun r => r = ck_m v x 8)) ([.int x, .int v]).toArray s 0 0 (fun _ => False)) (F0 m 5 ls []) := by
    intro N5
    induction N5 with
    | zero => intro j ls hm hj hl; exact absurd hm (Nat.not_lt_zero _)
    | succ N5 ih5 =>
      intro j ls hm hj hl
      refine lv_iload_n hx hb d_Mo_checkOn_5 rfl (lv_at hl 2 rfl) ?_
      refine lv_if_lt (tgt := 46) hx hb d_Mo_checkOn_6 rfl (fun h6 => ?_) (fun h6 => ?_)
      · have h6 : 8 ≤ j := ck_out hj h6
        have hj8 : 8 = j := by omega
        refine lv_iload_n hx hb d_Mo_checkOn_46 rfl (lv_at hl 1 rfl) ?_
        exact W.iret (v := (ck_m v x j)) hx hb hr (fun t ht hW => ⟨_, rfl, (by rw [hj8]), ht⟩) (fun _ h => by cases h) d_Mo_checkOn_47
      · have h6 : ¬ 8 ≤ j := ck_in hj h6
        refine lv_iload_n hx hb d_Mo_checkOn_9 rfl (lv_at hl 1 rfl) ?_
        refine lv_bipush (v := 31) hx hb d_Mo_checkOn_10 (by decide) ?_
        refine lv_iushr (v := ((ck_m v x j).toUInt32 >>> ((31 : Int32).toUInt32 &&& Int32.toUInt32 31)).toInt32) hx hb d_Mo_checkOn_12 rfl ?_
        refine lv_iload_n hx hb d_Mo_checkOn_13 rfl (lv_at hl 0 rfl) ?_
        refine lv_iload_n hx hb d_Mo_checkOn_14 rfl (lv_at hl 2 rfl) ?_
        refine lv_ishr hx hb d_Mo_checkOn_15 ?_
        refine lv_iconst (v := 1) hx hb d_Mo_checkOn_16 (by decide) ?_
        refine lv_iand hx hb d_Mo_checkOn_17 ?_
        refine lv_ixor hx hb d_Mo_checkOn_18 ?_
        refine lv_istore (lv' := [(4, .int ((((ck_m v x j).toUInt32 >>> ((31 : Int32).toUInt32 &&& Int32.toUInt32 31)).toInt32) ^^^ ((v >>> ((nI 7 - nI j) &&& 31)) &&& 1))), (1, .int v), (2, .int (ck_m v x j)), (3, .int (nI 7 - nI j))]) hx hb d_Mo_checkOn_19 hl (by decide) rfl (fun ls hl => ?_)
        refine lv_iload hx hb d_Mo_checkOn_21 (lv_at hl 0 rfl) ?_
        refine lv_iconst (v := 1) hx hb d_Mo_checkOn_23 (by decide) ?_
        refine lv_icmp_ne (tgt := 36) hx hb d_Mo_checkOn_24 rfl (fun h24 => ?_) (fun h24 => ?_)
        · refine lv_iload_n hx hb d_Mo_checkOn_36 rfl (lv_at hl 2 rfl) ?_
          refine lv_iconst (v := 1) hx hb d_Mo_checkOn_37 (by decide) ?_
          refine lv_ishl hx hb d_Mo_checkOn_38 ?_
          refine z_topi (w := ck_m v x (j + 1)) (by first | exact ck_mne h24 | exact ck_meq h24) ?_
          refine lv_istore_n (lv' := [(2, .int (ck_m v x (j + 1))), (4, .int ((((ck_m v x j).toUInt32 >>> ((31 : Int32).toUInt32 &&& Int32.toUInt32 31)).toInt32) ^^^ ((v >>> ((nI 7 - nI j) &&& 31)) &&& 1))), (1, .int v), (3, .int (nI 7 - nI j))]) hx hb d_Mo_checkOn_39 rfl hl (by decide) rfl (fun ls hl => ?_)
          refine lv_iinc (k := 3) (v := nI 7 - nI (j + 1)) (lv' := [(3, .int (nI 7 - nI (j + 1))), (2, .int (ck_m v x (j + 1))), (4, .int ((((ck_m v x j).toUInt32 >>> ((31 : Int32).toUInt32 &&& Int32.toUInt32 31)).toInt32) ^^^ ((v >>> ((nI 7 - nI j) &&& 31)) &&& 1))), (1, .int v)]) hx hb d_Mo_checkOn_40 hl rfl (ck_dec j) (by decide) rfl (fun ls hl => ?_)
          refine lv_goto (tgt := 5) hx hb d_Mo_checkOn_43 rfl ?_
          exact ih5 (j + 1) ls (by omega) (by omega) (lv_sub hl [3, 1, 0] rfl)
        · refine lv_iload_n hx hb d_Mo_checkOn_27 rfl (lv_at hl 2 rfl) ?_
          refine lv_iconst (v := 1) hx hb d_Mo_checkOn_28 (by decide) ?_
          refine lv_ishl hx hb d_Mo_checkOn_29 ?_
          refine lv_ldc hx hb hown (hts _ wd_1285) d_Mo_checkOn_30 ?_
          refine lv_ixor hx hb d_Mo_checkOn_32 ?_
          refine lv_goto (tgt := 39) hx hb d_Mo_checkOn_33 rfl ?_
          refine z_topi (w := ck_m v x (j + 1)) (by first | exact ck_mne h24 | exact ck_meq h24) ?_
          refine lv_istore_n (lv' := [(2, .int (ck_m v x (j + 1))), (4, .int ((((ck_m v x j).toUInt32 >>> ((31 : Int32).toUInt32 &&& Int32.toUInt32 31)).toInt32) ^^^ ((v >>> ((nI 7 - nI j) &&& 31)) &&& 1))), (1, .int v), (3, .int (nI 7 - nI j))]) hx hb d_Mo_checkOn_39 rfl hl (by decide) rfl (fun ls hl => ?_)
          refine lv_iinc (k := 3) (v := nI 7 - nI (j + 1)) (lv' := [(3, .int (nI 7 - nI (j + 1))), (2, .int (ck_m v x (j + 1))), (4, .int ((((ck_m v x j).toUInt32 >>> ((31 : Int32).toUInt32 &&& Int32.toUInt32 31)).toInt32) ^^^ ((v >>> ((nI 7 - nI j) &&& 31)) &&& 1))), (1, .int v)]) hx hb d_Mo_checkOn_40 hl rfl (ck_dec j) (by decide) rfl (fun ls hl => ?_)
          refine lv_goto (tgt := 5) hx hb d_Mo_checkOn_43 rfl ?_
          exact ih5 (j + 1) ls (by omega) (by omega) (lv_sub hl [3, 1, 0] rfl)
  exact loop5 _ 0 ls (Nat.lt_succ_self _) (Nat.zero_le _) (lv_sub hl [3, 1, 0] rfl)
