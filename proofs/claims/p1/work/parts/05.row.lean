theorem wd_61 : (Jvm.Cond.initialized "StreamSplitter$Row") ∈ lw_ok := List.mem_filter.mpr ⟨List.mem_of_getElem? (i := 61) (by decide +kernel), rfl⟩
theorem wd_73 : (Jvm.Cond.initialized "java/lang/System") ∈ lw_ok := List.mem_filter.mpr ⟨List.mem_of_getElem? (i := 73) (by decide +kernel), rfl⟩
theorem wd_92 : (Jvm.Cond.instanceMethod ({ cls := "java/lang/Object", name := "<init>", desc := "()V" } : Jvm.MethodName)) ∈ lw_ok := List.mem_filter.mpr ⟨List.mem_of_getElem? (i := 92) (by decide +kernel), rfl⟩
set_option maxRecDepth 100000 in
theorem wd_93 : (Jvm.Cond.code ({ cls := "java/lang/Object", name := "<init>", desc := "()V" } : Jvm.MethodName) object_method_1_code (1 : Nat) (Option.none : Option Jvm.ClassFile.FieldType)) ∈ lw_ok := List.mem_filter.mpr ⟨List.mem_of_getElem? (i := 93) (by rfl), rfl⟩
theorem wd_105 : (Jvm.Cond.methodLink "StreamSplitter$Row" (1 : Nat) ({ cls := "java/lang/Object", name := "<init>", desc := "()V" } : Jvm.MethodName)) ∈ lw_ok := List.mem_filter.mpr ⟨List.mem_of_getElem? (i := 105) (by decide +kernel), rfl⟩
theorem wd_106 : (Jvm.Cond.fieldLink "StreamSplitter$Row" (7 : Nat) "StreamSplitter$Row" "cells" "[B") ∈ lw_ok := List.mem_filter.mpr ⟨List.mem_of_getElem? (i := 106) (by decide +kernel), rfl⟩
theorem wd_107 : (Jvm.Cond.fieldLink "StreamSplitter$Row" (13 : Nat) "StreamSplitter$Row" "size" "I") ∈ lw_ok := List.mem_filter.mpr ⟨List.mem_of_getElem? (i := 107) (by decide +kernel), rfl⟩
theorem wd_118 : (Jvm.Cond.arrayClass Jvm.ClassFile.FieldType.byte) ∈ lw_ok := List.mem_filter.mpr ⟨List.mem_of_getElem? (i := 118) (by decide +kernel), rfl⟩
theorem wd_210 : (Jvm.Cond.instanceMethod ({ cls := "StreamSplitter$Row", name := "at", desc := "(I)I" } : Jvm.MethodName)) ∈ lw_ok := List.mem_filter.mpr ⟨List.mem_of_getElem? (i := 210) (by decide +kernel), rfl⟩
theorem wd_211 : (Jvm.Cond.selects "StreamSplitter$Row" ({ cls := "StreamSplitter$Row", name := "at", desc := "(I)I" } : Jvm.MethodName) ({ cls := "StreamSplitter$Row", name := "at", desc := "(I)I" } : Jvm.MethodName)) ∈ lw_ok := List.mem_filter.mpr ⟨List.mem_of_getElem? (i := 211) (by decide +kernel), rfl⟩
set_option maxRecDepth 100000 in
theorem wd_212 : (Jvm.Cond.code ({ cls := "StreamSplitter$Row", name := "at", desc := "(I)I" } : Jvm.MethodName) prog_9_method_2_code (2 : Nat) (Option.some Jvm.ClassFile.FieldType.int)) ∈ lw_ok := List.mem_filter.mpr ⟨List.mem_of_getElem? (i := 212) (by rfl), rfl⟩
theorem wd_281 : (Jvm.Cond.methodLink "StreamSplitter$Row" (23 : Nat) ({ cls := "StreamSplitter$Row", name := "at", desc := "(I)I" } : Jvm.MethodName)) ∈ lw_ok := List.mem_filter.mpr ⟨List.mem_of_getElem? (i := 281) (by decide +kernel), rfl⟩
theorem wd_429 : (Jvm.Cond.static ({ cls := "java/lang/System", name := "arraycopy", desc := "(Ljava/lang/Object;ILjava/lang/Object;II)V" } : Jvm.MethodName)) ∈ lw_ok := List.mem_filter.mpr ⟨List.mem_of_getElem? (i := 429) (by decide +kernel), rfl⟩
theorem wd_430 : (Jvm.Cond.native ({ cls := "java/lang/System", name := "arraycopy", desc := "(Ljava/lang/Object;ILjava/lang/Object;II)V" } : Jvm.MethodName)) ∈ lw_ok := List.mem_filter.mpr ⟨List.mem_of_getElem? (i := 430) (by decide +kernel), rfl⟩
theorem wd_547 : (Jvm.Cond.constant "StreamSplitter$Row" (27 : Nat) (79764919 : Int32)) ∈ lw_ok := List.mem_filter.mpr ⟨List.mem_of_getElem? (i := 547) (by decide +kernel), rfl⟩
theorem wd_683 : (Jvm.Cond.methodLink "StreamSplitter$Row" (17 : Nat) ({ cls := "java/lang/System", name := "arraycopy", desc := "(Ljava/lang/Object;ILjava/lang/Object;II)V" } : Jvm.MethodName)) ∈ lw_ok := List.mem_filter.mpr ⟨List.mem_of_getElem? (i := 683) (by decide +kernel), rfl⟩
theorem hd_Row_at : y_Row_at.cls ≠ "java/lang/invoke/MethodHandle" ∧ y_Row_at.cls ≠ "java/lang/invoke/VarHandle" ∧ (parseMethodDescriptor y_Row_at.desc).map (fun d => d.parameters.length) = some 1 := by decide +kernel
theorem d_Row_add_0 : decode b_Row_add 0 = .ok (.aload_n 0, 1) := by decide +kernel
theorem d_Row_add_1 : decode b_Row_add 1 = .ok (.getfield 13, 3) := by decide +kernel
theorem d_Row_add_4 : decode b_Row_add 4 = .ok (.ifCond .lt 36, 3) := by decide +kernel
theorem d_Row_add_7 : decode b_Row_add 7 = .ok (.aload_n 0, 1) := by decide +kernel
theorem d_Row_add_8 : decode b_Row_add 8 = .ok (.getfield 13, 3) := by decide +kernel
theorem d_Row_add_11 : decode b_Row_add 11 = .ok (.aload_n 0, 1) := by decide +kernel
theorem d_Row_add_12 : decode b_Row_add 12 = .ok (.getfield 7, 3) := by decide +kernel
theorem d_Row_add_15 : decode b_Row_add 15 = .ok (.arraylength, 1) := by decide +kernel
theorem d_Row_add_16 : decode b_Row_add 16 = .ok (.if_icmp .ge 24, 3) := by decide +kernel
theorem d_Row_add_19 : decode b_Row_add 19 = .ok (.aload_n 0, 1) := by decide +kernel
theorem d_Row_add_20 : decode b_Row_add 20 = .ok (.getfield 7, 3) := by decide +kernel
theorem d_Row_add_23 : decode b_Row_add 23 = .ok (.aload_n 0, 1) := by decide +kernel
theorem d_Row_add_24 : decode b_Row_add 24 = .ok (.getfield 13, 3) := by decide +kernel
theorem d_Row_add_27 : decode b_Row_add 27 = .ok (.iload_n 1, 1) := by decide +kernel
theorem d_Row_add_28 : decode b_Row_add 28 = .ok (.i2b, 1) := by decide +kernel
theorem d_Row_add_29 : decode b_Row_add 29 = .ok (.bastore, 1) := by decide +kernel
theorem d_Row_add_30 : decode b_Row_add 30 = .ok (.aload_n 0, 1) := by decide +kernel
theorem d_Row_add_31 : decode b_Row_add 31 = .ok (.dup, 1) := by decide +kernel
theorem d_Row_add_32 : decode b_Row_add 32 = .ok (.getfield 13, 3) := by decide +kernel
theorem d_Row_add_35 : decode b_Row_add 35 = .ok (.iconst 1, 1) := by decide +kernel
theorem d_Row_add_36 : decode b_Row_add 36 = .ok (.iadd, 1) := by decide +kernel
theorem d_Row_add_37 : decode b_Row_add 37 = .ok (.putfield 13, 3) := by decide +kernel
theorem d_Row_add_40 : decode b_Row_add 40 = .ok (.return_, 1) := by decide +kernel
theorem d_Row_at_0 : decode b_Row_at 0 = .ok (.iload_n 1, 1) := by decide +kernel
theorem d_Row_at_1 : decode b_Row_at 1 = .ok (.ifCond .lt 33, 3) := by decide +kernel
theorem d_Row_at_4 : decode b_Row_at 4 = .ok (.iload_n 1, 1) := by decide +kernel
theorem d_Row_at_5 : decode b_Row_at 5 = .ok (.aload_n 0, 1) := by decide +kernel
theorem d_Row_at_6 : decode b_Row_at 6 = .ok (.getfield 13, 3) := by decide +kernel
theorem d_Row_at_9 : decode b_Row_at 9 = .ok (.if_icmp .ge 25, 3) := by decide +kernel
theorem d_Row_at_12 : decode b_Row_at 12 = .ok (.iload_n 1, 1) := by decide +kernel
theorem d_Row_at_13 : decode b_Row_at 13 = .ok (.aload_n 0, 1) := by decide +kernel
theorem d_Row_at_14 : decode b_Row_at 14 = .ok (.getfield 7, 3) := by decide +kernel
theorem d_Row_at_17 : decode b_Row_at 17 = .ok (.arraylength, 1) := by decide +kernel
theorem d_Row_at_18 : decode b_Row_at 18 = .ok (.if_icmp .ge 16, 3) := by decide +kernel
theorem d_Row_at_21 : decode b_Row_at 21 = .ok (.aload_n 0, 1) := by decide +kernel
theorem d_Row_at_22 : decode b_Row_at 22 = .ok (.getfield 7, 3) := by decide +kernel
theorem d_Row_at_25 : decode b_Row_at 25 = .ok (.iload_n 1, 1) := by decide +kernel
theorem d_Row_at_26 : decode b_Row_at 26 = .ok (.baload, 1) := by decide +kernel
theorem d_Row_at_27 : decode b_Row_at 27 = .ok (.sipush 255, 3) := by decide +kernel
theorem d_Row_at_30 : decode b_Row_at 30 = .ok (.iand, 1) := by decide +kernel
theorem d_Row_at_31 : decode b_Row_at 31 = .ok (.goto 4, 3) := by decide +kernel
theorem d_Row_at_34 : decode b_Row_at 34 = .ok (.iconst 0, 1) := by decide +kernel
theorem d_Row_at_35 : decode b_Row_at 35 = .ok (.ireturn, 1) := by decide +kernel
theorem d_Row_bit_0 : decode b_Row_bit 0 = .ok (.aload_n 0, 1) := by decide +kernel
theorem d_Row_bit_1 : decode b_Row_bit 1 = .ok (.iload_n 1, 1) := by decide +kernel
theorem d_Row_bit_2 : decode b_Row_bit 2 = .ok (.iconst 3, 1) := by decide +kernel
theorem d_Row_bit_3 : decode b_Row_bit 3 = .ok (.ishr, 1) := by decide +kernel
theorem d_Row_bit_4 : decode b_Row_bit 4 = .ok (.invokevirtual 23, 3) := by decide +kernel
theorem d_Row_bit_7 : decode b_Row_bit 7 = .ok (.bipush 7, 2) := by decide +kernel
theorem d_Row_bit_9 : decode b_Row_bit 9 = .ok (.iload_n 1, 1) := by decide +kernel
theorem d_Row_bit_10 : decode b_Row_bit 10 = .ok (.bipush 7, 2) := by decide +kernel
theorem d_Row_bit_12 : decode b_Row_bit 12 = .ok (.iand, 1) := by decide +kernel
theorem d_Row_bit_13 : decode b_Row_bit 13 = .ok (.isub, 1) := by decide +kernel
theorem d_Row_bit_14 : decode b_Row_bit 14 = .ok (.ishr, 1) := by decide +kernel
theorem d_Row_bit_15 : decode b_Row_bit 15 = .ok (.iconst 1, 1) := by decide +kernel
theorem d_Row_bit_16 : decode b_Row_bit 16 = .ok (.iand, 1) := by decide +kernel
theorem d_Row_bit_17 : decode b_Row_bit 17 = .ok (.iconst 1, 1) := by decide +kernel
theorem d_Row_bit_18 : decode b_Row_bit 18 = .ok (.if_icmp .ne 7, 3) := by decide +kernel
theorem d_Row_bit_21 : decode b_Row_bit 21 = .ok (.iconst 1, 1) := by decide +kernel
theorem d_Row_bit_22 : decode b_Row_bit 22 = .ok (.goto 4, 3) := by decide +kernel
theorem d_Row_bit_25 : decode b_Row_bit 25 = .ok (.iconst 0, 1) := by decide +kernel
theorem d_Row_bit_26 : decode b_Row_bit 26 = .ok (.ireturn, 1) := by decide +kernel
theorem d_Row_bits_0 : decode b_Row_bits 0 = .ok (.lconst 0, 1) := by decide +kernel
theorem d_Row_bits_1 : decode b_Row_bits 1 = .ok (.lstore_n 3, 1) := by decide +kernel
theorem d_Row_bits_2 : decode b_Row_bits 2 = .ok (.iconst 0, 1) := by decide +kernel
theorem d_Row_bits_3 : decode b_Row_bits 3 = .ok (.istore 5, 2) := by decide +kernel
theorem d_Row_bits_5 : decode b_Row_bits 5 = .ok (.iload 5, 2) := by decide +kernel
theorem d_Row_bits_7 : decode b_Row_bits 7 = .ok (.iload_n 2, 1) := by decide +kernel
theorem d_Row_bits_8 : decode b_Row_bits 8 = .ok (.if_icmp .ge 40, 3) := by decide +kernel
theorem d_Row_bits_11 : decode b_Row_bits 11 = .ok (.iload_n 1, 1) := by decide +kernel
theorem d_Row_bits_12 : decode b_Row_bits 12 = .ok (.iload 5, 2) := by decide +kernel
theorem d_Row_bits_14 : decode b_Row_bits 14 = .ok (.iadd, 1) := by decide +kernel
theorem d_Row_bits_15 : decode b_Row_bits 15 = .ok (.istore 6, 2) := by decide +kernel
theorem d_Row_bits_17 : decode b_Row_bits 17 = .ok (.lload_n 3, 1) := by decide +kernel
theorem d_Row_bits_18 : decode b_Row_bits 18 = .ok (.iconst 1, 1) := by decide +kernel
theorem d_Row_bits_19 : decode b_Row_bits 19 = .ok (.lshl, 1) := by decide +kernel
theorem d_Row_bits_20 : decode b_Row_bits 20 = .ok (.aload_n 0, 1) := by decide +kernel
theorem d_Row_bits_21 : decode b_Row_bits 21 = .ok (.iload 6, 2) := by decide +kernel
theorem d_Row_bits_23 : decode b_Row_bits 23 = .ok (.iconst 3, 1) := by decide +kernel
theorem d_Row_bits_24 : decode b_Row_bits 24 = .ok (.ishr, 1) := by decide +kernel
theorem d_Row_bits_25 : decode b_Row_bits 25 = .ok (.invokevirtual 23, 3) := by decide +kernel
theorem d_Row_bits_28 : decode b_Row_bits 28 = .ok (.bipush 7, 2) := by decide +kernel
theorem d_Row_bits_30 : decode b_Row_bits 30 = .ok (.iload 6, 2) := by decide +kernel
theorem d_Row_bits_32 : decode b_Row_bits 32 = .ok (.bipush 7, 2) := by decide +kernel
theorem d_Row_bits_34 : decode b_Row_bits 34 = .ok (.iand, 1) := by decide +kernel
theorem d_Row_bits_35 : decode b_Row_bits 35 = .ok (.isub, 1) := by decide +kernel
theorem d_Row_bits_36 : decode b_Row_bits 36 = .ok (.ishr, 1) := by decide +kernel
theorem d_Row_bits_37 : decode b_Row_bits 37 = .ok (.iconst 1, 1) := by decide +kernel
theorem d_Row_bits_38 : decode b_Row_bits 38 = .ok (.iand, 1) := by decide +kernel
theorem d_Row_bits_39 : decode b_Row_bits 39 = .ok (.i2l, 1) := by decide +kernel
theorem d_Row_bits_40 : decode b_Row_bits 40 = .ok (.lor, 1) := by decide +kernel
theorem d_Row_bits_41 : decode b_Row_bits 41 = .ok (.lstore_n 3, 1) := by decide +kernel
theorem d_Row_bits_42 : decode b_Row_bits 42 = .ok (.iinc 5 1, 3) := by decide +kernel
theorem d_Row_bits_45 : decode b_Row_bits 45 = .ok (.goto (-40), 3) := by decide +kernel
theorem d_Row_bits_48 : decode b_Row_bits 48 = .ok (.lload_n 3, 1) := by decide +kernel
theorem d_Row_bits_49 : decode b_Row_bits 49 = .ok (.lreturn, 1) := by decide +kernel
theorem d_Row_checkOf_0 : decode b_Row_checkOf 0 = .ok (.iconst (-1), 1) := by decide +kernel
theorem d_Row_checkOf_1 : decode b_Row_checkOf 1 = .ok (.istore_n 3, 1) := by decide +kernel
theorem d_Row_checkOf_2 : decode b_Row_checkOf 2 = .ok (.iload_n 1, 1) := by decide +kernel
theorem d_Row_checkOf_3 : decode b_Row_checkOf 3 = .ok (.istore 4, 2) := by decide +kernel
theorem d_Row_checkOf_5 : decode b_Row_checkOf 5 = .ok (.iload 4, 2) := by decide +kernel
theorem d_Row_checkOf_7 : decode b_Row_checkOf 7 = .ok (.iload_n 2, 1) := by decide +kernel
theorem d_Row_checkOf_8 : decode b_Row_checkOf 8 = .ok (.if_icmp .ge 54, 3) := by decide +kernel
theorem d_Row_checkOf_11 : decode b_Row_checkOf 11 = .ok (.iload_n 3, 1) := by decide +kernel
theorem d_Row_checkOf_12 : decode b_Row_checkOf 12 = .ok (.aload_n 0, 1) := by decide +kernel
theorem d_Row_checkOf_13 : decode b_Row_checkOf 13 = .ok (.iload 4, 2) := by decide +kernel
theorem d_Row_checkOf_15 : decode b_Row_checkOf 15 = .ok (.invokevirtual 23, 3) := by decide +kernel
theorem d_Row_checkOf_18 : decode b_Row_checkOf 18 = .ok (.bipush 24, 2) := by decide +kernel
theorem d_Row_checkOf_20 : decode b_Row_checkOf 20 = .ok (.ishl, 1) := by decide +kernel
theorem d_Row_checkOf_21 : decode b_Row_checkOf 21 = .ok (.ixor, 1) := by decide +kernel
theorem d_Row_checkOf_22 : decode b_Row_checkOf 22 = .ok (.istore_n 3, 1) := by decide +kernel
theorem d_Row_checkOf_23 : decode b_Row_checkOf 23 = .ok (.iconst 0, 1) := by decide +kernel
theorem d_Row_checkOf_24 : decode b_Row_checkOf 24 = .ok (.istore 5, 2) := by decide +kernel
theorem d_Row_checkOf_26 : decode b_Row_checkOf 26 = .ok (.iload 5, 2) := by decide +kernel
theorem d_Row_checkOf_28 : decode b_Row_checkOf 28 = .ok (.bipush 8, 2) := by decide +kernel
theorem d_Row_checkOf_30 : decode b_Row_checkOf 30 = .ok (.if_icmp .ge 26, 3) := by decide +kernel
theorem d_Row_checkOf_33 : decode b_Row_checkOf 33 = .ok (.iload_n 3, 1) := by decide +kernel
theorem d_Row_checkOf_34 : decode b_Row_checkOf 34 = .ok (.ifCond .ge 12, 3) := by decide +kernel
theorem d_Row_checkOf_37 : decode b_Row_checkOf 37 = .ok (.iload_n 3, 1) := by decide +kernel
theorem d_Row_checkOf_38 : decode b_Row_checkOf 38 = .ok (.iconst 1, 1) := by decide +kernel
theorem d_Row_checkOf_39 : decode b_Row_checkOf 39 = .ok (.ishl, 1) := by decide +kernel
theorem d_Row_checkOf_40 : decode b_Row_checkOf 40 = .ok (.ldc 27, 2) := by decide +kernel
theorem d_Row_checkOf_42 : decode b_Row_checkOf 42 = .ok (.ixor, 1) := by decide +kernel
theorem d_Row_checkOf_43 : decode b_Row_checkOf 43 = .ok (.goto 6, 3) := by decide +kernel
theorem d_Row_checkOf_46 : decode b_Row_checkOf 46 = .ok (.iload_n 3, 1) := by decide +kernel
theorem d_Row_checkOf_47 : decode b_Row_checkOf 47 = .ok (.iconst 1, 1) := by decide +kernel
theorem d_Row_checkOf_48 : decode b_Row_checkOf 48 = .ok (.ishl, 1) := by decide +kernel
theorem d_Row_checkOf_49 : decode b_Row_checkOf 49 = .ok (.istore_n 3, 1) := by decide +kernel
theorem d_Row_checkOf_50 : decode b_Row_checkOf 50 = .ok (.iinc 5 1, 3) := by decide +kernel
theorem d_Row_checkOf_53 : decode b_Row_checkOf 53 = .ok (.goto (-27), 3) := by decide +kernel
theorem d_Row_checkOf_56 : decode b_Row_checkOf 56 = .ok (.iinc 4 1, 3) := by decide +kernel
theorem d_Row_checkOf_59 : decode b_Row_checkOf 59 = .ok (.goto (-54), 3) := by decide +kernel
theorem d_Row_checkOf_62 : decode b_Row_checkOf 62 = .ok (.iload_n 3, 1) := by decide +kernel
theorem d_Row_checkOf_63 : decode b_Row_checkOf 63 = .ok (.ireturn, 1) := by decide +kernel
theorem d_Row_cut_0 : decode b_Row_cut 0 = .ok (.iload_n 1, 1) := by decide +kernel
theorem d_Row_cut_1 : decode b_Row_cut 1 = .ok (.ifCond .lt 17, 3) := by decide +kernel
theorem d_Row_cut_4 : decode b_Row_cut 4 = .ok (.iload_n 2, 1) := by decide +kernel
theorem d_Row_cut_5 : decode b_Row_cut 5 = .ok (.ifCond .lt 13, 3) := by decide +kernel
theorem d_Row_cut_8 : decode b_Row_cut 8 = .ok (.iload_n 2, 1) := by decide +kernel
theorem d_Row_cut_9 : decode b_Row_cut 9 = .ok (.aload_n 0, 1) := by decide +kernel
theorem d_Row_cut_10 : decode b_Row_cut 10 = .ok (.getfield 13, 3) := by decide +kernel
theorem d_Row_cut_13 : decode b_Row_cut 13 = .ok (.iload_n 1, 1) := by decide +kernel
theorem d_Row_cut_14 : decode b_Row_cut 14 = .ok (.isub, 1) := by decide +kernel
theorem d_Row_cut_15 : decode b_Row_cut 15 = .ok (.if_icmp .le 4, 3) := by decide +kernel
theorem d_Row_cut_19 : decode b_Row_cut 19 = .ok (.aload_n 0, 1) := by decide +kernel
theorem d_Row_cut_20 : decode b_Row_cut 20 = .ok (.getfield 7, 3) := by decide +kernel
theorem d_Row_cut_23 : decode b_Row_cut 23 = .ok (.iload_n 1, 1) := by decide +kernel
theorem d_Row_cut_24 : decode b_Row_cut 24 = .ok (.iload_n 2, 1) := by decide +kernel
theorem d_Row_cut_25 : decode b_Row_cut 25 = .ok (.iadd, 1) := by decide +kernel
theorem d_Row_cut_26 : decode b_Row_cut 26 = .ok (.aload_n 0, 1) := by decide +kernel
theorem d_Row_cut_27 : decode b_Row_cut 27 = .ok (.getfield 7, 3) := by decide +kernel
theorem d_Row_cut_30 : decode b_Row_cut 30 = .ok (.iload_n 1, 1) := by decide +kernel
theorem d_Row_cut_31 : decode b_Row_cut 31 = .ok (.aload_n 0, 1) := by decide +kernel
theorem d_Row_cut_32 : decode b_Row_cut 32 = .ok (.getfield 13, 3) := by decide +kernel
theorem d_Row_cut_35 : decode b_Row_cut 35 = .ok (.iload_n 1, 1) := by decide +kernel
theorem d_Row_cut_36 : decode b_Row_cut 36 = .ok (.isub, 1) := by decide +kernel
theorem d_Row_cut_37 : decode b_Row_cut 37 = .ok (.iload_n 2, 1) := by decide +kernel
theorem d_Row_cut_38 : decode b_Row_cut 38 = .ok (.isub, 1) := by decide +kernel
theorem d_Row_cut_39 : decode b_Row_cut 39 = .ok (.invokestatic 17, 3) := by decide +kernel
theorem d_Row_cut_42 : decode b_Row_cut 42 = .ok (.aload_n 0, 1) := by decide +kernel
theorem d_Row_cut_43 : decode b_Row_cut 43 = .ok (.dup, 1) := by decide +kernel
theorem d_Row_cut_44 : decode b_Row_cut 44 = .ok (.getfield 13, 3) := by decide +kernel
theorem d_Row_cut_47 : decode b_Row_cut 47 = .ok (.iload_n 2, 1) := by decide +kernel
theorem d_Row_cut_48 : decode b_Row_cut 48 = .ok (.isub, 1) := by decide +kernel
theorem d_Row_cut_49 : decode b_Row_cut 49 = .ok (.putfield 13, 3) := by decide +kernel
theorem d_Row_cut_52 : decode b_Row_cut 52 = .ok (.return_, 1) := by decide +kernel
theorem d_Row_init_0 : decode b_Row_init 0 = .ok (.aload_n 0, 1) := by decide +kernel
theorem d_Row_init_1 : decode b_Row_init 1 = .ok (.invokespecial 1, 3) := by decide +kernel
theorem d_Row_init_4 : decode b_Row_init 4 = .ok (.aload_n 0, 1) := by decide +kernel
theorem d_Row_init_5 : decode b_Row_init 5 = .ok (.iload_n 1, 1) := by decide +kernel
theorem d_Row_init_6 : decode b_Row_init 6 = .ok (.newarray .byte, 2) := by decide +kernel
theorem d_Row_init_8 : decode b_Row_init 8 = .ok (.putfield 7, 3) := by decide +kernel
theorem d_Row_init_11 : decode b_Row_init 11 = .ok (.return_, 1) := by decide +kernel
theorem d_Row_put_0 : decode b_Row_put 0 = .ok (.iload_n 1, 1) := by decide +kernel
theorem d_Row_put_1 : decode b_Row_put 1 = .ok (.ifCond .lt 28, 3) := by decide +kernel
theorem d_Row_put_4 : decode b_Row_put 4 = .ok (.iload_n 1, 1) := by decide +kernel
theorem d_Row_put_5 : decode b_Row_put 5 = .ok (.aload_n 0, 1) := by decide +kernel
theorem d_Row_put_6 : decode b_Row_put 6 = .ok (.getfield 13, 3) := by decide +kernel
theorem d_Row_put_9 : decode b_Row_put 9 = .ok (.if_icmp .ge 20, 3) := by decide +kernel
theorem d_Row_put_12 : decode b_Row_put 12 = .ok (.iload_n 1, 1) := by decide +kernel
theorem d_Row_put_13 : decode b_Row_put 13 = .ok (.aload_n 0, 1) := by decide +kernel
theorem d_Row_put_14 : decode b_Row_put 14 = .ok (.getfield 7, 3) := by decide +kernel
theorem d_Row_put_17 : decode b_Row_put 17 = .ok (.arraylength, 1) := by decide +kernel
theorem d_Row_put_18 : decode b_Row_put 18 = .ok (.if_icmp .ge 11, 3) := by decide +kernel
theorem d_Row_put_21 : decode b_Row_put 21 = .ok (.aload_n 0, 1) := by decide +kernel
theorem d_Row_put_22 : decode b_Row_put 22 = .ok (.getfield 7, 3) := by decide +kernel
theorem d_Row_put_25 : decode b_Row_put 25 = .ok (.iload_n 1, 1) := by decide +kernel
theorem d_Row_put_26 : decode b_Row_put 26 = .ok (.iload_n 2, 1) := by decide +kernel
theorem d_Row_put_27 : decode b_Row_put 27 = .ok (.i2b, 1) := by decide +kernel
theorem d_Row_put_28 : decode b_Row_put 28 = .ok (.bastore, 1) := by decide +kernel
theorem d_Row_put_29 : decode b_Row_put 29 = .ok (.return_, 1) := by decide +kernel
/-! Rows of bytes: what Row's methods answer -/
theorem z_ofc {i : Int32} (h : ¬ i < 0) : i = nI i.toNatClampNeg := by
  obtain ⟨j, hj, rfl⟩ := nI_of h
  rw [nI_clamp hj]
theorem z_ltc {i : Int32} {n : Nat} (h : ¬ i < 0) (hn : n < 2 ^ 31) (h2 : ¬ nI n ≤ i) : i.toNatClampNeg < n := by
  obtain ⟨j, hj, rfl⟩ := nI_of h
  rw [nI_clamp hj]
  rw [nI_leI hn hj] at h2
  omega
theorem z_nn {p : Prop} (h : ¬ ¬ p) : p := Classical.byContradiction h
theorem z_shr3 {k : Nat} (h : k < 2 ^ 31) : nI k >>> ((3 : Int32) &&& 31) = nI (k / 8) := pk_shrN h _ 3 (by decide)
theorem z_and7 {k : Nat} (h : k < 2 ^ 32) : nI k &&& 7 = nI (k % 8) := pk_andN h 3 (by decide)
theorem z_nge {c : Int32} (h : 0 ≤ c) : ¬ c < 0 := Int32.not_lt.mpr h
theorem z_nge2 {c : Int32} (h : ¬ 0 ≤ c) : c < 0 := Int32.not_le.mp h
def by8 (v : Int32) : Int32 := v.toInt8.toInt32
/-- Row.at: the byte at a place, 0 where there is none -/
def rw_at (f : Nat → Int32) (n ln : Nat) (i : Int32) : Int32 := if ¬ i < 0 ∧ ¬ nI n ≤ i ∧ ¬ nI ln ≤ i then f i.toNatClampNeg &&& 255 else 0
/-- the bit at a place -/
def rw_bit (f : Nat → Int32) (n ln k : Nat) : Int32 := ((rw_at f n ln (nI (k / 8))) >>> ((7 - nI (k % 8)) &&& 31)) &&& 1
def rw_bits (f : Nat → Int32) (n ln k : Nat) : Nat → Int64
  | 0 => 0
  | c + 1 => (rw_bits f n ln k c <<< ((1 : Int32).toInt64 &&& 63)) ||| (rw_bit f n ln (k + c)).toInt64
def zit {α : Type} (f : α → α) (x : α) : Nat → α
  | 0 => x
  | k + 1 => f (zit f x k)
/-- one bit of the check -/
def ck_s (c : Int32) : Int32 := if c < 0 then (c <<< ((1 : Int32) &&& 31)) ^^^ 79764919 else c <<< ((1 : Int32) &&& 31)
def rw_ck (f : Nat → Int32) (n ln k : Nat) : Nat → Int32
  | 0 => -1
  | c + 1 => zit ck_s (rw_ck f n ln k c ^^^ rw_at f n ln (nI (k + c)) <<< ((24 : Int32) &&& 31)) 8
theorem ck_ge {c : Int32} (h : 0 ≤ c) : c <<< ((1 : Int32) &&& 31) = ck_s c := by
  unfold ck_s
  rw [if_neg (z_nge h)]
theorem ck_lt {c : Int32} (h : ¬ 0 ≤ c) : (c <<< ((1 : Int32) &&& 31)) ^^^ 79764919 = ck_s c := by
  unfold ck_s
  rw [if_pos (z_nge2 h)]

set_option maxHeartbeats 4000000 in
set_option maxRecDepth 100000 in
theorem c_Row_at (l : Launch) (D : va_G) (cB : ClassId) (h a n ln : Nat) (f : Nat → Int32) (i : Int32) (hln : ln < 2 ^ 31) : Met l y_Row_at [Cond.code y_Row_at b_Row_at 2 (some .int)] ({ frames := 0, cells := 0, slots := 0, locals := 0 }) (zP [.ref h, .int i] D [(h, .inr (0, [.ref a, .int (nI n)])), (a, .inl (cB, ln, .inl f))] [(cB, .byte)]) (vp_Si (fun r => r = rw_at f n ln i)) 0 0 (fun _ => False) := by
  refine Met.ofW (cc := b_Row_at) (maxL := 2) (ret := (some .int)) (by decide) rfl ?_
  intro p e s m args below meth cd s₁ Bd hml hv
  obtain ⟨rfl, hP, hK, hN⟩ := hv
  have hx := Bd.exec
  have hb := Bd.bytes
  have hr := Bd.returns
  have hts := hN.use (a := ([.ref h, .int i]).toArray)
  have hown : s.vm.findClass R_Row = some m.cls := findClass_of_methodNamed Bd.named
  have hlocks := Bd.notSynchronized
  have hP : va_P D classes [(h, .inr (0, [.ref a, .int (nI n)])), (a, .inl (cB, ln, .inl f))] s.heap := hP
  have hl := lv_entry ([.ref h, .int i]) (n := 2) (Nat.le_of_ble_eq_true rfl)
  rw [lg_entry_eq]
  generalize (lg_sl ([.ref h, .int i]) ++ List.replicate (2 - (lg_sl ([.ref h, .int i])).length) Slot.unset).toArray = ls at hl ⊢
  have hl : lv_has ls 2 [(0, .ref h), (1, .int i)] := hl
  refine lv_iload_n hx hb d_Row_at_0 rfl (lv_at hl 1 rfl) ?_
  refine lv_if_lt (tgt := 34) hx hb d_Row_at_1 rfl (fun h1 => ?_) (fun h1 => ?_)
  · refine lv_iconst (v := 0) hx hb d_Row_at_34 (by decide) ?_
    exact W.iret (v := 0) hx hb hr (fun t ht hW => ⟨_, rfl, by unfold rw_at; simp [*], ht⟩) (fun _ h => by cases h) d_Row_at_35
  · refine lv_iload_n hx hb d_Row_at_4 rfl (lv_at hl 1 rfl) ?_
    refine lv_aload_n hx hb d_Row_at_5 rfl (lv_at hl 0 rfl) ?_
    refine va_get (D := D) (ci := 0) (v := .int (nI n)) (C := R_Row) (T := F_Row) (N := 2) hx hb hts i_Row hown hK hP 0 rfl rfl 1 (by decide) (hts _ wd_107) (fun _ h9 => h9) rfl d_Row_at_6 ?_
    refine lv_icmp_ge (tgt := 34) hx hb d_Row_at_9 rfl (fun h9 => ?_) (fun h9 => ?_)
    · refine lv_iconst (v := 0) hx hb d_Row_at_34 (by decide) ?_
      exact W.iret (v := 0) hx hb hr (fun t ht hW => ⟨_, rfl, by unfold rw_at; simp [*], ht⟩) (fun _ h => by cases h) d_Row_at_35
    · refine lv_iload_n hx hb d_Row_at_12 rfl (lv_at hl 1 rfl) ?_
      refine lv_aload_n hx hb d_Row_at_13 rfl (lv_at hl 0 rfl) ?_
      refine va_get (D := D) (ci := 0) (v := .ref a) (C := R_Row) (T := F_Row) (N := 2) hx hb hts i_Row hown hK hP 0 rfl rfl 0 (by decide) (hts _ wd_106) (fun _ h9 => h9) rfl d_Row_at_14 ?_
      refine va_alen (v := nI ln) hx hb hK hP 1 0 rfl rfl rfl d_Row_at_17 ?_
      refine lv_icmp_ge (tgt := 34) hx hb d_Row_at_18 rfl (fun h18 => ?_) (fun h18 => ?_)
      · refine lv_iconst (v := 0) hx hb d_Row_at_34 (by decide) ?_
        exact W.iret (v := 0) hx hb hr (fun t ht hW => ⟨_, rfl, by unfold rw_at; simp [*], ht⟩) (fun _ h => by cases h) d_Row_at_35
      · refine lv_aload_n hx hb d_Row_at_21 rfl (lv_at hl 0 rfl) ?_
        refine va_get (D := D) (ci := 0) (v := .ref a) (C := R_Row) (T := F_Row) (N := 2) hx hb hts i_Row hown hK hP 0 rfl rfl 0 (by decide) (hts _ wd_106) (fun _ h9 => h9) rfl d_Row_at_22 ?_
        refine lv_iload_n hx hb d_Row_at_25 rfl (lv_at hl 1 rfl) ?_
        refine z_bald hx hb hK hP 1 0 rfl rfl i.toNatClampNeg (z_ofc h1) (z_ltc h1 hln h18) hln d_Row_at_26 ?_
        refine lv_sipush (v := 255) hx hb d_Row_at_27 (by decide) ?_
        refine lv_iand hx hb d_Row_at_30 ?_
        refine lv_goto (tgt := 35) hx hb d_Row_at_31 rfl ?_
        exact W.iret (v := ((f i.toNatClampNeg) &&& 255)) hx hb hr (fun t ht hW => ⟨_, rfl, by unfold rw_at; simp [*], ht⟩) (fun _ h => by cases h) d_Row_at_35
set_option maxHeartbeats 4000000 in
set_option maxRecDepth 100000 in
theorem c_Row_init (l : Launch) (D : va_G) (sz : Nat) (cB : ClassId) (h ln : Nat) (hln : ln < 2 ^ 24) : Met l y_Row_init [Cond.code y_Row_init b_Row_init 2 none] ({ frames := 1, cells := 1, slots := ln, locals := 12 }) (zM [.ref h, .int (nI ln)] D [(h, .inr (0, [.null, .int 0]))] [(cB, .byte)] sz) (va_Qv (fun (u : Nat) => True) (fun (u : Nat) t => zW D (va_A [(h, .inr (0, [.null, .int 0]))] sz) [(h, .inr (0, [.ref u, .int 0])), (u, .inl (cB, ln, .inl (fun _ => 0)))] [(cB, .byte)] t) (va_A [(h, .inr (0, [.null, .int 0]))] sz)) 1 ln (va_A [(h, .inr (0, [.null, .int 0]))] sz) := by
  refine Met.ofW (cc := b_Row_init) (maxL := 2) (ret := none) (by decide) rfl ?_
  intro p e s m args below meth cd s₁ Bd hml hv
  obtain ⟨rfl, hsz, hP, hK, hN, hD0⟩ := hv
  have hx := Bd.exec
  have hb := Bd.bytes
  have hr := Bd.returns
  have hts := hN.use (a := ([.ref h, .int (nI ln)]).toArray)
  have hown : s.vm.findClass R_Row = some m.cls := findClass_of_methodNamed Bd.named
  have hlocks := Bd.notSynchronized
  have hin : meth.name = "<init>" := (name_of_methodNamed Bd.named Bd.method).1
  subst hsz
  have hD := hD0.self (sz := s.heap.size)
  clear hD0
  have hA : ∀ q : Nat, s.heap.size ≤ q → va_A [(h, .inr (0, [.null, .int 0]))] s.heap.size q := fun q h => Or.inr h
  have hS : va_S (va_A [(h, .inr (0, [.null, .int 0]))] s.heap.size) s.heap s.heap [] := va_S.rf
  generalize hAe : va_A [(h, .inr (0, [.null, .int 0]))] s.heap.size = A at hD hA hS ⊢
  have hP : va_P D classes [(h, .inr (0, [.null, .int 0]))] s.heap := hP
  have hl := lv_entry ([.ref h, .int (nI ln)]) (n := 2) (Nat.le_of_ble_eq_true rfl)
  rw [lg_entry_eq]
  generalize (lg_sl ([.ref h, .int (nI ln)]) ++ List.replicate (2 - (lg_sl ([.ref h, .int (nI ln)])).length) Slot.unset).toArray = ls at hl ⊢
  have hl : lv_has ls 2 [(0, .ref h), (1, .int (nI ln))] := hl
  refine lv_aload_n hx hb d_Row_init_0 rfl (lv_at hl 0 rfl) ?_
  refine W.objInit hx hb hown (hts _ wd_105) (hts _ wd_92) (hts _ wd_93) rfl (by rw [hml]; exact hl.1) rfl d_Row_init_1 (Nat.le_of_ble_eq_true rfl) (Nat.le_of_ble_eq_true rfl) ?_
  refine W.eq (g2 := F0 m 4 ls []) rfl ?_
  refine lv_aload_n hx hb d_Row_init_4 rfl (lv_at hl 0 rfl) ?_
  refine lv_iload_n hx hb d_Row_init_5 rfl (lv_at hl 1 rfl) ?_
  refine z_newa (D := D) (atype := .byte) (ty := .byte) (N' := ln) (a0 := (ln, .inl (fun _ => 0))) hx hb (hts _ wd_118) rfl hK hP hD hS hA 0 rfl (fun _ h => h) (fun _ => rfl) (nI_pos (by omega)) (nI_clamp (by omega)) (by show _ * _ ≤ _; simp [componentBytes]; omega) (by show 0 + 1 ≤ 1; omega) (by show 0 + ln ≤ ln; omega) d_Row_init_6 (fun q6 H hP hD hS => ?_)
  have hP : va_P D classes [(h, .inr (0, [.null, .int 0])), (q6, .inl (cB, ln, .inl (fun _ => 0)))] H := hP
  have hD : va_D A [(h, .inr (0, [.null, .int 0])), (q6, .inl (cB, ln, .inl (fun _ => 0)))] := hD
  refine va_putF (D := D) (ci := 0) (v := .ref q6) (ty := (.array .byte)) (C := R_Row) (T := F_Row) (N := 2) hx hb hts i_Row t_Row t_Row_ok n_Row hown hK hP hD hS 0 rfl rfl 0 (by decide) (hts _ wd_106) (fun _ h9 => h9) rfl hin rfl (by decide +kernel) rfl rfl (Nat.le_of_ble_eq_true rfl) d_Row_init_8 (fun H locs hP hD hS => ?_)
  have hP : va_P D classes [(h, .inr (0, [.ref q6, .int 0])), (q6, .inl (cB, ln, .inl (fun _ => 0)))] H := hP
  have hD : va_D A [(h, .inr (0, [.ref q6, .int 0])), (q6, .inl (cB, ln, .inl (fun _ => 0)))] := hD
  have hP9 := hP.sub (ws' := [(h, .inr (0, [.ref q6, .int 0])), (q6, .inl (cB, ln, .inl (fun _ => 0)))]) [0, 1] rfl
  have hD9 := hD.sub (ws' := [(h, .inr (0, [.ref q6, .int 0])), (q6, .inl (cB, ln, .inl (fun _ => 0)))]) [0, 1] (by decide) rfl
  have hK9 := hK.sub (tys' := [(cB, .byte)]) [0] rfl
  refine W.widen (k := 1) (n := ln) (by omega) (by omega) ?_
  exact W.vret hx hb hr (fun t ht hW => ⟨⟨q6, rfl, trivial, ⟨by rw [ht]; exact hP9, va_K.moved hW.alike hK9, hD9⟩⟩, hS.F ht⟩) hS.2.2 d_Row_init_11
set_option maxHeartbeats 4000000 in
set_option maxRecDepth 100000 in
theorem c_Row_put (l : Launch) (D : va_G) (sz : Nat) (cB : ClassId) (h a n ln : Nat) (f : Nat → Int32) (k : Nat) (v : Int32) (hln : ln < 2 ^ 31) (hn : n ≤ ln) (hk : k < n) : Met l y_Row_put [Cond.code y_Row_put b_Row_put 3 none] ({ frames := 0, cells := 0, slots := 0, locals := 0 }) (zM [.ref h, .int (nI k), .int v] D [(h, .inr (0, [.ref a, .int (nI n)])), (a, .inl (cB, ln, .inl f))] [(cB, .byte)] sz) (va_Qv (fun _ : Unit => True) (fun (_u : Unit) t => zW D (va_A [(h, .inr (0, [.ref a, .int (nI n)])), (a, .inl (cB, ln, .inl f))] sz) [(h, .inr (0, [.ref a, .int (nI n)])), (a, .inl (cB, ln, .inl (upd f k (by8 v))))] [(cB, .byte)] t) (va_A [(h, .inr (0, [.ref a, .int (nI n)])), (a, .inl (cB, ln, .inl f))] sz)) 0 0 (va_A [(h, .inr (0, [.ref a, .int (nI n)])), (a, .inl (cB, ln, .inl f))] sz) := by
  refine Met.ofW (cc := b_Row_put) (maxL := 3) (ret := none) (by decide) rfl ?_
  intro p e s m args below meth cd s₁ Bd hml hv
  obtain ⟨rfl, hsz, hP, hK, hN, hD0⟩ := hv
  have hx := Bd.exec
  have hb := Bd.bytes
  have hr := Bd.returns
  have hts := hN.use (a := ([.ref h, .int (nI k), .int v]).toArray)
  have hown : s.vm.findClass R_Row = some m.cls := findClass_of_methodNamed Bd.named
  have hlocks := Bd.notSynchronized
  subst hsz
  have hD := hD0.self (sz := s.heap.size)
  clear hD0
  have hA : ∀ q : Nat, s.heap.size ≤ q → va_A [(h, .inr (0, [.ref a, .int (nI n)])), (a, .inl (cB, ln, .inl f))] s.heap.size q := fun q h => Or.inr h
  have hS : va_S (va_A [(h, .inr (0, [.ref a, .int (nI n)])), (a, .inl (cB, ln, .inl f))] s.heap.size) s.heap s.heap [] := va_S.rf
  generalize hAe : va_A [(h, .inr (0, [.ref a, .int (nI n)])), (a, .inl (cB, ln, .inl f))] s.heap.size = A at hD hA hS ⊢
  have hP : va_P D classes [(h, .inr (0, [.ref a, .int (nI n)])), (a, .inl (cB, ln, .inl f))] s.heap := hP
  have hl := lv_entry ([.ref h, .int (nI k), .int v]) (n := 3) (Nat.le_of_ble_eq_true rfl)
  rw [lg_entry_eq]
  generalize (lg_sl ([.ref h, .int (nI k), .int v]) ++ List.replicate (3 - (lg_sl ([.ref h, .int (nI k), .int v])).length) Slot.unset).toArray = ls at hl ⊢
  have hl : lv_has ls 3 [(0, .ref h), (1, .int (nI k)), (2, .int v)] := hl
  refine lv_iload_n hx hb d_Row_put_0 rfl (lv_at hl 1 rfl) ?_
  refine lv_if_lt (tgt := 29) hx hb d_Row_put_1 rfl (fun h9 => absurd h9 (nI_pos (by omega))) (fun h1 => ?_)
  refine lv_iload_n hx hb d_Row_put_4 rfl (lv_at hl 1 rfl) ?_
  refine lv_aload_n hx hb d_Row_put_5 rfl (lv_at hl 0 rfl) ?_
  refine va_get (D := D) (ci := 0) (v := .int (nI n)) (C := R_Row) (T := F_Row) (N := 2) hx hb hts i_Row hown hK hP 0 rfl rfl 1 (by decide) (hts _ wd_107) (fun _ h9 => h9) rfl d_Row_put_6 ?_
  refine lv_icmp_ge (tgt := 29) hx hb d_Row_put_9 rfl (fun h9 => absurd h9 (nI_ge hk (by omega))) (fun h9 => ?_)
  refine lv_iload_n hx hb d_Row_put_12 rfl (lv_at hl 1 rfl) ?_
  refine lv_aload_n hx hb d_Row_put_13 rfl (lv_at hl 0 rfl) ?_
  refine va_get (D := D) (ci := 0) (v := .ref a) (C := R_Row) (T := F_Row) (N := 2) hx hb hts i_Row hown hK hP 0 rfl rfl 0 (by decide) (hts _ wd_106) (fun _ h9 => h9) rfl d_Row_put_14 ?_
  refine va_alen (v := nI ln) hx hb hK hP 1 0 rfl rfl rfl d_Row_put_17 ?_
  refine lv_icmp_ge (tgt := 29) hx hb d_Row_put_18 rfl (fun h9 => absurd h9 (nI_ge (by omega) hln)) (fun h18 => ?_)
  refine lv_aload_n hx hb d_Row_put_21 rfl (lv_at hl 0 rfl) ?_
  refine va_get (D := D) (ci := 0) (v := .ref a) (C := R_Row) (T := F_Row) (N := 2) hx hb hts i_Row hown hK hP 0 rfl rfl 0 (by decide) (hts _ wd_106) (fun _ h9 => h9) rfl d_Row_put_22 ?_
  refine lv_iload_n hx hb d_Row_put_25 rfl (lv_at hl 1 rfl) ?_
  refine lv_iload_n hx hb d_Row_put_26 rfl (lv_at hl 2 rfl) ?_
  refine lv_i2b (v := v.toInt8.toInt32) hx hb d_Row_put_27 rfl ?_
  refine z_bast hx hb hK hP hD hS 1 0 rfl rfl k rfl (by omega) (by omega) d_Row_put_28 (fun H locs hP hD hS => ?_)
  have hP : va_P D classes [(h, .inr (0, [.ref a, .int (nI n)])), (a, .inl (cB, ln, .inl (upd f k (vp_nar .byte v.toInt8.toInt32))))] H := hP
  have hD : va_D A [(h, .inr (0, [.ref a, .int (nI n)])), (a, .inl (cB, ln, .inl (upd f k (vp_nar .byte v.toInt8.toInt32))))] := hD
  rw [show upd f k (vp_nar .byte v.toInt8.toInt32) = upd f k (by8 v) from by rw [pk_vb]; rfl] at hP hD
  have hP : va_P D classes [(h, .inr (0, [.ref a, .int (nI n)])), (a, .inl (cB, ln, .inl (upd f k (by8 v))))] H := hP
  have hD : va_D A [(h, .inr (0, [.ref a, .int (nI n)])), (a, .inl (cB, ln, .inl (upd f k (by8 v))))] := hD
  have hP9 := hP.sub (ws' := [(h, .inr (0, [.ref a, .int (nI n)])), (a, .inl (cB, ln, .inl (upd f k (by8 v))))]) [0, 1] rfl
  have hD9 := hD.sub (ws' := [(h, .inr (0, [.ref a, .int (nI n)])), (a, .inl (cB, ln, .inl (upd f k (by8 v))))]) [0, 1] (by decide) rfl
  have hK9 := hK.sub (tys' := [(cB, .byte)]) [0] rfl
  exact W.vret hx hb hr (fun t ht hW => ⟨⟨(), rfl, trivial, ⟨by rw [ht]; exact hP9, va_K.moved hW.alike hK9, hD9⟩⟩, hS.F ht⟩) hS.2.2 d_Row_put_29
set_option maxHeartbeats 4000000 in
set_option maxRecDepth 100000 in
theorem c_Row_add (l : Launch) (D : va_G) (sz : Nat) (cB : ClassId) (h a n ln : Nat) (f : Nat → Int32) (v : Int32) (hln : ln < 2 ^ 31) (hn : n < ln) : Met l y_Row_add [Cond.code y_Row_add b_Row_add 2 none] ({ frames := 0, cells := 0, slots := 0, locals := 0 }) (zM [.ref h, .int v] D [(h, .inr (0, [.ref a, .int (nI n)])), (a, .inl (cB, ln, .inl f))] [(cB, .byte)] sz) (va_Qv (fun _ : Unit => True) (fun (_u : Unit) t => zW D (va_A [(h, .inr (0, [.ref a, .int (nI n)])), (a, .inl (cB, ln, .inl f))] sz) [(h, .inr (0, [.ref a, .int (nI (n + 1))])), (a, .inl (cB, ln, .inl (upd f n (by8 v))))] [(cB, .byte)] t) (va_A [(h, .inr (0, [.ref a, .int (nI n)])), (a, .inl (cB, ln, .inl f))] sz)) 0 0 (va_A [(h, .inr (0, [.ref a, .int (nI n)])), (a, .inl (cB, ln, .inl f))] sz) := by
  refine Met.ofW (cc := b_Row_add) (maxL := 2) (ret := none) (by decide) rfl ?_
  intro p e s m args below meth cd s₁ Bd hml hv
  obtain ⟨rfl, hsz, hP, hK, hN, hD0⟩ := hv
  have hx := Bd.exec
  have hb := Bd.bytes
  have hr := Bd.returns
  have hts := hN.use (a := ([.ref h, .int v]).toArray)
  have hown : s.vm.findClass R_Row = some m.cls := findClass_of_methodNamed Bd.named
  have hlocks := Bd.notSynchronized
  subst hsz
  have hD := hD0.self (sz := s.heap.size)
  clear hD0
  have hA : ∀ q : Nat, s.heap.size ≤ q → va_A [(h, .inr (0, [.ref a, .int (nI n)])), (a, .inl (cB, ln, .inl f))] s.heap.size q := fun q h => Or.inr h
  have hS : va_S (va_A [(h, .inr (0, [.ref a, .int (nI n)])), (a, .inl (cB, ln, .inl f))] s.heap.size) s.heap s.heap [] := va_S.rf
  generalize hAe : va_A [(h, .inr (0, [.ref a, .int (nI n)])), (a, .inl (cB, ln, .inl f))] s.heap.size = A at hD hA hS ⊢
  have hP : va_P D classes [(h, .inr (0, [.ref a, .int (nI n)])), (a, .inl (cB, ln, .inl f))] s.heap := hP
  have hl := lv_entry ([.ref h, .int v]) (n := 2) (Nat.le_of_ble_eq_true rfl)
  rw [lg_entry_eq]
  generalize (lg_sl ([.ref h, .int v]) ++ List.replicate (2 - (lg_sl ([.ref h, .int v])).length) Slot.unset).toArray = ls at hl ⊢
  have hl : lv_has ls 2 [(0, .ref h), (1, .int v)] := hl
  refine lv_aload_n hx hb d_Row_add_0 rfl (lv_at hl 0 rfl) ?_
  refine va_get (D := D) (ci := 0) (v := .int (nI n)) (C := R_Row) (T := F_Row) (N := 2) hx hb hts i_Row hown hK hP 0 rfl rfl 1 (by decide) (hts _ wd_107) (fun _ h9 => h9) rfl d_Row_add_1 ?_
  refine lv_if_lt (tgt := 40) hx hb d_Row_add_4 rfl (fun h9 => absurd h9 (nI_pos (by omega))) (fun h4 => ?_)
  refine lv_aload_n hx hb d_Row_add_7 rfl (lv_at hl 0 rfl) ?_
  refine va_get (D := D) (ci := 0) (v := .int (nI n)) (C := R_Row) (T := F_Row) (N := 2) hx hb hts i_Row hown hK hP 0 rfl rfl 1 (by decide) (hts _ wd_107) (fun _ h9 => h9) rfl d_Row_add_8 ?_
  refine lv_aload_n hx hb d_Row_add_11 rfl (lv_at hl 0 rfl) ?_
  refine va_get (D := D) (ci := 0) (v := .ref a) (C := R_Row) (T := F_Row) (N := 2) hx hb hts i_Row hown hK hP 0 rfl rfl 0 (by decide) (hts _ wd_106) (fun _ h9 => h9) rfl d_Row_add_12 ?_
  refine va_alen (v := nI ln) hx hb hK hP 1 0 rfl rfl rfl d_Row_add_15 ?_
  refine lv_icmp_ge (tgt := 40) hx hb d_Row_add_16 rfl (fun h9 => absurd h9 (nI_ge hn hln)) (fun h16 => ?_)
  refine lv_aload_n hx hb d_Row_add_19 rfl (lv_at hl 0 rfl) ?_
  refine va_get (D := D) (ci := 0) (v := .ref a) (C := R_Row) (T := F_Row) (N := 2) hx hb hts i_Row hown hK hP 0 rfl rfl 0 (by decide) (hts _ wd_106) (fun _ h9 => h9) rfl d_Row_add_20 ?_
  refine lv_aload_n hx hb d_Row_add_23 rfl (lv_at hl 0 rfl) ?_
  refine va_get (D := D) (ci := 0) (v := .int (nI n)) (C := R_Row) (T := F_Row) (N := 2) hx hb hts i_Row hown hK hP 0 rfl rfl 1 (by decide) (hts _ wd_107) (fun _ h9 => h9) rfl d_Row_add_24 ?_
  refine lv_iload_n hx hb d_Row_add_27 rfl (lv_at hl 1 rfl) ?_
  refine lv_i2b (v := v.toInt8.toInt32) hx hb d_Row_add_28 rfl ?_
  refine z_bast hx hb hK hP hD hS 1 0 rfl rfl n rfl (by omega) (by omega) d_Row_add_29 (fun H locs hP hD hS => ?_)
  have hP : va_P D classes [(h, .inr (0, [.ref a, .int (nI n)])), (a, .inl (cB, ln, .inl (upd f n (vp_nar .byte v.toInt8.toInt32))))] H := hP
  have hD : va_D A [(h, .inr (0, [.ref a, .int (nI n)])), (a, .inl (cB, ln, .inl (upd f n (vp_nar .byte v.toInt8.toInt32))))] := hD
  rw [show upd f n (vp_nar .byte v.toInt8.toInt32) = upd f n (by8 v) from by rw [pk_vb]; rfl] at hP hD
  have hP : va_P D classes [(h, .inr (0, [.ref a, .int (nI n)])), (a, .inl (cB, ln, .inl (upd f n (by8 v))))] H := hP
  have hD : va_D A [(h, .inr (0, [.ref a, .int (nI n)])), (a, .inl (cB, ln, .inl (upd f n (by8 v))))] := hD
  refine lv_aload_n hx hb d_Row_add_30 rfl (lv_at hl 0 rfl) ?_
  refine lv_dup hx hb d_Row_add_31 rfl ?_
  refine va_get (D := D) (ci := 0) (v := .int (nI n)) (C := R_Row) (T := F_Row) (N := 2) hx hb hts i_Row hown hK hP 0 rfl rfl 1 (by decide) (hts _ wd_107) (fun _ h9 => h9) rfl d_Row_add_32 ?_
  refine lv_iconst (v := 1) hx hb d_Row_add_35 (by decide) ?_
  refine lv_iadd hx hb d_Row_add_36 ?_
  refine z_topi (w := nI (n + 1)) (nI_1 n) ?_
  refine va_put (D := D) (ci := 0) (v := .int (nI (n + 1))) (ty := .int) (C := R_Row) (T := F_Row) (N := 2) hx hb hts i_Row t_Row t_Row_ok n_Row hown hK hP hD hS 0 rfl rfl 1 (by decide) (hts _ wd_107) (fun _ h9 => h9) rfl (by decide +kernel) rfl rfl (Nat.le_of_ble_eq_true rfl) d_Row_add_37 (fun H locs hP hD hS => ?_)
  have hP : va_P D classes [(h, .inr (0, [.ref a, .int (nI (n + 1))])), (a, .inl (cB, ln, .inl (upd f n (by8 v))))] H := hP
  have hD : va_D A [(h, .inr (0, [.ref a, .int (nI (n + 1))])), (a, .inl (cB, ln, .inl (upd f n (by8 v))))] := hD
  have hP9 := hP.sub (ws' := [(h, .inr (0, [.ref a, .int (nI (n + 1))])), (a, .inl (cB, ln, .inl (upd f n (by8 v))))]) [0, 1] rfl
  have hD9 := hD.sub (ws' := [(h, .inr (0, [.ref a, .int (nI (n + 1))])), (a, .inl (cB, ln, .inl (upd f n (by8 v))))]) [0, 1] (by decide) rfl
  have hK9 := hK.sub (tys' := [(cB, .byte)]) [0] rfl
  exact W.vret hx hb hr (fun t ht hW => ⟨⟨(), rfl, trivial, ⟨by rw [ht]; exact hP9, va_K.moved hW.alike hK9, hD9⟩⟩, hS.F ht⟩) hS.2.2 d_Row_add_40
set_option maxHeartbeats 4000000 in
set_option maxRecDepth 100000 in
theorem c_Row_cut (l : Launch) (D : va_G) (sz : Nat) (cB : ClassId) (h a n ln : Nat) (f : Nat → Int32) (k c : Nat) (hln : ln < 2 ^ 31) (hn : n ≤ ln) (hk : k + c ≤ n) (hf : sb_Fit f) : Met l y_Row_cut [Cond.code y_Row_cut b_Row_cut 3 none] ({ frames := 1, cells := 0, slots := 0, locals := 18 }) (zM [.ref h, .int (nI k), .int (nI c)] D [(h, .inr (0, [.ref a, .int (nI n)])), (a, .inl (cB, ln, .inl f))] [(cB, .byte)] sz) (va_Qv (fun _ : Unit => True) (fun (_u : Unit) t => zW D (va_A [(h, .inr (0, [.ref a, .int (nI n)])), (a, .inl (cB, ln, .inl f))] sz) [(h, .inr (0, [.ref a, .int (nI (n - c))])), (a, .inl (cB, ln, .inl (va_cpy f f (k + c) k (n - k - c))))] [(cB, .byte)] t) (va_A [(h, .inr (0, [.ref a, .int (nI n)])), (a, .inl (cB, ln, .inl f))] sz)) 0 0 (va_A [(h, .inr (0, [.ref a, .int (nI n)])), (a, .inl (cB, ln, .inl f))] sz) := by
  refine Met.ofW (cc := b_Row_cut) (maxL := 3) (ret := none) (by decide) rfl ?_
  intro p e s m args below meth cd s₁ Bd hml hv
  obtain ⟨rfl, hsz, hP, hK, hN, hD0⟩ := hv
  have hx := Bd.exec
  have hb := Bd.bytes
  have hr := Bd.returns
  have hts := hN.use (a := ([.ref h, .int (nI k), .int (nI c)]).toArray)
  have hown : s.vm.findClass R_Row = some m.cls := findClass_of_methodNamed Bd.named
  have hlocks := Bd.notSynchronized
  subst hsz
  have hD := hD0.self (sz := s.heap.size)
  clear hD0
  have hA : ∀ q : Nat, s.heap.size ≤ q → va_A [(h, .inr (0, [.ref a, .int (nI n)])), (a, .inl (cB, ln, .inl f))] s.heap.size q := fun q h => Or.inr h
  have hS : va_S (va_A [(h, .inr (0, [.ref a, .int (nI n)])), (a, .inl (cB, ln, .inl f))] s.heap.size) s.heap s.heap [] := va_S.rf
  generalize hAe : va_A [(h, .inr (0, [.ref a, .int (nI n)])), (a, .inl (cB, ln, .inl f))] s.heap.size = A at hD hA hS ⊢
  have hP : va_P D classes [(h, .inr (0, [.ref a, .int (nI n)])), (a, .inl (cB, ln, .inl f))] s.heap := hP
  have hl := lv_entry ([.ref h, .int (nI k), .int (nI c)]) (n := 3) (Nat.le_of_ble_eq_true rfl)
  rw [lg_entry_eq]
  generalize (lg_sl ([.ref h, .int (nI k), .int (nI c)]) ++ List.replicate (3 - (lg_sl ([.ref h, .int (nI k), .int (nI c)])).length) Slot.unset).toArray = ls at hl ⊢
  have hl : lv_has ls 3 [(0, .ref h), (1, .int (nI k)), (2, .int (nI c))] := hl
  refine lv_iload_n hx hb d_Row_cut_0 rfl (lv_at hl 1 rfl) ?_
  refine lv_if_lt (tgt := 18) hx hb d_Row_cut_1 rfl (fun h9 => absurd h9 (nI_pos (by omega))) (fun h1 => ?_)
  refine lv_iload_n hx hb d_Row_cut_4 rfl (lv_at hl 2 rfl) ?_
  refine lv_if_lt (tgt := 18) hx hb d_Row_cut_5 rfl (fun h9 => absurd h9 (nI_pos (by omega))) (fun h5 => ?_)
  refine lv_iload_n hx hb d_Row_cut_8 rfl (lv_at hl 2 rfl) ?_
  refine lv_aload_n hx hb d_Row_cut_9 rfl (lv_at hl 0 rfl) ?_
  refine va_get (D := D) (ci := 0) (v := .int (nI n)) (C := R_Row) (T := F_Row) (N := 2) hx hb hts i_Row hown hK hP 0 rfl rfl 1 (by decide) (hts _ wd_107) (fun _ h9 => h9) rfl d_Row_cut_10 ?_
  refine lv_iload_n hx hb d_Row_cut_13 rfl (lv_at hl 1 rfl) ?_
  refine lv_isub hx hb d_Row_cut_14 ?_
  refine z_topi (w := nI (n - k)) (pk_sub (by omega)) ?_
  refine lv_icmp_le (tgt := 19) hx hb d_Row_cut_15 rfl (fun h15 => ?_) (fun h9 => absurd ((nI_leI (by omega) (by omega)).mpr (by omega)) h9)
  refine lv_aload_n hx hb d_Row_cut_19 rfl (lv_at hl 0 rfl) ?_
  refine va_get (D := D) (ci := 0) (v := .ref a) (C := R_Row) (T := F_Row) (N := 2) hx hb hts i_Row hown hK hP 0 rfl rfl 0 (by decide) (hts _ wd_106) (fun _ h9 => h9) rfl d_Row_cut_20 ?_
  refine lv_iload_n hx hb d_Row_cut_23 rfl (lv_at hl 1 rfl) ?_
  refine lv_iload_n hx hb d_Row_cut_24 rfl (lv_at hl 2 rfl) ?_
  refine lv_iadd hx hb d_Row_cut_25 ?_
  refine z_topi (w := nI (k + c)) (nI_add _ _) ?_
  refine lv_aload_n hx hb d_Row_cut_26 rfl (lv_at hl 0 rfl) ?_
  refine va_get (D := D) (ci := 0) (v := .ref a) (C := R_Row) (T := F_Row) (N := 2) hx hb hts i_Row hown hK hP 0 rfl rfl 0 (by decide) (hts _ wd_106) (fun _ h9 => h9) rfl d_Row_cut_27 ?_
  refine lv_iload_n hx hb d_Row_cut_30 rfl (lv_at hl 1 rfl) ?_
  refine lv_aload_n hx hb d_Row_cut_31 rfl (lv_at hl 0 rfl) ?_
  refine va_get (D := D) (ci := 0) (v := .int (nI n)) (C := R_Row) (T := F_Row) (N := 2) hx hb hts i_Row hown hK hP 0 rfl rfl 1 (by decide) (hts _ wd_107) (fun _ h9 => h9) rfl d_Row_cut_32 ?_
  refine lv_iload_n hx hb d_Row_cut_35 rfl (lv_at hl 1 rfl) ?_
  refine lv_isub hx hb d_Row_cut_36 ?_
  refine z_topi (w := nI (n - k)) (pk_sub (by omega)) ?_
  refine lv_iload_n hx hb d_Row_cut_37 rfl (lv_at hl 2 rfl) ?_
  refine lv_isub hx hb d_Row_cut_38 ?_
  refine z_topi (w := nI (n - k - c)) (pk_sub (by omega)) ?_
  refine z_copyb hx hb (by rw [hml]; exact hl.1.symm) hown (hts _ wd_683) (hts _ wd_430) (hts _ wd_429) (hts _ wd_73) hK hP hD hS 1 0 rfl rfl (k + c) k (n - k - c) rfl rfl rfl (by omega) (by omega) (by omega) hf (Nat.le_of_ble_eq_true rfl) (Nat.le_of_ble_eq_true rfl) d_Row_cut_39 (fun H locs hP hD hS => ?_)
  have hP : va_P D classes [(h, .inr (0, [.ref a, .int (nI n)])), (a, .inl (cB, ln, .inl (va_cpy f f (k + c) k (n - k - c))))] H := hP
  have hD : va_D A [(h, .inr (0, [.ref a, .int (nI n)])), (a, .inl (cB, ln, .inl (va_cpy f f (k + c) k (n - k - c))))] := hD
  refine lv_aload_n hx hb d_Row_cut_42 rfl (lv_at hl 0 rfl) ?_
  refine lv_dup hx hb d_Row_cut_43 rfl ?_
  refine va_get (D := D) (ci := 0) (v := .int (nI n)) (C := R_Row) (T := F_Row) (N := 2) hx hb hts i_Row hown hK hP 0 rfl rfl 1 (by decide) (hts _ wd_107) (fun _ h9 => h9) rfl d_Row_cut_44 ?_
  refine lv_iload_n hx hb d_Row_cut_47 rfl (lv_at hl 2 rfl) ?_
  refine lv_isub hx hb d_Row_cut_48 ?_
  refine z_topi (w := nI (n - c)) (pk_sub (by omega)) ?_
  refine va_put (D := D) (ci := 0) (v := .int (nI (n - c))) (ty := .int) (C := R_Row) (T := F_Row) (N := 2) hx hb hts i_Row t_Row t_Row_ok n_Row hown hK hP hD hS 0 rfl rfl 1 (by decide) (hts _ wd_107) (fun _ h9 => h9) rfl (by decide +kernel) rfl rfl (Nat.le_of_ble_eq_true rfl) d_Row_cut_49 (fun H locs hP hD hS => ?_)
  have hP : va_P D classes [(h, .inr (0, [.ref a, .int (nI (n - c))])), (a, .inl (cB, ln, .inl (va_cpy f f (k + c) k (n - k - c))))] H := hP
  have hD : va_D A [(h, .inr (0, [.ref a, .int (nI (n - c))])), (a, .inl (cB, ln, .inl (va_cpy f f (k + c) k (n - k - c))))] := hD
  have hP9 := hP.sub (ws' := [(h, .inr (0, [.ref a, .int (nI (n - c))])), (a, .inl (cB, ln, .inl (va_cpy f f (k + c) k (n - k - c))))]) [0, 1] rfl
  have hD9 := hD.sub (ws' := [(h, .inr (0, [.ref a, .int (nI (n - c))])), (a, .inl (cB, ln, .inl (va_cpy f f (k + c) k (n - k - c))))]) [0, 1] (by decide) rfl
  have hK9 := hK.sub (tys' := [(cB, .byte)]) [0] rfl
  exact W.vret hx hb hr (fun t ht hW => ⟨⟨(), rfl, trivial, ⟨by rw [ht]; exact hP9, va_K.moved hW.alike hK9, hD9⟩⟩, hS.F ht⟩) hS.2.2 d_Row_cut_52
set_option maxHeartbeats 4000000 in
set_option maxRecDepth 100000 in
theorem c_Row_bit (l : Launch) (D : va_G) (cB : ClassId) (h a n ln : Nat) (f : Nat → Int32) (k : Nat) (hln : ln < 2 ^ 31) (hk : k < 2 ^ 31) : Met l y_Row_bit [Cond.code y_Row_bit b_Row_bit 2 (some .boolean)] ({ frames := 1, cells := 0, slots := 0, locals := 21 }) (zP [.ref h, .int (nI k)] D [(h, .inr (0, [.ref a, .int (nI n)])), (a, .inl (cB, ln, .inl f))] [(cB, .byte)]) (vp_Si (fun r => r = if rw_bit f n ln k = 1 then 1 else 0)) 0 0 (fun _ => False) := by
  refine Met.ofW (cc := b_Row_bit) (maxL := 2) (ret := (some .boolean)) (by decide) rfl ?_
  intro p e s m args below meth cd s₁ Bd hml hv
  obtain ⟨rfl, hP, hK, hN⟩ := hv
  have hx := Bd.exec
  have hb := Bd.bytes
  have hr := Bd.returns
  have hts := hN.use (a := ([.ref h, .int (nI k)]).toArray)
  have hown : s.vm.findClass R_Row = some m.cls := findClass_of_methodNamed Bd.named
  have hlocks := Bd.notSynchronized
  have hP : va_P D classes [(h, .inr (0, [.ref a, .int (nI n)])), (a, .inl (cB, ln, .inl f))] s.heap := hP
  have hl := lv_entry ([.ref h, .int (nI k)]) (n := 2) (Nat.le_of_ble_eq_true rfl)
  rw [lg_entry_eq]
  generalize (lg_sl ([.ref h, .int (nI k)]) ++ List.replicate (2 - (lg_sl ([.ref h, .int (nI k)])).length) Slot.unset).toArray = ls at hl ⊢
  have hl : lv_has ls 2 [(0, .ref h), (1, .int (nI k))] := hl
  refine lv_aload_n hx hb d_Row_bit_0 rfl (lv_at hl 0 rfl) ?_
  refine lv_iload_n hx hb d_Row_bit_1 rfl (lv_at hl 1 rfl) ?_
  refine lv_iconst (v := 3) hx hb d_Row_bit_2 (by decide) ?_
  refine lv_ishr hx hb d_Row_bit_3 ?_
  refine z_topi (w := nI (k / 8)) (z_shr3 hk) ?_
  have hPc := hP.sub (ws' := [(h, .inr (0, [.ref a, .int (nI n)])), (a, .inl (cB, ln, .inl f))]) [0, 1] rfl
  have hKc := hK.sub (tys' := [(cB, .byte)]) [0] rfl
  refine z_ci (va_runV (As := [.int (nI (k / 8))]) (rest := []) ⟨hx, hb, hml, hown, hts⟩ (c_Row_at l D cB h a n ln f (nI (k / 8)) hln) (z_cV hN wd_212 wd_61 wd_281 hd_Row_at rfl rfl ⟨Nat.le_of_ble_eq_true rfl, Nat.le_of_ble_eq_true rfl⟩ wd_210 wd_211) (z_preV (va_recv (ci := 0) (q0 := 0) hK hP rfl rfl) hPc hKc hN) rfl rfl hl.1 rfl (lv_room (Nat.le_of_ble_eq_true rfl)) d_Row_bit_4 ⟨Nat.le_of_ble_eq_true rfl, Nat.le_of_ble_eq_true rfl⟩) (fun r4 e4 => ?_)
  subst e4
  refine lv_bipush (v := 7) hx hb d_Row_bit_7 (by decide) ?_
  refine lv_iload_n hx hb d_Row_bit_9 rfl (lv_at hl 1 rfl) ?_
  refine lv_bipush (v := 7) hx hb d_Row_bit_10 (by decide) ?_
  refine lv_iand hx hb d_Row_bit_12 ?_
  refine z_topi (w := nI (k % 8)) (z_and7 (by omega)) ?_
  refine lv_isub hx hb d_Row_bit_13 ?_
  refine lv_ishr hx hb d_Row_bit_14 ?_
  refine lv_iconst (v := 1) hx hb d_Row_bit_15 (by decide) ?_
  refine lv_iand hx hb d_Row_bit_16 ?_
  refine z_topi (w := rw_bit f n ln k) rfl ?_
  refine lv_iconst (v := 1) hx hb d_Row_bit_17 (by decide) ?_
  refine lv_icmp_ne (tgt := 25) hx hb d_Row_bit_18 rfl (fun h18 => ?_) (fun h18 => ?_)
  · refine lv_iconst (v := 0) hx hb d_Row_bit_25 (by decide) ?_
    exact W.zret (v := 0) hx hb hr rfl (fun t ht hW => ⟨_, rfl, (by first | exact (if_pos (z_nn h18)).symm | exact (if_neg h18).symm | exact (if_pos h18).symm), ht⟩) (fun _ h => by cases h) d_Row_bit_26
  · refine lv_iconst (v := 1) hx hb d_Row_bit_21 (by decide) ?_
    refine lv_goto (tgt := 26) hx hb d_Row_bit_22 rfl ?_
    exact W.zret (v := 1) hx hb hr rfl (fun t ht hW => ⟨_, rfl, (by first | exact (if_pos (z_nn h18)).symm | exact (if_neg h18).symm | exact (if_pos h18).symm), ht⟩) (fun _ h => by cases h) d_Row_bit_26
set_option maxHeartbeats 4000000 in
set_option maxRecDepth 100000 in
theorem c_Row_bits (l : Launch) (D : va_G) (cB : ClassId) (h a n ln : Nat) (f : Nat → Int32) (k c : Nat) (hln : ln < 2 ^ 31) (hk : k + c < 2 ^ 31) : Met l y_Row_bits [Cond.code y_Row_bits b_Row_bits 7 (some .long)] ({ frames := 1, cells := 0, slots := 0, locals := 21 }) (zP [.ref h, .int (nI k), .int (nI c)] D [(h, .inr (0, [.ref a, .int (nI n)])), (a, .inl (cB, ln, .inl f))] [(cB, .byte)]) (vp_Sl (fun r => r = rw_bits f n ln k c)) 0 0 (fun _ => False) := by
  refine Met.ofW (cc := b_Row_bits) (maxL := 7) (ret := (some .long)) (by decide) rfl ?_
  intro p e s m args below meth cd s₁ Bd hml hv
  obtain ⟨rfl, hP, hK, hN⟩ := hv
  have hx := Bd.exec
  have hb := Bd.bytes
  have hr := Bd.returns
  have hts := hN.use (a := ([.ref h, .int (nI k), .int (nI c)]).toArray)
  have hown : s.vm.findClass R_Row = some m.cls := findClass_of_methodNamed Bd.named
  have hlocks := Bd.notSynchronized
  have hP : va_P D classes [(h, .inr (0, [.ref a, .int (nI n)])), (a, .inl (cB, ln, .inl f))] s.heap := hP
  have hl := lv_entry ([.ref h, .int (nI k), .int (nI c)]) (n := 7) (Nat.le_of_ble_eq_true rfl)
  rw [lg_entry_eq]
  generalize (lg_sl ([.ref h, .int (nI k), .int (nI c)]) ++ List.replicate (7 - (lg_sl ([.ref h, .int (nI k), .int (nI c)])).length) Slot.unset).toArray = ls at hl ⊢
  have hl : lv_has ls 7 [(0, .ref h), (1, .int (nI k)), (2, .int (nI c))] := hl
  refine lv_lconst (v := 0) hx hb d_Row_bits_0 (by decide) ?_
  refine lv_lstore_n (lv' := [(3, .long 0), (0, .ref h), (1, .int (nI k)), (2, .int (nI c))]) hx hb d_Row_bits_1 rfl hl (by decide) rfl (fun ls hl => ?_)
  refine lv_iconst (v := 0) hx hb d_Row_bits_2 (by decide) ?_
  refine lv_istore (lv' := [(5, .int 0), (3, .long 0), (0, .ref h), (1, .int (nI k)), (2, .int (nI c))]) hx hb d_Row_bits_3 hl (by decide) rfl (fun ls hl => ?_)
  have loop5 : ∀ (N : Nat) (j : Nat) (ls : Array Slot) (hm : c - j < N) (hj : j ≤ c) (hl : lv_has ls 7 [(0, .ref h), (1, .int (nI k)), (2, .int (nI c)), (3, .long (rw_bits f n ln k j)), (5, .int (nI j))]), W p l e ({ frames := 1, cells := 0, slots := 0, locals := 21 }) s m ([.ref h, .int (nI k), .int (nI c)]).toArray below meth cd s.heap [] 0 0 (MQ below (vp_Sl (fun r => r = rw_bits f n ln k c)) ([.ref h, .int (nI k), .int (nI c)]).toArray s 0 0 (fun _ => False)) (F0 m 5 ls []) := by
    intro N5
    induction N5 with
    | zero => intro j ls hm hj hl; exact absurd hm (Nat.not_lt_zero _)
    | succ N5 ih5 =>
      intro j ls hm hj hl
      refine lv_iload hx hb d_Row_bits_5 (lv_at hl 4 rfl) ?_
      refine lv_iload_n hx hb d_Row_bits_7 rfl (lv_at hl 2 rfl) ?_
      refine lv_icmp_ge (tgt := 48) hx hb d_Row_bits_8 rfl (fun h8 => ?_) (fun h8 => ?_)
      · have h8 := (nI_leI (by omega) (by omega)).mp h8
        have hjc : c = j := by omega
        refine lv_lload_n hx hb d_Row_bits_48 rfl (lv_at hl 3 rfl) ?_
        exact W.lret (v := (rw_bits f n ln k j)) hx hb hr (fun t ht hW => ⟨_, rfl, by rw [hjc], ht⟩) (fun _ h => by cases h) d_Row_bits_49
      · have h8 := mt (nI_leI (by omega) (by omega)).mpr h8
        refine lv_iload_n hx hb d_Row_bits_11 rfl (lv_at hl 1 rfl) ?_
        refine lv_iload hx hb d_Row_bits_12 (lv_at hl 4 rfl) ?_
        refine lv_iadd hx hb d_Row_bits_14 ?_
        refine z_topi (w := nI (k + j)) (nI_add _ _) ?_
        refine lv_istore (lv' := [(6, .int (nI (k + j))), (0, .ref h), (1, .int (nI k)), (2, .int (nI c)), (3, .long (rw_bits f n ln k j)), (5, .int (nI j))]) hx hb d_Row_bits_15 hl (by decide) rfl (fun ls hl => ?_)
        refine lv_lload_n hx hb d_Row_bits_17 rfl (lv_at hl 4 rfl) ?_
        refine lv_iconst (v := 1) hx hb d_Row_bits_18 (by decide) ?_
        refine lv_lshl (v := (rw_bits f n ln k j) <<< ((1 : Int32).toInt64 &&& 63)) hx hb d_Row_bits_19 rfl ?_
        refine lv_aload_n hx hb d_Row_bits_20 rfl (lv_at hl 1 rfl) ?_
        refine lv_iload hx hb d_Row_bits_21 (lv_at hl 0 rfl) ?_
        refine lv_iconst (v := 3) hx hb d_Row_bits_23 (by decide) ?_
        refine lv_ishr hx hb d_Row_bits_24 ?_
        refine z_topi (w := nI ((k + j) / 8)) (z_shr3 (by omega)) ?_
        have hPc := hP.sub (ws' := [(h, .inr (0, [.ref a, .int (nI n)])), (a, .inl (cB, ln, .inl f))]) [0, 1] rfl
        have hKc := hK.sub (tys' := [(cB, .byte)]) [0] rfl
        refine z_ci (va_runV (As := [.int (nI ((k + j) / 8))]) (rest := [.long ((rw_bits f n ln k j) <<< ((1 : Int32).toInt64 &&& 63))]) ⟨hx, hb, hml, hown, hts⟩ (c_Row_at l D cB h a n ln f (nI ((k + j) / 8)) hln) (z_cV hN wd_212 wd_61 wd_281 hd_Row_at rfl rfl ⟨Nat.le_of_ble_eq_true rfl, Nat.le_of_ble_eq_true rfl⟩ wd_210 wd_211) (z_preV (va_recv (ci := 0) (q0 := 0) hK hP rfl rfl) hPc hKc hN) rfl rfl hl.1 rfl (lv_room (Nat.le_of_ble_eq_true rfl)) d_Row_bits_25 ⟨Nat.le_of_ble_eq_true rfl, Nat.le_of_ble_eq_true rfl⟩) (fun r25 e25 => ?_)
        subst e25
        refine lv_bipush (v := 7) hx hb d_Row_bits_28 (by decide) ?_
        refine lv_iload hx hb d_Row_bits_30 (lv_at hl 0 rfl) ?_
        refine lv_bipush (v := 7) hx hb d_Row_bits_32 (by decide) ?_
        refine lv_iand hx hb d_Row_bits_34 ?_
        refine z_topi (w := nI ((k + j) % 8)) (z_and7 (by omega)) ?_
        refine lv_isub hx hb d_Row_bits_35 ?_
        refine lv_ishr hx hb d_Row_bits_36 ?_
        refine lv_iconst (v := 1) hx hb d_Row_bits_37 (by decide) ?_
        refine lv_iand hx hb d_Row_bits_38 ?_
        refine z_topi (w := rw_bit f n ln (k + j)) rfl ?_
        refine lv_i2l (v := (rw_bit f n ln (k + j)).toInt64) hx hb d_Row_bits_39 rfl ?_
        refine lv_lor hx hb d_Row_bits_40 ?_
        refine z_topl (w := rw_bits f n ln k (j + 1)) rfl ?_
        refine lv_lstore_n (lv' := [(3, .long (rw_bits f n ln k (j + 1))), (6, .int (nI (k + j))), (0, .ref h), (1, .int (nI k)), (2, .int (nI c)), (5, .int (nI j))]) hx hb d_Row_bits_41 rfl hl (by decide) rfl (fun ls hl => ?_)
        refine lv_iinc (k := 5) (v := nI (j + 1)) (lv' := [(5, .int (nI (j + 1))), (3, .long (rw_bits f n ln k (j + 1))), (6, .int (nI (k + j))), (0, .ref h), (1, .int (nI k)), (2, .int (nI c))]) hx hb d_Row_bits_42 hl rfl (nI_1 j) (by decide) rfl (fun ls hl => ?_)
        refine lv_goto (tgt := 5) hx hb d_Row_bits_45 rfl ?_
        exact ih5 (j + 1) ls (by omega) (by omega) (lv_sub hl [3, 4, 5, 1, 0] rfl)
  exact loop5 _ 0 ls (Nat.lt_succ_self _) (Nat.zero_le _) (lv_sub hl [2, 3, 4, 1, 0] rfl)
set_option maxHeartbeats 4000000 in
set_option maxRecDepth 100000 in
theorem c_Row_checkOf (l : Launch) (D : va_G) (cB : ClassId) (h a n ln : Nat) (f : Nat → Int32) (k c : Nat) (hln : ln < 2 ^ 31) (hk : k + c < 2 ^ 31) : Met l y_Row_checkOf [Cond.code y_Row_checkOf b_Row_checkOf 6 (some .int)] ({ frames := 1, cells := 0, slots := 0, locals := 21 }) (zP [.ref h, .int (nI k), .int (nI (k + c))] D [(h, .inr (0, [.ref a, .int (nI n)])), (a, .inl (cB, ln, .inl f))] [(cB, .byte)]) (vp_Si (fun r => r = rw_ck f n ln k c)) 0 0 (fun _ => False) := by
  refine Met.ofW (cc := b_Row_checkOf) (maxL := 6) (ret := (some .int)) (by decide) rfl ?_
  intro p e s m args below meth cd s₁ Bd hml hv
  obtain ⟨rfl, hP, hK, hN⟩ := hv
  have hx := Bd.exec
  have hb := Bd.bytes
  have hr := Bd.returns
  have hts := hN.use (a := ([.ref h, .int (nI k), .int (nI (k + c))]).toArray)
  have hown : s.vm.findClass R_Row = some m.cls := findClass_of_methodNamed Bd.named
  have hlocks := Bd.notSynchronized
  have hP : va_P D classes [(h, .inr (0, [.ref a, .int (nI n)])), (a, .inl (cB, ln, .inl f))] s.heap := hP
  have hl := lv_entry ([.ref h, .int (nI k), .int (nI (k + c))]) (n := 6) (Nat.le_of_ble_eq_true rfl)
  rw [lg_entry_eq]
  generalize (lg_sl ([.ref h, .int (nI k), .int (nI (k + c))]) ++ List.replicate (6 - (lg_sl ([.ref h, .int (nI k), .int (nI (k + c))])).length) Slot.unset).toArray = ls at hl ⊢
  have hl : lv_has ls 6 [(0, .ref h), (1, .int (nI k)), (2, .int (nI (k + c)))] := hl
  refine lv_iconst (v := (-1)) hx hb d_Row_checkOf_0 (by decide) ?_
  refine lv_istore_n (lv' := [(3, .int (-1)), (0, .ref h), (1, .int (nI k)), (2, .int (nI (k + c)))]) hx hb d_Row_checkOf_1 rfl hl (by decide) rfl (fun ls hl => ?_)
  refine lv_iload_n hx hb d_Row_checkOf_2 rfl (lv_at hl 2 rfl) ?_
  refine lv_istore (lv' := [(4, .int (nI k)), (3, .int (-1)), (0, .ref h), (1, .int (nI k)), (2, .int (nI (k + c)))]) hx hb d_Row_checkOf_3 hl (by decide) rfl (fun ls hl => ?_)
  have loop5 : ∀ (N : Nat) (j : Nat) (ls : Array Slot) (hm : c - j < N) (hj : j ≤ c) (hl : lv_has ls 6 [(0, .ref h), (2, .int (nI (k + c))), (3, .int (rw_ck f n ln k j)), (4, .int (nI (k + j)))]), W p l e ({ frames := 1, cells := 0, slots := 0, locals := 21 }) s m ([.ref h, .int (nI k), .int (nI (k + c))]).toArray below meth cd s.heap [] 0 0 (MQ below (vp_Si (fun r => r = rw_ck f n ln k c)) ([.ref h, .int (nI k), .int (nI (k + c))]).toArray s 0 0 (fun _ => False)) (F0 m 5 ls []) := by
    intro N5
    induction N5 with
    | zero => intro j ls hm hj hl; exact absurd hm (Nat.not_lt_zero _)
    | succ N5 ih5 =>
      intro j ls hm hj hl
      refine lv_iload hx hb d_Row_checkOf_5 (lv_at hl 3 rfl) ?_
      refine lv_iload_n hx hb d_Row_checkOf_7 rfl (lv_at hl 1 rfl) ?_
      refine lv_icmp_ge (tgt := 62) hx hb d_Row_checkOf_8 rfl (fun h8 => ?_) (fun h8 => ?_)
      · have h8 := (nI_leI (by omega) (by omega)).mp h8
        have hjc : c = j := by omega
        refine lv_iload_n hx hb d_Row_checkOf_62 rfl (lv_at hl 2 rfl) ?_
        exact W.iret (v := (rw_ck f n ln k j)) hx hb hr (fun t ht hW => ⟨_, rfl, by rw [hjc], ht⟩) (fun _ h => by cases h) d_Row_checkOf_63
      · have h8 := mt (nI_leI (by omega) (by omega)).mpr h8
        refine lv_iload_n hx hb d_Row_checkOf_11 rfl (lv_at hl 2 rfl) ?_
        refine lv_aload_n hx hb d_Row_checkOf_12 rfl (lv_at hl 0 rfl) ?_
        refine lv_iload hx hb d_Row_checkOf_13 (lv_at hl 3 rfl) ?_
        have hPc := hP.sub (ws' := [(h, .inr (0, [.ref a, .int (nI n)])), (a, .inl (cB, ln, .inl f))]) [0, 1] rfl
        have hKc := hK.sub (tys' := [(cB, .byte)]) [0] rfl
        refine z_ci (va_runV (As := [.int (nI (k + j))]) (rest := [.int (rw_ck f n ln k j)]) ⟨hx, hb, hml, hown, hts⟩ (c_Row_at l D cB h a n ln f (nI (k + j)) hln) (z_cV hN wd_212 wd_61 wd_281 hd_Row_at rfl rfl ⟨Nat.le_of_ble_eq_true rfl, Nat.le_of_ble_eq_true rfl⟩ wd_210 wd_211) (z_preV (va_recv (ci := 0) (q0 := 0) hK hP rfl rfl) hPc hKc hN) rfl rfl hl.1 rfl (lv_room (Nat.le_of_ble_eq_true rfl)) d_Row_checkOf_15 ⟨Nat.le_of_ble_eq_true rfl, Nat.le_of_ble_eq_true rfl⟩) (fun r15 e15 => ?_)
        subst e15
        refine lv_bipush (v := 24) hx hb d_Row_checkOf_18 (by decide) ?_
        refine lv_ishl hx hb d_Row_checkOf_20 ?_
        refine lv_ixor hx hb d_Row_checkOf_21 ?_
        refine z_topi (w := (rw_ck f n ln k j ^^^ rw_at f n ln (nI (k + j)) <<< ((24 : Int32) &&& 31))) rfl ?_
        refine lv_istore_n (lv' := [(3, .int (rw_ck f n ln k j ^^^ rw_at f n ln (nI (k + j)) <<< ((24 : Int32) &&& 31))), (0, .ref h), (2, .int (nI (k + c))), (4, .int (nI (k + j)))]) hx hb d_Row_checkOf_22 rfl hl (by decide) rfl (fun ls hl => ?_)
        refine lv_iconst (v := 0) hx hb d_Row_checkOf_23 (by decide) ?_
        refine lv_istore (lv' := [(5, .int 0), (3, .int (rw_ck f n ln k j ^^^ rw_at f n ln (nI (k + j)) <<< ((24 : Int32) &&& 31))), (0, .ref h), (2, .int (nI (k + c))), (4, .int (nI (k + j)))]) hx hb d_Row_checkOf_24 hl (by decide) rfl (fun ls hl => ?_)
        have loop26 : ∀ (N : Nat) (i : Nat) (ls : Array Slot) (hm : 8 - i < N) (hi : i ≤ 8) (hl : lv_has ls 6 [(0, .ref h), (2, .int (nI (k + c))), (3, .int (zit ck_s (rw_ck f n ln k j ^^^ rw_at f n ln (nI (k + j)) <<< ((24 : Int32) &&& 31)) i)), (4, .int (nI (k + j))), (5, .int (nI i))]), W p l e ({ frames := 1, cells := 0, slots := 0, locals := 21 }) s m ([.ref h, .int (nI k), .int (nI (k + c))]).toArray below meth cd s.heap [] 0 0 (MQ below (vp_Si (fun r => r = rw_ck f n ln k c)) ([.ref h, .int (nI k), .int (nI (k + c))]).toArray s 0 0 (fun _ => False)) (F0 m 26 ls []) := by
          intro N26
          induction N26 with
          | zero => intro i ls hm hi hl; exact absurd hm (Nat.not_lt_zero _)
          | succ N26 ih26 =>
            intro i ls hm hi hl
            refine lv_iload hx hb d_Row_checkOf_26 (lv_at hl 4 rfl) ?_
            refine lv_bipush (v := 8) hx hb d_Row_checkOf_28 (by decide) ?_
            refine lv_icmp_ge (tgt := 56) hx hb d_Row_checkOf_30 rfl (fun h30 => ?_) (fun h30 => ?_)
            · have h30 : 8 ≤ i := (nI_leI (a := 8) (by omega) (by omega)).mp h30
              obtain rfl : i = 8 := by omega
              refine lv_iinc (k := 3) (v := nI (k + j + 1)) (lv' := [(4, .int (nI (k + j + 1))), (0, .ref h), (2, .int (nI (k + c))), (3, .int (zit ck_s (rw_ck f n ln k j ^^^ rw_at f n ln (nI (k + j)) <<< ((24 : Int32) &&& 31)) 8)), (5, .int (nI 8))]) hx hb d_Row_checkOf_56 hl rfl (nI_1 (k + j)) (by decide) rfl (fun ls hl => ?_)
              refine lv_goto (tgt := 5) hx hb d_Row_checkOf_59 rfl ?_
              exact ih5 (j + 1) ls (by omega) (by omega) (lv_sub hl [1, 2, 3, 0] rfl)
            · have h30 : ¬ 8 ≤ i := mt (nI_leI (a := 8) (by omega) (by omega)).mpr h30
              refine lv_iload_n hx hb d_Row_checkOf_33 rfl (lv_at hl 2 rfl) ?_
              refine lv_if_ge (tgt := 46) hx hb d_Row_checkOf_34 rfl (fun h34 => ?_) (fun h34 => ?_)
              · refine lv_iload_n hx hb d_Row_checkOf_46 rfl (lv_at hl 2 rfl) ?_
                refine lv_iconst (v := 1) hx hb d_Row_checkOf_47 (by decide) ?_
                refine lv_ishl hx hb d_Row_checkOf_48 ?_
                refine z_topi (w := zit ck_s (rw_ck f n ln k j ^^^ rw_at f n ln (nI (k + j)) <<< ((24 : Int32) &&& 31)) (i + 1)) (by first | exact ck_ge h34 | exact ck_lt h34) ?_
                refine lv_istore_n (lv' := [(3, .int (zit ck_s (rw_ck f n ln k j ^^^ rw_at f n ln (nI (k + j)) <<< ((24 : Int32) &&& 31)) (i + 1))), (0, .ref h), (2, .int (nI (k + c))), (4, .int (nI (k + j))), (5, .int (nI i))]) hx hb d_Row_checkOf_49 rfl hl (by decide) rfl (fun ls hl => ?_)
                refine lv_iinc (k := 4) (v := nI (i + 1)) (lv' := [(5, .int (nI (i + 1))), (3, .int (zit ck_s (rw_ck f n ln k j ^^^ rw_at f n ln (nI (k + j)) <<< ((24 : Int32) &&& 31)) (i + 1))), (0, .ref h), (2, .int (nI (k + c))), (4, .int (nI (k + j)))]) hx hb d_Row_checkOf_50 hl rfl (nI_1 i) (by decide) rfl (fun ls hl => ?_)
                refine lv_goto (tgt := 26) hx hb d_Row_checkOf_53 rfl ?_
                exact ih26 (i + 1) ls (by omega) (by omega) (lv_sub hl [2, 3, 1, 4, 0] rfl)
              · refine lv_iload_n hx hb d_Row_checkOf_37 rfl (lv_at hl 2 rfl) ?_
                refine lv_iconst (v := 1) hx hb d_Row_checkOf_38 (by decide) ?_
                refine lv_ishl hx hb d_Row_checkOf_39 ?_
                refine lv_ldc hx hb hown (hts _ wd_547) d_Row_checkOf_40 ?_
                refine lv_ixor hx hb d_Row_checkOf_42 ?_
                refine lv_goto (tgt := 49) hx hb d_Row_checkOf_43 rfl ?_
                refine z_topi (w := zit ck_s (rw_ck f n ln k j ^^^ rw_at f n ln (nI (k + j)) <<< ((24 : Int32) &&& 31)) (i + 1)) (by first | exact ck_ge h34 | exact ck_lt h34) ?_
                refine lv_istore_n (lv' := [(3, .int (zit ck_s (rw_ck f n ln k j ^^^ rw_at f n ln (nI (k + j)) <<< ((24 : Int32) &&& 31)) (i + 1))), (0, .ref h), (2, .int (nI (k + c))), (4, .int (nI (k + j))), (5, .int (nI i))]) hx hb d_Row_checkOf_49 rfl hl (by decide) rfl (fun ls hl => ?_)
                refine lv_iinc (k := 4) (v := nI (i + 1)) (lv' := [(5, .int (nI (i + 1))), (3, .int (zit ck_s (rw_ck f n ln k j ^^^ rw_at f n ln (nI (k + j)) <<< ((24 : Int32) &&& 31)) (i + 1))), (0, .ref h), (2, .int (nI (k + c))), (4, .int (nI (k + j)))]) hx hb d_Row_checkOf_50 hl rfl (nI_1 i) (by decide) rfl (fun ls hl => ?_)
                refine lv_goto (tgt := 26) hx hb d_Row_checkOf_53 rfl ?_
                exact ih26 (i + 1) ls (by omega) (by omega) (lv_sub hl [2, 3, 1, 4, 0] rfl)
        exact loop26 _ 0 ls (Nat.lt_succ_self _) (Nat.zero_le _) (lv_sub hl [2, 3, 1, 4, 0] rfl)
  exact loop5 _ 0 ls (Nat.lt_succ_self _) (Nat.zero_le _) (lv_sub hl [2, 4, 1, 0] rfl)
