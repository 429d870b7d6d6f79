theorem wd_72 : (Jvm.Cond.initialized "java/lang/IndexOutOfBoundsException") ∈ lw_ok := List.mem_filter.mpr ⟨List.mem_of_getElem? (i := 72) (by decide +kernel), rfl⟩
theorem wd_209 : (Jvm.Cond.methodLink "StreamSplitter" (51 : Nat) ({ cls := "StreamSplitter$Row", name := "at", desc := "(I)I" } : Jvm.MethodName)) ∈ lw_ok := List.mem_filter.mpr ⟨List.mem_of_getElem? (i := 209) (by decide +kernel), rfl⟩
theorem wd_544 : (Jvm.Cond.instanceMethod ({ cls := "StreamSplitter$Row", name := "checkOf", desc := "(II)I" } : Jvm.MethodName)) ∈ lw_ok := List.mem_filter.mpr ⟨List.mem_of_getElem? (i := 544) (by decide +kernel), rfl⟩
theorem wd_545 : (Jvm.Cond.selects "StreamSplitter$Row" ({ cls := "StreamSplitter$Row", name := "checkOf", desc := "(II)I" } : Jvm.MethodName) ({ cls := "StreamSplitter$Row", name := "checkOf", desc := "(II)I" } : Jvm.MethodName)) ∈ lw_ok := List.mem_filter.mpr ⟨List.mem_of_getElem? (i := 545) (by decide +kernel), rfl⟩
set_option maxRecDepth 100000 in
theorem wd_546 : (Jvm.Cond.code ({ cls := "StreamSplitter$Row", name := "checkOf", desc := "(II)I" } : Jvm.MethodName) prog_9_method_8_code (6 : Nat) (Option.some Jvm.ClassFile.FieldType.int)) ∈ lw_ok := List.mem_filter.mpr ⟨List.mem_of_getElem? (i := 546) (by rfl), rfl⟩
theorem wd_679 : (Jvm.Cond.methodLink "StreamSplitter" (61 : Nat) ({ cls := "StreamSplitter$Row", name := "cut", desc := "(II)V" } : Jvm.MethodName)) ∈ lw_ok := List.mem_filter.mpr ⟨List.mem_of_getElem? (i := 679) (by decide +kernel), rfl⟩
theorem wd_680 : (Jvm.Cond.instanceMethod ({ cls := "StreamSplitter$Row", name := "cut", desc := "(II)V" } : Jvm.MethodName)) ∈ lw_ok := List.mem_filter.mpr ⟨List.mem_of_getElem? (i := 680) (by decide +kernel), rfl⟩
theorem wd_681 : (Jvm.Cond.selects "StreamSplitter$Row" ({ cls := "StreamSplitter$Row", name := "cut", desc := "(II)V" } : Jvm.MethodName) ({ cls := "StreamSplitter$Row", name := "cut", desc := "(II)V" } : Jvm.MethodName)) ∈ lw_ok := List.mem_filter.mpr ⟨List.mem_of_getElem? (i := 681) (by decide +kernel), rfl⟩
set_option maxRecDepth 100000 in
theorem wd_682 : (Jvm.Cond.code ({ cls := "StreamSplitter$Row", name := "cut", desc := "(II)V" } : Jvm.MethodName) prog_9_method_5_code (3 : Nat) (Option.none : Option Jvm.ClassFile.FieldType)) ∈ lw_ok := List.mem_filter.mpr ⟨List.mem_of_getElem? (i := 682) (by rfl), rfl⟩
theorem wd_775 : (Jvm.Cond.classLink "StreamSplitter" (44 : Nat) "java/lang/IndexOutOfBoundsException") ∈ lw_ok := List.mem_filter.mpr ⟨List.mem_of_getElem? (i := 775) (by decide +kernel), rfl⟩
theorem wd_776 : (Jvm.Cond.instantiable "java/lang/IndexOutOfBoundsException" (6 : Nat)) ∈ lw_ok := List.mem_filter.mpr ⟨List.mem_of_getElem? (i := 776) (by decide +kernel), rfl⟩
theorem wd_792 : (Jvm.Cond.methodLink "StreamSplitter" (55 : Nat) ({ cls := "StreamSplitter$Row", name := "put", desc := "(II)V" } : Jvm.MethodName)) ∈ lw_ok := List.mem_filter.mpr ⟨List.mem_of_getElem? (i := 792) (by decide +kernel), rfl⟩
theorem wd_793 : (Jvm.Cond.instanceMethod ({ cls := "StreamSplitter$Row", name := "put", desc := "(II)V" } : Jvm.MethodName)) ∈ lw_ok := List.mem_filter.mpr ⟨List.mem_of_getElem? (i := 793) (by decide +kernel), rfl⟩
theorem wd_794 : (Jvm.Cond.selects "StreamSplitter$Row" ({ cls := "StreamSplitter$Row", name := "put", desc := "(II)V" } : Jvm.MethodName) ({ cls := "StreamSplitter$Row", name := "put", desc := "(II)V" } : Jvm.MethodName)) ∈ lw_ok := List.mem_filter.mpr ⟨List.mem_of_getElem? (i := 794) (by decide +kernel), rfl⟩
set_option maxRecDepth 100000 in
theorem wd_795 : (Jvm.Cond.code ({ cls := "StreamSplitter$Row", name := "put", desc := "(II)V" } : Jvm.MethodName) prog_9_method_3_code (3 : Nat) (Option.none : Option Jvm.ClassFile.FieldType)) ∈ lw_ok := List.mem_filter.mpr ⟨List.mem_of_getElem? (i := 795) (by rfl), rfl⟩
theorem wd_811 : (Jvm.Cond.methodLink "StreamSplitter" (64 : Nat) ({ cls := "StreamSplitter$Row", name := "checkOf", desc := "(II)I" } : Jvm.MethodName)) ∈ lw_ok := List.mem_filter.mpr ⟨List.mem_of_getElem? (i := 811) (by decide +kernel), rfl⟩
theorem hd_Row_checkOf : y_Row_checkOf.cls ≠ "java/lang/invoke/MethodHandle" ∧ y_Row_checkOf.cls ≠ "java/lang/invoke/VarHandle" ∧ (parseMethodDescriptor y_Row_checkOf.desc).map (fun d => d.parameters.length) = some 2 := by decide +kernel
theorem hd_Row_cut : y_Row_cut.cls ≠ "java/lang/invoke/MethodHandle" ∧ y_Row_cut.cls ≠ "java/lang/invoke/VarHandle" ∧ (parseMethodDescriptor y_Row_cut.desc).map (fun d => d.parameters.length) = some 2 := by decide +kernel
theorem hd_Row_put : y_Row_put.cls ≠ "java/lang/invoke/MethodHandle" ∧ y_Row_put.cls ≠ "java/lang/invoke/VarHandle" ∧ (parseMethodDescriptor y_Row_put.desc).map (fun d => d.parameters.length) = some 2 := by decide +kernel
theorem d_SS_drop_0 : decode b_SS_drop 0 = .ok (.aload_n 0, 1) := by decide +kernel
theorem d_SS_drop_1 : decode b_SS_drop 1 = .ok (.getfield 12, 3) := by decide +kernel
theorem d_SS_drop_4 : decode b_SS_drop 4 = .ok (.getfield 30, 3) := by decide +kernel
theorem d_SS_drop_7 : decode b_SS_drop 7 = .ok (.astore_n 3, 1) := by decide +kernel
theorem d_SS_drop_8 : decode b_SS_drop 8 = .ok (.iload_n 1, 1) := by decide +kernel
theorem d_SS_drop_9 : decode b_SS_drop 9 = .ok (.ifCond .lt 17, 3) := by decide +kernel
theorem d_SS_drop_12 : decode b_SS_drop 12 = .ok (.iload_n 2, 1) := by decide +kernel
theorem d_SS_drop_13 : decode b_SS_drop 13 = .ok (.ifCond .lt 13, 3) := by decide +kernel
theorem d_SS_drop_16 : decode b_SS_drop 16 = .ok (.iload_n 2, 1) := by decide +kernel
theorem d_SS_drop_17 : decode b_SS_drop 17 = .ok (.aload_n 3, 1) := by decide +kernel
theorem d_SS_drop_18 : decode b_SS_drop 18 = .ok (.getfield 34, 3) := by decide +kernel
theorem d_SS_drop_21 : decode b_SS_drop 21 = .ok (.iload_n 1, 1) := by decide +kernel
theorem d_SS_drop_22 : decode b_SS_drop 22 = .ok (.isub, 1) := by decide +kernel
theorem d_SS_drop_23 : decode b_SS_drop 23 = .ok (.if_icmp .le 13, 3) := by decide +kernel
theorem d_SS_drop_26 : decode b_SS_drop 26 = .ok (.new 44, 3) := by decide +kernel
theorem d_SS_drop_29 : decode b_SS_drop 29 = .ok (.dup, 1) := by decide +kernel
theorem d_SS_drop_30 : decode b_SS_drop 30 = .ok (.ldc 59, 2) := by decide +kernel
theorem d_SS_drop_32 : decode b_SS_drop 32 = .ok (.invokespecial 48, 3) := by decide +kernel
theorem d_SS_drop_35 : decode b_SS_drop 35 = .ok (.athrow, 1) := by decide +kernel
theorem d_SS_drop_36 : decode b_SS_drop 36 = .ok (.aload_n 3, 1) := by decide +kernel
theorem d_SS_drop_37 : decode b_SS_drop 37 = .ok (.iload_n 1, 1) := by decide +kernel
theorem d_SS_drop_38 : decode b_SS_drop 38 = .ok (.iload_n 2, 1) := by decide +kernel
theorem d_SS_drop_39 : decode b_SS_drop 39 = .ok (.invokevirtual 61, 3) := by decide +kernel
theorem d_SS_drop_42 : decode b_SS_drop 42 = .ok (.aload_n 3, 1) := by decide +kernel
theorem d_SS_drop_43 : decode b_SS_drop 43 = .ok (.getfield 34, 3) := by decide +kernel
theorem d_SS_drop_46 : decode b_SS_drop 46 = .ok (.ireturn, 1) := by decide +kernel
theorem d_SS_seal_0 : decode b_SS_seal 0 = .ok (.aload_n 0, 1) := by decide +kernel
theorem d_SS_seal_1 : decode b_SS_seal 1 = .ok (.getfield 12, 3) := by decide +kernel
theorem d_SS_seal_4 : decode b_SS_seal 4 = .ok (.getfield 30, 3) := by decide +kernel
theorem d_SS_seal_7 : decode b_SS_seal 7 = .ok (.astore_n 3, 1) := by decide +kernel
theorem d_SS_seal_8 : decode b_SS_seal 8 = .ok (.iload_n 1, 1) := by decide +kernel
theorem d_SS_seal_9 : decode b_SS_seal 9 = .ok (.ifCond .lt 18, 3) := by decide +kernel
theorem d_SS_seal_12 : decode b_SS_seal 12 = .ok (.iload_n 1, 1) := by decide +kernel
theorem d_SS_seal_13 : decode b_SS_seal 13 = .ok (.iload_n 2, 1) := by decide +kernel
theorem d_SS_seal_14 : decode b_SS_seal 14 = .ok (.if_icmp .gt 13, 3) := by decide +kernel
theorem d_SS_seal_17 : decode b_SS_seal 17 = .ok (.iload_n 2, 1) := by decide +kernel
theorem d_SS_seal_18 : decode b_SS_seal 18 = .ok (.aload_n 3, 1) := by decide +kernel
theorem d_SS_seal_19 : decode b_SS_seal 19 = .ok (.getfield 34, 3) := by decide +kernel
theorem d_SS_seal_22 : decode b_SS_seal 22 = .ok (.iconst 4, 1) := by decide +kernel
theorem d_SS_seal_23 : decode b_SS_seal 23 = .ok (.isub, 1) := by decide +kernel
theorem d_SS_seal_24 : decode b_SS_seal 24 = .ok (.if_icmp .le 13, 3) := by decide +kernel
theorem d_SS_seal_27 : decode b_SS_seal 27 = .ok (.new 44, 3) := by decide +kernel
theorem d_SS_seal_30 : decode b_SS_seal 30 = .ok (.dup, 1) := by decide +kernel
theorem d_SS_seal_31 : decode b_SS_seal 31 = .ok (.ldc 59, 2) := by decide +kernel
theorem d_SS_seal_33 : decode b_SS_seal 33 = .ok (.invokespecial 48, 3) := by decide +kernel
theorem d_SS_seal_36 : decode b_SS_seal 36 = .ok (.athrow, 1) := by decide +kernel
theorem d_SS_seal_37 : decode b_SS_seal 37 = .ok (.aload_n 3, 1) := by decide +kernel
theorem d_SS_seal_38 : decode b_SS_seal 38 = .ok (.iload_n 1, 1) := by decide +kernel
theorem d_SS_seal_39 : decode b_SS_seal 39 = .ok (.iload_n 2, 1) := by decide +kernel
theorem d_SS_seal_40 : decode b_SS_seal 40 = .ok (.invokevirtual 64, 3) := by decide +kernel
theorem d_SS_seal_43 : decode b_SS_seal 43 = .ok (.istore 4, 2) := by decide +kernel
theorem d_SS_seal_45 : decode b_SS_seal 45 = .ok (.iconst 0, 1) := by decide +kernel
theorem d_SS_seal_46 : decode b_SS_seal 46 = .ok (.istore 5, 2) := by decide +kernel
theorem d_SS_seal_48 : decode b_SS_seal 48 = .ok (.iload 5, 2) := by decide +kernel
theorem d_SS_seal_50 : decode b_SS_seal 50 = .ok (.iconst 4, 1) := by decide +kernel
theorem d_SS_seal_51 : decode b_SS_seal 51 = .ok (.if_icmp .ge 28, 3) := by decide +kernel
theorem d_SS_seal_54 : decode b_SS_seal 54 = .ok (.aload_n 3, 1) := by decide +kernel
theorem d_SS_seal_55 : decode b_SS_seal 55 = .ok (.iload_n 2, 1) := by decide +kernel
theorem d_SS_seal_56 : decode b_SS_seal 56 = .ok (.iload 5, 2) := by decide +kernel
theorem d_SS_seal_58 : decode b_SS_seal 58 = .ok (.iadd, 1) := by decide +kernel
theorem d_SS_seal_59 : decode b_SS_seal 59 = .ok (.iload 4, 2) := by decide +kernel
theorem d_SS_seal_61 : decode b_SS_seal 61 = .ok (.bipush 24, 2) := by decide +kernel
theorem d_SS_seal_63 : decode b_SS_seal 63 = .ok (.bipush 8, 2) := by decide +kernel
theorem d_SS_seal_65 : decode b_SS_seal 65 = .ok (.iload 5, 2) := by decide +kernel
theorem d_SS_seal_67 : decode b_SS_seal 67 = .ok (.imul, 1) := by decide +kernel
theorem d_SS_seal_68 : decode b_SS_seal 68 = .ok (.isub, 1) := by decide +kernel
theorem d_SS_seal_69 : decode b_SS_seal 69 = .ok (.iushr, 1) := by decide +kernel
theorem d_SS_seal_70 : decode b_SS_seal 70 = .ok (.invokevirtual 55, 3) := by decide +kernel
theorem d_SS_seal_73 : decode b_SS_seal 73 = .ok (.iinc 5 1, 3) := by decide +kernel
theorem d_SS_seal_76 : decode b_SS_seal 76 = .ok (.goto (-28), 3) := by decide +kernel
theorem d_SS_seal_79 : decode b_SS_seal 79 = .ok (.return_, 1) := by decide +kernel
theorem d_SS_spoil_0 : decode b_SS_spoil 0 = .ok (.aload_n 0, 1) := by decide +kernel
theorem d_SS_spoil_1 : decode b_SS_spoil 1 = .ok (.getfield 12, 3) := by decide +kernel
theorem d_SS_spoil_4 : decode b_SS_spoil 4 = .ok (.getfield 30, 3) := by decide +kernel
theorem d_SS_spoil_7 : decode b_SS_spoil 7 = .ok (.astore_n 3, 1) := by decide +kernel
theorem d_SS_spoil_8 : decode b_SS_spoil 8 = .ok (.iload_n 1, 1) := by decide +kernel
theorem d_SS_spoil_9 : decode b_SS_spoil 9 = .ok (.ifCond .lt 11, 3) := by decide +kernel
theorem d_SS_spoil_12 : decode b_SS_spoil 12 = .ok (.iload_n 1, 1) := by decide +kernel
theorem d_SS_spoil_13 : decode b_SS_spoil 13 = .ok (.aload_n 3, 1) := by decide +kernel
theorem d_SS_spoil_14 : decode b_SS_spoil 14 = .ok (.getfield 34, 3) := by decide +kernel
theorem d_SS_spoil_17 : decode b_SS_spoil 17 = .ok (.if_icmp .lt 13, 3) := by decide +kernel
theorem d_SS_spoil_20 : decode b_SS_spoil 20 = .ok (.new 44, 3) := by decide +kernel
theorem d_SS_spoil_23 : decode b_SS_spoil 23 = .ok (.dup, 1) := by decide +kernel
theorem d_SS_spoil_24 : decode b_SS_spoil 24 = .ok (.ldc 46, 2) := by decide +kernel
theorem d_SS_spoil_26 : decode b_SS_spoil 26 = .ok (.invokespecial 48, 3) := by decide +kernel
theorem d_SS_spoil_29 : decode b_SS_spoil 29 = .ok (.athrow, 1) := by decide +kernel
theorem d_SS_spoil_30 : decode b_SS_spoil 30 = .ok (.iload_n 2, 1) := by decide +kernel
theorem d_SS_spoil_31 : decode b_SS_spoil 31 = .ok (.ifCond .lt 10, 3) := by decide +kernel
theorem d_SS_spoil_34 : decode b_SS_spoil 34 = .ok (.iload_n 2, 1) := by decide +kernel
theorem d_SS_spoil_35 : decode b_SS_spoil 35 = .ok (.sipush 255, 3) := by decide +kernel
theorem d_SS_spoil_38 : decode b_SS_spoil 38 = .ok (.if_icmp .le 13, 3) := by decide +kernel
theorem d_SS_spoil_41 : decode b_SS_spoil 41 = .ok (.new 23, 3) := by decide +kernel
theorem d_SS_spoil_44 : decode b_SS_spoil 44 = .ok (.dup, 1) := by decide +kernel
theorem d_SS_spoil_45 : decode b_SS_spoil 45 = .ok (.ldc 49, 2) := by decide +kernel
theorem d_SS_spoil_47 : decode b_SS_spoil 47 = .ok (.invokespecial 27, 3) := by decide +kernel
theorem d_SS_spoil_50 : decode b_SS_spoil 50 = .ok (.athrow, 1) := by decide +kernel
theorem d_SS_spoil_51 : decode b_SS_spoil 51 = .ok (.aload_n 3, 1) := by decide +kernel
theorem d_SS_spoil_52 : decode b_SS_spoil 52 = .ok (.iload_n 1, 1) := by decide +kernel
theorem d_SS_spoil_53 : decode b_SS_spoil 53 = .ok (.invokevirtual 51, 3) := by decide +kernel
theorem d_SS_spoil_56 : decode b_SS_spoil 56 = .ok (.istore 4, 2) := by decide +kernel
theorem d_SS_spoil_58 : decode b_SS_spoil 58 = .ok (.aload_n 3, 1) := by decide +kernel
theorem d_SS_spoil_59 : decode b_SS_spoil 59 = .ok (.iload_n 1, 1) := by decide +kernel
theorem d_SS_spoil_60 : decode b_SS_spoil 60 = .ok (.iload_n 2, 1) := by decide +kernel
theorem d_SS_spoil_61 : decode b_SS_spoil 61 = .ok (.invokevirtual 55, 3) := by decide +kernel
theorem d_SS_spoil_64 : decode b_SS_spoil 64 = .ok (.iload 4, 2) := by decide +kernel
theorem d_SS_spoil_66 : decode b_SS_spoil 66 = .ok (.ireturn, 1) := by decide +kernel
theorem d_SS_tape_0 : decode b_SS_tape 0 = .ok (.lconst 0, 1) := by decide +kernel
theorem d_SS_tape_1 : decode b_SS_tape 1 = .ok (.lstore_n 2, 1) := by decide +kernel
theorem d_SS_tape_2 : decode b_SS_tape 2 = .ok (.iconst 0, 1) := by decide +kernel
theorem d_SS_tape_3 : decode b_SS_tape 3 = .ok (.istore 4, 2) := by decide +kernel
theorem d_SS_tape_5 : decode b_SS_tape 5 = .ok (.iload 4, 2) := by decide +kernel
theorem d_SS_tape_7 : decode b_SS_tape 7 = .ok (.bipush 8, 2) := by decide +kernel
theorem d_SS_tape_9 : decode b_SS_tape 9 = .ok (.if_icmp .ge 33, 3) := by decide +kernel
theorem d_SS_tape_12 : decode b_SS_tape 12 = .ok (.lload_n 2, 1) := by decide +kernel
theorem d_SS_tape_13 : decode b_SS_tape 13 = .ok (.aload_n 0, 1) := by decide +kernel
theorem d_SS_tape_14 : decode b_SS_tape 14 = .ok (.getfield 12, 3) := by decide +kernel
theorem d_SS_tape_17 : decode b_SS_tape 17 = .ok (.getfield 30, 3) := by decide +kernel
theorem d_SS_tape_20 : decode b_SS_tape 20 = .ok (.iload_n 1, 1) := by decide +kernel
theorem d_SS_tape_21 : decode b_SS_tape 21 = .ok (.iload 4, 2) := by decide +kernel
theorem d_SS_tape_23 : decode b_SS_tape 23 = .ok (.iadd, 1) := by decide +kernel
theorem d_SS_tape_24 : decode b_SS_tape 24 = .ok (.invokevirtual 51, 3) := by decide +kernel
theorem d_SS_tape_27 : decode b_SS_tape 27 = .ok (.i2l, 1) := by decide +kernel
theorem d_SS_tape_28 : decode b_SS_tape 28 = .ok (.bipush 8, 2) := by decide +kernel
theorem d_SS_tape_30 : decode b_SS_tape 30 = .ok (.iload 4, 2) := by decide +kernel
theorem d_SS_tape_32 : decode b_SS_tape 32 = .ok (.imul, 1) := by decide +kernel
theorem d_SS_tape_33 : decode b_SS_tape 33 = .ok (.lshl, 1) := by decide +kernel
theorem d_SS_tape_34 : decode b_SS_tape 34 = .ok (.lor, 1) := by decide +kernel
theorem d_SS_tape_35 : decode b_SS_tape 35 = .ok (.lstore_n 2, 1) := by decide +kernel
theorem d_SS_tape_36 : decode b_SS_tape 36 = .ok (.iinc 4 1, 3) := by decide +kernel
theorem d_SS_tape_39 : decode b_SS_tape 39 = .ok (.goto (-34), 3) := by decide +kernel
theorem d_SS_tape_42 : decode b_SS_tape 42 = .ok (.lload_n 2, 1) := by decide +kernel
theorem d_SS_tape_43 : decode b_SS_tape 43 = .ok (.lreturn, 1) := by decide +kernel
set_option maxHeartbeats 4000000 in
set_option maxRecDepth 100000 in
theorem c_SS_spoil (l : Launch) (D : va_G) (hfl : l.stackTraces = false) (B0 : State) (hG : zG B0) (sz : Nat) (cB : ClassId) (h d rc ln tb ct dp tp : Nat) (a n : Nat) (f : Nat → Int32) (i v : Int32) (hn : n ≤ 9400) : MetT l y_SS_spoil [Cond.code y_SS_spoil b_SS_spoil 5 (some .int)] ({ frames := 6, cells := 1, slots := 6, locals := 82 }) (zMo [.ref h, .int i, .int v] D [(h, .inr (11, [.ref rc, .ref d])), (rc, .inr (4, [.ref tp, .ref ln, .ref tb, .ref ct, .ref dp])), (tp, .inr (0, [.ref a, .int (nI n)])), (a, .inl (cB, 9400, .inl f))] [(cB, .byte)] sz B0) (zQi (fun r (u : Nat) => u < n ∧ i = nI u ∧ ¬ v < 0 ∧ ¬ 255 < v ∧ r = rw_at f n 9400 i) (fun (u : Nat) t => zW D (va_A [(h, .inr (11, [.ref rc, .ref d])), (rc, .inr (4, [.ref tp, .ref ln, .ref tb, .ref ct, .ref dp])), (tp, .inr (0, [.ref a, .int (nI n)])), (a, .inl (cB, 9400, .inl f))] sz) [(h, .inr (11, [.ref rc, .ref d])), (rc, .inr (4, [.ref tp, .ref ln, .ref tb, .ref ct, .ref dp])), (tp, .inr (0, [.ref a, .int (nI n)])), (a, .inl (cB, 9400, .inl (upd f u (by8 v))))] [(cB, .byte)] t) (va_A [(h, .inr (11, [.ref rc, .ref d])), (rc, .inr (4, [.ref tp, .ref ln, .ref tb, .ref ct, .ref dp])), (tp, .inr (0, [.ref a, .int (nI n)])), (a, .inl (cB, 9400, .inl f))] sz) (fun X => (X = xB ∧ (i < 0 ∨ nI n ≤ i)) ∨ (X = xA ∧ ¬ i < 0 ∧ ¬ nI n ≤ i ∧ (v < 0 ∨ 255 < v)))) 1 6 (va_A [(h, .inr (11, [.ref rc, .ref d])), (rc, .inr (4, [.ref tp, .ref ln, .ref tb, .ref ct, .ref dp])), (tp, .inr (0, [.ref a, .int (nI n)])), (a, .inl (cB, 9400, .inl f))] sz) := by
  refine MetT.ofW (cc := b_SS_spoil) (maxL := 5) (ret := (some .int)) (by decide) rfl ?_
  intro p e s m args below meth cd s₁ Bd hml hem hv
  obtain ⟨rfl, hsz, hP, hK, hN, hD0, hO⟩ := hv
  have hx := Bd.exec
  have hb := Bd.bytes
  have hr := Bd.returns
  have hts := hN.use (a := ([.ref h, .int i, .int v]).toArray)
  have hown : s.vm.findClass R_SS = some m.cls := findClass_of_methodNamed Bd.named
  have hlocks := Bd.notSynchronized
  subst hsz
  have hD := hD0.self (sz := s.heap.size)
  have hAO := z_AO hD0 hO
  clear hD0
  have hA : ∀ q : Nat, s.heap.size ≤ q → va_A [(h, .inr (11, [.ref rc, .ref d])), (rc, .inr (4, [.ref tp, .ref ln, .ref tb, .ref ct, .ref dp])), (tp, .inr (0, [.ref a, .int (nI n)])), (a, .inl (cB, 9400, .inl f))] s.heap.size q := fun q h => Or.inr h
  have hS : va_S (va_A [(h, .inr (11, [.ref rc, .ref d])), (rc, .inr (4, [.ref tp, .ref ln, .ref tb, .ref ct, .ref dp])), (tp, .inr (0, [.ref a, .int (nI n)])), (a, .inl (cB, 9400, .inl f))] s.heap.size) s.heap s.heap [] := va_S.rf
  generalize hAe : va_A [(h, .inr (11, [.ref rc, .ref d])), (rc, .inr (4, [.ref tp, .ref ln, .ref tb, .ref ct, .ref dp])), (tp, .inr (0, [.ref a, .int (nI n)])), (a, .inl (cB, 9400, .inl f))] s.heap.size = A at hD hA hS hAO ⊢
  have hP : va_P D classes [(h, .inr (11, [.ref rc, .ref d])), (rc, .inr (4, [.ref tp, .ref ln, .ref tb, .ref ct, .ref dp])), (tp, .inr (0, [.ref a, .int (nI n)])), (a, .inl (cB, 9400, .inl f))] s.heap := hP
  have hl := lv_entry ([.ref h, .int i, .int v]) (n := 5) (Nat.le_of_ble_eq_true rfl)
  rw [lg_entry_eq]
  generalize (lg_sl ([.ref h, .int i, .int v]) ++ List.replicate (5 - (lg_sl ([.ref h, .int i, .int v])).length) Slot.unset).toArray = ls at hl ⊢
  have hl : lv_has ls 5 [(0, .ref h), (1, .int i), (2, .int v)] := hl
  refine lv_aload_n hx hb d_SS_spoil_0 rfl (lv_at hl 0 rfl) ?_
  refine va_get (D := D) (ci := 11) (v := .ref rc) (C := R_SS) (T := F_SS) (N := 2) hx hb hts i_SS hown hK hP 0 rfl rfl 0 (by decide) (hts _ wd_198) (fun _ h9 => h9) rfl d_SS_spoil_1 ?_
  refine va_getN (D := D) (ci := 4) (v := .ref tp) (C := R_Receiver) (T := F_Receiver) (N := 5) hx hb hts i_Receiver hown hK hP 1 rfl rfl 0 (by decide) (hts _ wd_176) (fun _ h9 => h9) rfl d_SS_spoil_4 ?_
  refine lv_astore_n (lv' := [(3, .ref tp), (0, .ref h), (1, .int i), (2, .int v)]) hx hb d_SS_spoil_7 rfl hl (by decide) rfl (fun ls hl => ?_)
  refine lv_iload_n hx hb d_SS_spoil_8 rfl (lv_at hl 2 rfl) ?_
  refine lv_if_lt (tgt := 20) hx hb d_SS_spoil_9 rfl (fun h9 => ?_) (fun h9 => ?_)
  · refine W.newc hx hb hown (hts _ wd_775) (hts _ wd_776) (hts _ wd_72) rfl d_SS_spoil_20 (by show 0 + 1 ≤ 1; omega) (by show 0 + 6 ≤ 6; omega) (fun cX kX hfX hkX _ _ => ?_)
    refine W.eq (g2 := F0 m 23 ls [.ref s.heap.size]) rfl ?_
    refine W.widen (k := 1) (n := 6) (by omega) (by omega) ?_
    refine lv_dup hx hb d_SS_spoil_23 rfl ?_
    refine z_ldcs hx hb hown (z_str hG hO (List.mem_of_getElem? (i := 784) (by decide +kernel) : (Jvm.Cond.stringRef "StreamSplitter" (46 : Nat) "there is no byte i") ∈ lw_tbl)) d_SS_spoil_24 (fun msg => ?_)
    exact z_throw (X := xB) (names := ["java/lang/RuntimeException", "java/lang/Exception"]) hx hb hfl hown (by decide) z_fits (fun a ha => z_oa hG hO (z_oaB a ha)) hem (by rw [hml]; exact hl.1) hfX hkX z_pushAt (Nat.le_refl _) d_SS_spoil_26 d_SS_spoil_29 (Nat.le_of_ble_eq_true rfl) (Nat.le_of_ble_eq_true rfl) hlocks (fun t ht hW => Or.inr ⟨xB, _, (Or.inl ⟨rfl, by first | exact Or.inl h9 | exact Or.inr (Int32.not_lt.mp h17)⟩), rfl, ht⟩)
  · refine lv_iload_n hx hb d_SS_spoil_12 rfl (lv_at hl 2 rfl) ?_
    refine lv_aload_n hx hb d_SS_spoil_13 rfl (lv_at hl 0 rfl) ?_
    refine va_getN (D := D) (ci := 0) (v := .int (nI n)) (C := R_Row) (T := F_Row) (N := 2) hx hb hts i_Row hown hK hP 2 rfl rfl 1 (by decide) (hts _ wd_109) (fun _ h9 => h9) rfl d_SS_spoil_14 ?_
    refine lv_icmp_lt (tgt := 30) hx hb d_SS_spoil_17 rfl (fun h17 => ?_) (fun h17 => ?_)
    · obtain ⟨k, hk, hik⟩ := z_in h9 h17 (by omega)
      subst hik
      refine lv_iload_n hx hb d_SS_spoil_30 rfl (lv_at hl 3 rfl) ?_
      refine lv_if_lt (tgt := 41) hx hb d_SS_spoil_31 rfl (fun h31 => ?_) (fun h31 => ?_)
      · refine W.newc hx hb hown (hts _ wd_700) (hts _ wd_701) (hts _ wd_71) rfl d_SS_spoil_41 (by show 0 + 1 ≤ 1; omega) (by show 0 + 6 ≤ 6; omega) (fun cX kX hfX hkX _ _ => ?_)
        refine W.eq (g2 := F0 m 44 ls [.ref s.heap.size]) rfl ?_
        refine W.widen (k := 1) (n := 6) (by omega) (by omega) ?_
        refine lv_dup hx hb d_SS_spoil_44 rfl ?_
        refine z_ldcs hx hb hown (z_str hG hO (List.mem_of_getElem? (i := 791) (by decide +kernel) : (Jvm.Cond.stringRef "StreamSplitter" (49 : Nat) "v is not 0 .. 255") ∈ lw_tbl)) d_SS_spoil_45 (fun msg => ?_)
        exact z_throw (X := xA) (names := ["java/lang/RuntimeException", "java/lang/Exception"]) hx hb hfl hown (by decide) z_fits (fun a ha => z_oa hG hO (z_oaA a ha)) hem (by rw [hml]; exact hl.1) hfX hkX z_pushAt (Nat.le_refl _) d_SS_spoil_47 d_SS_spoil_50 (Nat.le_of_ble_eq_true rfl) (Nat.le_of_ble_eq_true rfl) hlocks (fun t ht hW => Or.inr ⟨xA, _, (Or.inr ⟨rfl, h9, Int32.not_le.mpr h17, by first | exact Or.inl h31 | exact Or.inr (Int32.not_le.mp h38)⟩), rfl, ht⟩)
      · refine lv_iload_n hx hb d_SS_spoil_34 rfl (lv_at hl 3 rfl) ?_
        refine lv_sipush (v := 255) hx hb d_SS_spoil_35 (by decide) ?_
        refine lv_icmp_le (tgt := 51) hx hb d_SS_spoil_38 rfl (fun h38 => ?_) (fun h38 => ?_)
        · refine lv_aload_n hx hb d_SS_spoil_51 rfl (lv_at hl 0 rfl) ?_
          refine lv_iload_n hx hb d_SS_spoil_52 rfl (lv_at hl 2 rfl) ?_
          have hPc := hP.sub (ws' := [(tp, .inr (0, [.ref a, .int (nI n)])), (a, .inl (cB, 9400, .inl f))]) [2, 3] rfl
          have hKc := hK.sub (tys' := [(cB, .byte)]) [0] rfl
          refine z_ci (va_runV (As := [.int (nI k)]) (rest := []) ⟨hx, hb, hml, hown, hts⟩ (c_Row_at l D cB tp a n 9400 f (nI k) (by omega)) (z_cV hN wd_212 wd_61 wd_209 hd_Row_at rfl rfl ⟨Nat.le_of_ble_eq_true rfl, Nat.le_of_ble_eq_true rfl⟩ wd_210 wd_211) (z_preV (va_recv (ci := 0) (q0 := 2) hK hP rfl rfl) hPc hKc hN) rfl rfl hl.1 rfl (lv_room (Nat.le_of_ble_eq_true rfl)) d_SS_spoil_53 ⟨Nat.le_of_ble_eq_true rfl, Nat.le_of_ble_eq_true rfl⟩) (fun r53 e53 => ?_)
          subst e53
          refine lv_istore (lv' := [(4, .int (rw_at f n 9400 (nI k))), (3, .ref tp), (0, .ref h), (1, .int (nI k)), (2, .int v)]) hx hb d_SS_spoil_56 hl (by decide) rfl (fun ls hl => ?_)
          refine lv_aload_n hx hb d_SS_spoil_58 rfl (lv_at hl 1 rfl) ?_
          refine lv_iload_n hx hb d_SS_spoil_59 rfl (lv_at hl 3 rfl) ?_
          refine lv_iload_n hx hb d_SS_spoil_60 rfl (lv_at hl 4 rfl) ?_
          have hPc := hP.sub (ws' := [(tp, .inr (0, [.ref a, .int (nI n)])), (a, .inl (cB, 9400, .inl f))]) [2, 3] rfl
          have hKc := hK.sub (tys' := [(cB, .byte)]) [0] rfl
          have hDc := hD.sub (ws' := [(tp, .inr (0, [.ref a, .int (nI n)])), (a, .inl (cB, 9400, .inl f))]) [2, 3] (by decide) rfl
          have hFc := va_free (wc := [(tp, .inr (0, [.ref a, .int (nI n)])), (a, .inl (cB, 9400, .inl f))]) hD hS hA [2, 3] rfl
          refine va_callv (va_runV (As := [.int (nI k), .int v]) (rest := []) ⟨hx, hb, hml, hown, hts⟩ (c_Row_put l D s.heap.size cB tp a n 9400 f k v (by omega) hn hk) (z_cV hN wd_795 wd_61 wd_792 hd_Row_put rfl rfl ⟨Nat.le_of_ble_eq_true rfl, Nat.le_of_ble_eq_true rfl⟩ wd_793 wd_794) (z_preVm (va_recv (ci := 0) (q0 := 2) hK hP rfl rfl) hPc hKc hN hDc) rfl rfl hl.1 rfl (lv_room (Nat.le_of_ble_eq_true rfl)) d_SS_spoil_61 ⟨Nat.le_of_ble_eq_true rfl, Nat.le_of_ble_eq_true rfl⟩) hS (fun q _ h => hFc q h) hFc (fun u61 t H locs ht hvm e61 hB hz1 hk1 hS => ?_)
          obtain ⟨hP1, hK1, hD1⟩ := hB
          rw [ht] at hP1
          obtain ⟨hP, hD⟩ := va_join (wr := [(h, .inr (11, [.ref rc, .ref d])), (rc, .inr (4, [.ref tp, .ref ln, .ref tb, .ref ct, .ref dp]))]) (w1 := [(tp, .inr (0, [.ref a, .int (nI n)])), (a, .inl (cB, 9400, .inl (upd f k (by8 v))))]) hP hD [2, 3] [0, 1] rfl rfl (by decide) (by decide) hk1 hFc hP1 hD1
          clear hk1 hP1 hD1 hFc hPc hDc hz1
          have hP : va_P D classes [(h, .inr (11, [.ref rc, .ref d])), (rc, .inr (4, [.ref tp, .ref ln, .ref tb, .ref ct, .ref dp])), (tp, .inr (0, [.ref a, .int (nI n)])), (a, .inl (cB, 9400, .inl (upd f k (by8 v))))] H := hP
          have hD : va_D A [(h, .inr (11, [.ref rc, .ref d])), (rc, .inr (4, [.ref tp, .ref ln, .ref tb, .ref ct, .ref dp])), (tp, .inr (0, [.ref a, .int (nI n)])), (a, .inl (cB, 9400, .inl (upd f k (by8 v))))] := hD
          refine lv_iload hx hb d_SS_spoil_64 (lv_at hl 0 rfl) ?_
          have hP9 := hP.sub (ws' := [(h, .inr (11, [.ref rc, .ref d])), (rc, .inr (4, [.ref tp, .ref ln, .ref tb, .ref ct, .ref dp])), (tp, .inr (0, [.ref a, .int (nI n)])), (a, .inl (cB, 9400, .inl (upd f k (by8 v))))]) [0, 1, 2, 3] rfl
          have hD9 := hD.sub (ws' := [(h, .inr (11, [.ref rc, .ref d])), (rc, .inr (4, [.ref tp, .ref ln, .ref tb, .ref ct, .ref dp])), (tp, .inr (0, [.ref a, .int (nI n)])), (a, .inl (cB, 9400, .inl (upd f k (by8 v))))]) [0, 1, 2, 3] (by decide) rfl
          have hK9 := hK.sub (tys' := [(cB, .byte)]) [0] rfl
          refine W.widen (k := 1) (n := 6) (by omega) (by omega) ?_
          exact W.mono MQ.toT (W.iret (v := (rw_at f n 9400 (nI k))) hx hb hr (fun t ht hW => Or.inl ⟨_, k, rfl, ⟨hk, rfl, h31, Int32.not_lt.mpr h38, rfl⟩, ⟨by rw [ht]; exact hP9, va_K.moved hW.alike hK9, hD9⟩, hS.F ht⟩) hS.2.2 d_SS_spoil_66)
        · refine W.newc hx hb hown (hts _ wd_700) (hts _ wd_701) (hts _ wd_71) rfl d_SS_spoil_41 (by show 0 + 1 ≤ 1; omega) (by show 0 + 6 ≤ 6; omega) (fun cX kX hfX hkX _ _ => ?_)
          refine W.eq (g2 := F0 m 44 ls [.ref s.heap.size]) rfl ?_
          refine W.widen (k := 1) (n := 6) (by omega) (by omega) ?_
          refine lv_dup hx hb d_SS_spoil_44 rfl ?_
          refine z_ldcs hx hb hown (z_str hG hO (List.mem_of_getElem? (i := 791) (by decide +kernel) : (Jvm.Cond.stringRef "StreamSplitter" (49 : Nat) "v is not 0 .. 255") ∈ lw_tbl)) d_SS_spoil_45 (fun msg => ?_)
          exact z_throw (X := xA) (names := ["java/lang/RuntimeException", "java/lang/Exception"]) hx hb hfl hown (by decide) z_fits (fun a ha => z_oa hG hO (z_oaA a ha)) hem (by rw [hml]; exact hl.1) hfX hkX z_pushAt (Nat.le_refl _) d_SS_spoil_47 d_SS_spoil_50 (Nat.le_of_ble_eq_true rfl) (Nat.le_of_ble_eq_true rfl) hlocks (fun t ht hW => Or.inr ⟨xA, _, (Or.inr ⟨rfl, h9, Int32.not_le.mpr h17, by first | exact Or.inl h31 | exact Or.inr (Int32.not_le.mp h38)⟩), rfl, ht⟩)
    · refine W.newc hx hb hown (hts _ wd_775) (hts _ wd_776) (hts _ wd_72) rfl d_SS_spoil_20 (by show 0 + 1 ≤ 1; omega) (by show 0 + 6 ≤ 6; omega) (fun cX kX hfX hkX _ _ => ?_)
      refine W.eq (g2 := F0 m 23 ls [.ref s.heap.size]) rfl ?_
      refine W.widen (k := 1) (n := 6) (by omega) (by omega) ?_
      refine lv_dup hx hb d_SS_spoil_23 rfl ?_
      refine z_ldcs hx hb hown (z_str hG hO (List.mem_of_getElem? (i := 784) (by decide +kernel) : (Jvm.Cond.stringRef "StreamSplitter" (46 : Nat) "there is no byte i") ∈ lw_tbl)) d_SS_spoil_24 (fun msg => ?_)
      exact z_throw (X := xB) (names := ["java/lang/RuntimeException", "java/lang/Exception"]) hx hb hfl hown (by decide) z_fits (fun a ha => z_oa hG hO (z_oaB a ha)) hem (by rw [hml]; exact hl.1) hfX hkX z_pushAt (Nat.le_refl _) d_SS_spoil_26 d_SS_spoil_29 (Nat.le_of_ble_eq_true rfl) (Nat.le_of_ble_eq_true rfl) hlocks (fun t ht hW => Or.inr ⟨xB, _, (Or.inl ⟨rfl, by first | exact Or.inl h9 | exact Or.inr (Int32.not_lt.mp h17)⟩), rfl, ht⟩)
set_option maxHeartbeats 4000000 in
set_option maxRecDepth 100000 in
theorem c_SS_tape (l : Launch) (D : va_G) (cB : ClassId) (h d rc ln tb ct dp tp : Nat) (a n : Nat) (f : Nat → Int32) (i : Int32)  : Met l y_SS_tape [Cond.code y_SS_tape b_SS_tape 5 (some .long)] ({ frames := 1, cells := 0, slots := 0, locals := 21 }) (zP [.ref h, .int i] D [(h, .inr (11, [.ref rc, .ref d])), (rc, .inr (4, [.ref tp, .ref ln, .ref tb, .ref ct, .ref dp])), (tp, .inr (0, [.ref a, .int (nI n)])), (a, .inl (cB, 9400, .inl f))] [(cB, .byte)]) (vp_Sl (fun r => r = tp_l f n i 8)) 0 0 (fun _ => False) := by
  refine Met.ofW (cc := b_SS_tape) (maxL := 5) (ret := (some .long)) (by decide) rfl ?_
  intro p e s m args below meth cd s₁ Bd hml hv
  obtain ⟨rfl, hP, hK, hN⟩ := hv
  have hx := Bd.exec
  have hb := Bd.bytes
  have hr := Bd.returns
  have hts := hN.use (a := ([.ref h, .int i]).toArray)
  have hown : s.vm.findClass R_SS = some m.cls := findClass_of_methodNamed Bd.named
  have hlocks := Bd.notSynchronized
  have hP : va_P D classes [(h, .inr (11, [.ref rc, .ref d])), (rc, .inr (4, [.ref tp, .ref ln, .ref tb, .ref ct, .ref dp])), (tp, .inr (0, [.ref a, .int (nI n)])), (a, .inl (cB, 9400, .inl f))] s.heap := hP
  have hl := lv_entry ([.ref h, .int i]) (n := 5) (Nat.le_of_ble_eq_true rfl)
  rw [lg_entry_eq]
  generalize (lg_sl ([.ref h, .int i]) ++ List.replicate (5 - (lg_sl ([.ref h, .int i])).length) Slot.unset).toArray = ls at hl ⊢
  have hl : lv_has ls 5 [(0, .ref h), (1, .int i)] := hl
  refine lv_lconst (v := 0) hx hb d_SS_tape_0 (by decide) ?_
  refine lv_lstore_n (lv' := [(2, .long 0), (0, .ref h), (1, .int i)]) hx hb d_SS_tape_1 rfl hl (by decide) rfl (fun ls hl => ?_)
  refine lv_iconst (v := 0) hx hb d_SS_tape_2 (by decide) ?_
  refine lv_istore (lv' := [(4, .int 0), (2, .long 0), (0, .ref h), (1, .int i)]) hx hb d_SS_tape_3 hl (by decide) rfl (fun ls hl => ?_)
  have loop5 : ∀ (N : Nat) (j : Nat) (ls : Array Slot) (hm : 8 - j < N) (hj : j ≤ 8) (hl : lv_has ls 5 [(0, .ref h), (1, .int i), (2, .long (tp_l f n i j)), (4, .int (nI j))]), W p l e ({ frames := 1, cells := 0, slots := 0, locals := 21 }) s m ([.ref h, .int i]).toArray below meth cd s.heap [] 0 0 (MQ below (vp_Sl (fun r => r = tp_l f n i 8)) ([.ref h, .int i]).toArray s 0 0 (fun _ => False)) (F0 m 5 ls []) := by
    intro N5
    induction N5 with
    | zero => intro j ls hm hj hl; exact absurd hm (Nat.not_lt_zero _)
    | succ N5 ih5 =>
      intro j ls hm hj hl
      refine lv_iload hx hb d_SS_tape_5 (lv_at hl 3 rfl) ?_
      refine lv_bipush (v := 8) hx hb d_SS_tape_7 (by decide) ?_
      refine lv_icmp_ge (tgt := 42) hx hb d_SS_tape_9 rfl (fun h9 => ?_) (fun h9 => ?_)
      · have h9 : 8 ≤ j := (nI_leI (a := 8) (by omega) (by omega)).mp h9
        have hj8 : 8 = j := by omega
        refine lv_lload_n hx hb d_SS_tape_42 rfl (lv_at hl 2 rfl) ?_
        exact W.lret (v := (tp_l f n i j)) hx hb hr (fun t ht hW => ⟨_, rfl, (by rw [hj8]), ht⟩) (fun _ h => by cases h) d_SS_tape_43
      · have h9 : ¬ 8 ≤ j := mt (nI_leI (a := 8) (by omega) (by omega)).mpr h9
        refine lv_lload_n hx hb d_SS_tape_12 rfl (lv_at hl 2 rfl) ?_
        refine lv_aload_n hx hb d_SS_tape_13 rfl (lv_at hl 0 rfl) ?_
        refine va_get (D := D) (ci := 11) (v := .ref rc) (C := R_SS) (T := F_SS) (N := 2) hx hb hts i_SS hown hK hP 0 rfl rfl 0 (by decide) (hts _ wd_198) (fun _ h9 => h9) rfl d_SS_tape_14 ?_
        refine va_getN (D := D) (ci := 4) (v := .ref tp) (C := R_Receiver) (T := F_Receiver) (N := 5) hx hb hts i_Receiver hown hK hP 1 rfl rfl 0 (by decide) (hts _ wd_176) (fun _ h9 => h9) rfl d_SS_tape_17 ?_
        refine lv_iload_n hx hb d_SS_tape_20 rfl (lv_at hl 1 rfl) ?_
        refine lv_iload hx hb d_SS_tape_21 (lv_at hl 3 rfl) ?_
        refine lv_iadd hx hb d_SS_tape_23 ?_
        have hPc := hP.sub (ws' := [(tp, .inr (0, [.ref a, .int (nI n)])), (a, .inl (cB, 9400, .inl f))]) [2, 3] rfl
        have hKc := hK.sub (tys' := [(cB, .byte)]) [0] rfl
        refine z_ci (va_runV (As := [.int (i + nI j)]) (rest := [.long (tp_l f n i j)]) ⟨hx, hb, hml, hown, hts⟩ (c_Row_at l D cB tp a n 9400 f (i + nI j) (by omega)) (z_cV hN wd_212 wd_61 wd_209 hd_Row_at rfl rfl ⟨Nat.le_of_ble_eq_true rfl, Nat.le_of_ble_eq_true rfl⟩ wd_210 wd_211) (z_preV (va_recv (ci := 0) (q0 := 2) hK hP rfl rfl) hPc hKc hN) rfl rfl hl.1 rfl (lv_room (Nat.le_of_ble_eq_true rfl)) d_SS_tape_24 ⟨Nat.le_of_ble_eq_true rfl, Nat.le_of_ble_eq_true rfl⟩) (fun r24 e24 => ?_)
        subst e24
        refine lv_i2l (v := (rw_at f n 9400 (i + nI j)).toInt64) hx hb d_SS_tape_27 rfl ?_
        refine lv_bipush (v := 8) hx hb d_SS_tape_28 (by decide) ?_
        refine lv_iload hx hb d_SS_tape_30 (lv_at hl 3 rfl) ?_
        refine lv_imul hx hb d_SS_tape_32 ?_
        refine lv_lshl (v := ((rw_at f n 9400 (i + nI j)).toInt64) <<< ((8 * (nI j)).toInt64 &&& 63)) hx hb d_SS_tape_33 rfl ?_
        refine lv_lor hx hb d_SS_tape_34 ?_
        refine z_topl (w := tp_l f n i (j + 1)) rfl ?_
        refine lv_lstore_n (lv' := [(2, .long (tp_l f n i (j + 1))), (0, .ref h), (1, .int i), (4, .int (nI j))]) hx hb d_SS_tape_35 rfl hl (by decide) rfl (fun ls hl => ?_)
        refine lv_iinc (k := 3) (v := nI (j + 1)) (lv' := [(4, .int (nI (j + 1))), (2, .long (tp_l f n i (j + 1))), (0, .ref h), (1, .int i)]) hx hb d_SS_tape_36 hl rfl (nI_1 j) (by decide) rfl (fun ls hl => ?_)
        refine lv_goto (tgt := 5) hx hb d_SS_tape_39 rfl ?_
        exact ih5 (j + 1) ls (by omega) (by omega) (lv_sub hl [2, 3, 1, 0] rfl)
  exact loop5 _ 0 ls (Nat.lt_succ_self _) (Nat.zero_le _) (lv_sub hl [2, 3, 1, 0] rfl)
set_option maxHeartbeats 4000000 in
set_option maxRecDepth 100000 in
theorem c_SS_drop (l : Launch) (D : va_G) (hfl : l.stackTraces = false) (B0 : State) (hG : zG B0) (sz : Nat) (cB : ClassId) (h d rc ln tb ct dp tp : Nat) (a n : Nat) (f : Nat → Int32) (i c : Int32) (hn : n ≤ 9400) (hf : sb_Fit f) : MetT l y_SS_drop [Cond.code y_SS_drop b_SS_drop 4 (some .int)] ({ frames := 6, cells := 1, slots := 6, locals := 82 }) (zMo [.ref h, .int i, .int c] D [(h, .inr (11, [.ref rc, .ref d])), (rc, .inr (4, [.ref tp, .ref ln, .ref tb, .ref ct, .ref dp])), (tp, .inr (0, [.ref a, .int (nI n)])), (a, .inl (cB, 9400, .inl f))] [(cB, .byte)] sz B0) (zQi (fun r (u : Nat × Nat) => u.1 + u.2 ≤ n ∧ i = nI u.1 ∧ c = nI u.2 ∧ r = nI (n - u.2)) (fun (u : Nat × Nat) t => zW D (va_A [(h, .inr (11, [.ref rc, .ref d])), (rc, .inr (4, [.ref tp, .ref ln, .ref tb, .ref ct, .ref dp])), (tp, .inr (0, [.ref a, .int (nI n)])), (a, .inl (cB, 9400, .inl f))] sz) [(h, .inr (11, [.ref rc, .ref d])), (rc, .inr (4, [.ref tp, .ref ln, .ref tb, .ref ct, .ref dp])), (tp, .inr (0, [.ref a, .int (nI (n - u.2))])), (a, .inl (cB, 9400, .inl (va_cpy f f (u.1 + u.2) u.1 (n - u.1 - u.2))))] [(cB, .byte)] t) (va_A [(h, .inr (11, [.ref rc, .ref d])), (rc, .inr (4, [.ref tp, .ref ln, .ref tb, .ref ct, .ref dp])), (tp, .inr (0, [.ref a, .int (nI n)])), (a, .inl (cB, 9400, .inl f))] sz) (fun X => X = xB ∧ (i < 0 ∨ c < 0 ∨ nI n - i < c))) 1 6 (va_A [(h, .inr (11, [.ref rc, .ref d])), (rc, .inr (4, [.ref tp, .ref ln, .ref tb, .ref ct, .ref dp])), (tp, .inr (0, [.ref a, .int (nI n)])), (a, .inl (cB, 9400, .inl f))] sz) := by
  refine MetT.ofW (cc := b_SS_drop) (maxL := 4) (ret := (some .int)) (by decide) rfl ?_
  intro p e s m args below meth cd s₁ Bd hml hem hv
  obtain ⟨rfl, hsz, hP, hK, hN, hD0, hO⟩ := hv
  have hx := Bd.exec
  have hb := Bd.bytes
  have hr := Bd.returns
  have hts := hN.use (a := ([.ref h, .int i, .int c]).toArray)
  have hown : s.vm.findClass R_SS = some m.cls := findClass_of_methodNamed Bd.named
  have hlocks := Bd.notSynchronized
  subst hsz
  have hD := hD0.self (sz := s.heap.size)
  have hAO := z_AO hD0 hO
  clear hD0
  have hA : ∀ q : Nat, s.heap.size ≤ q → va_A [(h, .inr (11, [.ref rc, .ref d])), (rc, .inr (4, [.ref tp, .ref ln, .ref tb, .ref ct, .ref dp])), (tp, .inr (0, [.ref a, .int (nI n)])), (a, .inl (cB, 9400, .inl f))] s.heap.size q := fun q h => Or.inr h
  have hS : va_S (va_A [(h, .inr (11, [.ref rc, .ref d])), (rc, .inr (4, [.ref tp, .ref ln, .ref tb, .ref ct, .ref dp])), (tp, .inr (0, [.ref a, .int (nI n)])), (a, .inl (cB, 9400, .inl f))] s.heap.size) s.heap s.heap [] := va_S.rf
  generalize hAe : va_A [(h, .inr (11, [.ref rc, .ref d])), (rc, .inr (4, [.ref tp, .ref ln, .ref tb, .ref ct, .ref dp])), (tp, .inr (0, [.ref a, .int (nI n)])), (a, .inl (cB, 9400, .inl f))] s.heap.size = A at hD hA hS hAO ⊢
  have hP : va_P D classes [(h, .inr (11, [.ref rc, .ref d])), (rc, .inr (4, [.ref tp, .ref ln, .ref tb, .ref ct, .ref dp])), (tp, .inr (0, [.ref a, .int (nI n)])), (a, .inl (cB, 9400, .inl f))] s.heap := hP
  have hl := lv_entry ([.ref h, .int i, .int c]) (n := 4) (Nat.le_of_ble_eq_true rfl)
  rw [lg_entry_eq]
  generalize (lg_sl ([.ref h, .int i, .int c]) ++ List.replicate (4 - (lg_sl ([.ref h, .int i, .int c])).length) Slot.unset).toArray = ls at hl ⊢
  have hl : lv_has ls 4 [(0, .ref h), (1, .int i), (2, .int c)] := hl
  refine lv_aload_n hx hb d_SS_drop_0 rfl (lv_at hl 0 rfl) ?_
  refine va_get (D := D) (ci := 11) (v := .ref rc) (C := R_SS) (T := F_SS) (N := 2) hx hb hts i_SS hown hK hP 0 rfl rfl 0 (by decide) (hts _ wd_198) (fun _ h9 => h9) rfl d_SS_drop_1 ?_
  refine va_getN (D := D) (ci := 4) (v := .ref tp) (C := R_Receiver) (T := F_Receiver) (N := 5) hx hb hts i_Receiver hown hK hP 1 rfl rfl 0 (by decide) (hts _ wd_176) (fun _ h9 => h9) rfl d_SS_drop_4 ?_
  refine lv_astore_n (lv' := [(3, .ref tp), (0, .ref h), (1, .int i), (2, .int c)]) hx hb d_SS_drop_7 rfl hl (by decide) rfl (fun ls hl => ?_)
  refine lv_iload_n hx hb d_SS_drop_8 rfl (lv_at hl 2 rfl) ?_
  refine lv_if_lt (tgt := 26) hx hb d_SS_drop_9 rfl (fun h9 => ?_) (fun h9 => ?_)
  · refine W.newc hx hb hown (hts _ wd_775) (hts _ wd_776) (hts _ wd_72) rfl d_SS_drop_26 (by show 0 + 1 ≤ 1; omega) (by show 0 + 6 ≤ 6; omega) (fun cX kX hfX hkX _ _ => ?_)
    refine W.eq (g2 := F0 m 29 ls [.ref s.heap.size]) rfl ?_
    refine W.widen (k := 1) (n := 6) (by omega) (by omega) ?_
    refine lv_dup hx hb d_SS_drop_29 rfl ?_
    refine z_ldcs hx hb hown (z_str hG hO (List.mem_of_getElem? (i := 803) (by decide +kernel) : (Jvm.Cond.stringRef "StreamSplitter" (59 : Nat) "not all these bytes are on the tape") ∈ lw_tbl)) d_SS_drop_30 (fun msg => ?_)
    exact z_throw (X := xB) (names := ["java/lang/RuntimeException", "java/lang/Exception"]) hx hb hfl hown (by decide) z_fits (fun a ha => z_oa hG hO (z_oaB a ha)) hem (by rw [hml]; exact hl.1) hfX hkX z_pushAt (Nat.le_refl _) d_SS_drop_32 d_SS_drop_35 (Nat.le_of_ble_eq_true rfl) (Nat.le_of_ble_eq_true rfl) hlocks (fun t ht hW => Or.inr ⟨xB, _, (⟨rfl, by first | exact Or.inl h9 | exact Or.inr (Or.inl h13) | exact Or.inr (Or.inr (Int32.not_le.mp h23))⟩), rfl, ht⟩)
  · refine lv_iload_n hx hb d_SS_drop_12 rfl (lv_at hl 3 rfl) ?_
    refine lv_if_lt (tgt := 26) hx hb d_SS_drop_13 rfl (fun h13 => ?_) (fun h13 => ?_)
    · refine W.newc hx hb hown (hts _ wd_775) (hts _ wd_776) (hts _ wd_72) rfl d_SS_drop_26 (by show 0 + 1 ≤ 1; omega) (by show 0 + 6 ≤ 6; omega) (fun cX kX hfX hkX _ _ => ?_)
      refine W.eq (g2 := F0 m 29 ls [.ref s.heap.size]) rfl ?_
      refine W.widen (k := 1) (n := 6) (by omega) (by omega) ?_
      refine lv_dup hx hb d_SS_drop_29 rfl ?_
      refine z_ldcs hx hb hown (z_str hG hO (List.mem_of_getElem? (i := 803) (by decide +kernel) : (Jvm.Cond.stringRef "StreamSplitter" (59 : Nat) "not all these bytes are on the tape") ∈ lw_tbl)) d_SS_drop_30 (fun msg => ?_)
      exact z_throw (X := xB) (names := ["java/lang/RuntimeException", "java/lang/Exception"]) hx hb hfl hown (by decide) z_fits (fun a ha => z_oa hG hO (z_oaB a ha)) hem (by rw [hml]; exact hl.1) hfX hkX z_pushAt (Nat.le_refl _) d_SS_drop_32 d_SS_drop_35 (Nat.le_of_ble_eq_true rfl) (Nat.le_of_ble_eq_true rfl) hlocks (fun t ht hW => Or.inr ⟨xB, _, (⟨rfl, by first | exact Or.inl h9 | exact Or.inr (Or.inl h13) | exact Or.inr (Or.inr (Int32.not_le.mp h23))⟩), rfl, ht⟩)
    · refine lv_iload_n hx hb d_SS_drop_16 rfl (lv_at hl 3 rfl) ?_
      refine lv_aload_n hx hb d_SS_drop_17 rfl (lv_at hl 0 rfl) ?_
      refine va_getN (D := D) (ci := 0) (v := .int (nI n)) (C := R_Row) (T := F_Row) (N := 2) hx hb hts i_Row hown hK hP 2 rfl rfl 1 (by decide) (hts _ wd_109) (fun _ h9 => h9) rfl d_SS_drop_18 ?_
      refine lv_iload_n hx hb d_SS_drop_21 rfl (lv_at hl 2 rfl) ?_
      refine lv_isub hx hb d_SS_drop_22 ?_
      refine lv_icmp_le (tgt := 36) hx hb d_SS_drop_23 rfl (fun h23 => ?_) (fun h23 => ?_)
      · obtain ⟨k, q, hkq, hik, hcq⟩ := z_drop hn h9 h13 h23
        subst hik
        subst hcq
        refine lv_aload_n hx hb d_SS_drop_36 rfl (lv_at hl 0 rfl) ?_
        refine lv_iload_n hx hb d_SS_drop_37 rfl (lv_at hl 2 rfl) ?_
        refine lv_iload_n hx hb d_SS_drop_38 rfl (lv_at hl 3 rfl) ?_
        have hPc := hP.sub (ws' := [(tp, .inr (0, [.ref a, .int (nI n)])), (a, .inl (cB, 9400, .inl f))]) [2, 3] rfl
        have hKc := hK.sub (tys' := [(cB, .byte)]) [0] rfl
        have hDc := hD.sub (ws' := [(tp, .inr (0, [.ref a, .int (nI n)])), (a, .inl (cB, 9400, .inl f))]) [2, 3] (by decide) rfl
        have hFc := va_free (wc := [(tp, .inr (0, [.ref a, .int (nI n)])), (a, .inl (cB, 9400, .inl f))]) hD hS hA [2, 3] rfl
        refine va_callv (va_runV (As := [.int (nI k), .int (nI q)]) (rest := []) ⟨hx, hb, hml, hown, hts⟩ (c_Row_cut l D s.heap.size cB tp a n 9400 f k q (by omega) hn hkq hf) (z_cV hN wd_682 wd_61 wd_679 hd_Row_cut rfl rfl ⟨Nat.le_of_ble_eq_true rfl, Nat.le_of_ble_eq_true rfl⟩ wd_680 wd_681) (z_preVm (va_recv (ci := 0) (q0 := 2) hK hP rfl rfl) hPc hKc hN hDc) rfl rfl hl.1 rfl (lv_room (Nat.le_of_ble_eq_true rfl)) d_SS_drop_39 ⟨Nat.le_of_ble_eq_true rfl, Nat.le_of_ble_eq_true rfl⟩) hS (fun q _ h => hFc q h) hFc (fun u39 t H locs ht hvm e39 hB hz1 hk1 hS => ?_)
        obtain ⟨hP1, hK1, hD1⟩ := hB
        rw [ht] at hP1
        obtain ⟨hP, hD⟩ := va_join (wr := [(h, .inr (11, [.ref rc, .ref d])), (rc, .inr (4, [.ref tp, .ref ln, .ref tb, .ref ct, .ref dp]))]) (w1 := [(tp, .inr (0, [.ref a, .int (nI (n - q))])), (a, .inl (cB, 9400, .inl (va_cpy f f (k + q) k (n - k - q))))]) hP hD [2, 3] [0, 1] rfl rfl (by decide) (by decide) hk1 hFc hP1 hD1
        clear hk1 hP1 hD1 hFc hPc hDc hz1
        have hP : va_P D classes [(h, .inr (11, [.ref rc, .ref d])), (rc, .inr (4, [.ref tp, .ref ln, .ref tb, .ref ct, .ref dp])), (tp, .inr (0, [.ref a, .int (nI (n - q))])), (a, .inl (cB, 9400, .inl (va_cpy f f (k + q) k (n - k - q))))] H := hP
        have hD : va_D A [(h, .inr (11, [.ref rc, .ref d])), (rc, .inr (4, [.ref tp, .ref ln, .ref tb, .ref ct, .ref dp])), (tp, .inr (0, [.ref a, .int (nI (n - q))])), (a, .inl (cB, 9400, .inl (va_cpy f f (k + q) k (n - k - q))))] := hD
        refine lv_aload_n hx hb d_SS_drop_42 rfl (lv_at hl 0 rfl) ?_
        refine va_getN (D := D) (ci := 0) (v := .int (nI (n - q))) (C := R_Row) (T := F_Row) (N := 2) hx hb hts i_Row hown hK hP 2 rfl rfl 1 (by decide) (hts _ wd_109) (fun _ h9 => h9) rfl d_SS_drop_43 ?_
        have hP9 := hP.sub (ws' := [(h, .inr (11, [.ref rc, .ref d])), (rc, .inr (4, [.ref tp, .ref ln, .ref tb, .ref ct, .ref dp])), (tp, .inr (0, [.ref a, .int (nI (n - q))])), (a, .inl (cB, 9400, .inl (va_cpy f f (k + q) k (n - k - q))))]) [0, 1, 2, 3] rfl
        have hD9 := hD.sub (ws' := [(h, .inr (11, [.ref rc, .ref d])), (rc, .inr (4, [.ref tp, .ref ln, .ref tb, .ref ct, .ref dp])), (tp, .inr (0, [.ref a, .int (nI (n - q))])), (a, .inl (cB, 9400, .inl (va_cpy f f (k + q) k (n - k - q))))]) [0, 1, 2, 3] (by decide) rfl
        have hK9 := hK.sub (tys' := [(cB, .byte)]) [0] rfl
        refine W.widen (k := 1) (n := 6) (by omega) (by omega) ?_
        exact W.mono MQ.toT (W.iret (v := (nI (n - q))) hx hb hr (fun t ht hW => Or.inl ⟨_, (k, q), rfl, ⟨hkq, rfl, rfl, rfl⟩, ⟨by rw [ht]; exact hP9, va_K.moved hW.alike hK9, hD9⟩, hS.F ht⟩) hS.2.2 d_SS_drop_46)
      · refine W.newc hx hb hown (hts _ wd_775) (hts _ wd_776) (hts _ wd_72) rfl d_SS_drop_26 (by show 0 + 1 ≤ 1; omega) (by show 0 + 6 ≤ 6; omega) (fun cX kX hfX hkX _ _ => ?_)
        refine W.eq (g2 := F0 m 29 ls [.ref s.heap.size]) rfl ?_
        refine W.widen (k := 1) (n := 6) (by omega) (by omega) ?_
        refine lv_dup hx hb d_SS_drop_29 rfl ?_
        refine z_ldcs hx hb hown (z_str hG hO (List.mem_of_getElem? (i := 803) (by decide +kernel) : (Jvm.Cond.stringRef "StreamSplitter" (59 : Nat) "not all these bytes are on the tape") ∈ lw_tbl)) d_SS_drop_30 (fun msg => ?_)
        exact z_throw (X := xB) (names := ["java/lang/RuntimeException", "java/lang/Exception"]) hx hb hfl hown (by decide) z_fits (fun a ha => z_oa hG hO (z_oaB a ha)) hem (by rw [hml]; exact hl.1) hfX hkX z_pushAt (Nat.le_refl _) d_SS_drop_32 d_SS_drop_35 (Nat.le_of_ble_eq_true rfl) (Nat.le_of_ble_eq_true rfl) hlocks (fun t ht hW => Or.inr ⟨xB, _, (⟨rfl, by first | exact Or.inl h9 | exact Or.inr (Or.inl h13) | exact Or.inr (Or.inr (Int32.not_le.mp h23))⟩), rfl, ht⟩)
set_option maxHeartbeats 4000000 in
set_option maxRecDepth 100000 in
theorem c_SS_seal (l : Launch) (D : va_G) (hfl : l.stackTraces = false) (B0 : State) (hG : zG B0) (sz : Nat) (cB : ClassId) (h d rc ln tb ct dp tp : Nat) (a n : Nat) (f : Nat → Int32) (i c : Int32) (hn : n ≤ 9400) : MetT l y_SS_seal [Cond.code y_SS_seal b_SS_seal 6 none] ({ frames := 6, cells := 1, slots := 6, locals := 82 }) (zMo [.ref h, .int i, .int c] D [(h, .inr (11, [.ref rc, .ref d])), (rc, .inr (4, [.ref tp, .ref ln, .ref tb, .ref ct, .ref dp])), (tp, .inr (0, [.ref a, .int (nI n)])), (a, .inl (cB, 9400, .inl f))] [(cB, .byte)] sz B0) (zQv (fun (u : Nat × Nat) => u.1 + u.2 + 4 ≤ n ∧ i = nI u.1 ∧ c = nI (u.1 + u.2)) (fun (u : Nat × Nat) t => zW D (va_A [(h, .inr (11, [.ref rc, .ref d])), (rc, .inr (4, [.ref tp, .ref ln, .ref tb, .ref ct, .ref dp])), (tp, .inr (0, [.ref a, .int (nI n)])), (a, .inl (cB, 9400, .inl f))] sz) [(h, .inr (11, [.ref rc, .ref d])), (rc, .inr (4, [.ref tp, .ref ln, .ref tb, .ref ct, .ref dp])), (tp, .inr (0, [.ref a, .int (nI n)])), (a, .inl (cB, 9400, .inl (sl_f f (u.1 + u.2) (rw_ck f n 9400 u.1 u.2) 4)))] [(cB, .byte)] t) (va_A [(h, .inr (11, [.ref rc, .ref d])), (rc, .inr (4, [.ref tp, .ref ln, .ref tb, .ref ct, .ref dp])), (tp, .inr (0, [.ref a, .int (nI n)])), (a, .inl (cB, 9400, .inl f))] sz) (fun X => X = xB ∧ (i < 0 ∨ c < i ∨ nI n - 4 < c))) 1 6 (va_A [(h, .inr (11, [.ref rc, .ref d])), (rc, .inr (4, [.ref tp, .ref ln, .ref tb, .ref ct, .ref dp])), (tp, .inr (0, [.ref a, .int (nI n)])), (a, .inl (cB, 9400, .inl f))] sz) := by
  refine MetT.ofW (cc := b_SS_seal) (maxL := 6) (ret := none) (by decide) rfl ?_
  intro p e s m args below meth cd s₁ Bd hml hem hv
  obtain ⟨rfl, hsz, hP, hK, hN, hD0, hO⟩ := hv
  have hx := Bd.exec
  have hb := Bd.bytes
  have hr := Bd.returns
  have hts := hN.use (a := ([.ref h, .int i, .int c]).toArray)
  have hown : s.vm.findClass R_SS = some m.cls := findClass_of_methodNamed Bd.named
  have hlocks := Bd.notSynchronized
  subst hsz
  have hD := hD0.self (sz := s.heap.size)
  have hAO := z_AO hD0 hO
  clear hD0
  have hA : ∀ q : Nat, s.heap.size ≤ q → va_A [(h, .inr (11, [.ref rc, .ref d])), (rc, .inr (4, [.ref tp, .ref ln, .ref tb, .ref ct, .ref dp])), (tp, .inr (0, [.ref a, .int (nI n)])), (a, .inl (cB, 9400, .inl f))] s.heap.size q := fun q h => Or.inr h
  have hS : va_S (va_A [(h, .inr (11, [.ref rc, .ref d])), (rc, .inr (4, [.ref tp, .ref ln, .ref tb, .ref ct, .ref dp])), (tp, .inr (0, [.ref a, .int (nI n)])), (a, .inl (cB, 9400, .inl f))] s.heap.size) s.heap s.heap [] := va_S.rf
  generalize hAe : va_A [(h, .inr (11, [.ref rc, .ref d])), (rc, .inr (4, [.ref tp, .ref ln, .ref tb, .ref ct, .ref dp])), (tp, .inr (0, [.ref a, .int (nI n)])), (a, .inl (cB, 9400, .inl f))] s.heap.size = A at hD hA hS hAO ⊢
  have hP : va_P D classes [(h, .inr (11, [.ref rc, .ref d])), (rc, .inr (4, [.ref tp, .ref ln, .ref tb, .ref ct, .ref dp])), (tp, .inr (0, [.ref a, .int (nI n)])), (a, .inl (cB, 9400, .inl f))] s.heap := hP
  have hl := lv_entry ([.ref h, .int i, .int c]) (n := 6) (Nat.le_of_ble_eq_true rfl)
  rw [lg_entry_eq]
  generalize (lg_sl ([.ref h, .int i, .int c]) ++ List.replicate (6 - (lg_sl ([.ref h, .int i, .int c])).length) Slot.unset).toArray = ls at hl ⊢
  have hl : lv_has ls 6 [(0, .ref h), (1, .int i), (2, .int c)] := hl
  refine lv_aload_n hx hb d_SS_seal_0 rfl (lv_at hl 0 rfl) ?_
  refine va_get (D := D) (ci := 11) (v := .ref rc) (C := R_SS) (T := F_SS) (N := 2) hx hb hts i_SS hown hK hP 0 rfl rfl 0 (by decide) (hts _ wd_198) (fun _ h9 => h9) rfl d_SS_seal_1 ?_
  refine va_getN (D := D) (ci := 4) (v := .ref tp) (C := R_Receiver) (T := F_Receiver) (N := 5) hx hb hts i_Receiver hown hK hP 1 rfl rfl 0 (by decide) (hts _ wd_176) (fun _ h9 => h9) rfl d_SS_seal_4 ?_
  refine lv_astore_n (lv' := [(3, .ref tp), (0, .ref h), (1, .int i), (2, .int c)]) hx hb d_SS_seal_7 rfl hl (by decide) rfl (fun ls hl => ?_)
  refine lv_iload_n hx hb d_SS_seal_8 rfl (lv_at hl 2 rfl) ?_
  refine lv_if_lt (tgt := 27) hx hb d_SS_seal_9 rfl (fun h9 => ?_) (fun h9 => ?_)
  · refine W.newc hx hb hown (hts _ wd_775) (hts _ wd_776) (hts _ wd_72) rfl d_SS_seal_27 (by show 0 + 1 ≤ 1; omega) (by show 0 + 6 ≤ 6; omega) (fun cX kX hfX hkX _ _ => ?_)
    refine W.eq (g2 := F0 m 30 ls [.ref s.heap.size]) rfl ?_
    refine W.widen (k := 1) (n := 6) (by omega) (by omega) ?_
    refine lv_dup hx hb d_SS_seal_30 rfl ?_
    refine z_ldcs hx hb hown (z_str hG hO (List.mem_of_getElem? (i := 803) (by decide +kernel) : (Jvm.Cond.stringRef "StreamSplitter" (59 : Nat) "not all these bytes are on the tape") ∈ lw_tbl)) d_SS_seal_31 (fun msg => ?_)
    exact z_throw (X := xB) (names := ["java/lang/RuntimeException", "java/lang/Exception"]) hx hb hfl hown (by decide) z_fits (fun a ha => z_oa hG hO (z_oaB a ha)) hem (by rw [hml]; exact hl.1) hfX hkX z_pushAt (Nat.le_refl _) d_SS_seal_33 d_SS_seal_36 (Nat.le_of_ble_eq_true rfl) (Nat.le_of_ble_eq_true rfl) hlocks (fun t ht hW => Or.inr ⟨xB, _, (⟨rfl, by first | exact Or.inl h9 | exact Or.inr (Or.inl h14) | exact Or.inr (Or.inr (Int32.not_le.mp h24))⟩), rfl, ht⟩)
  · refine lv_iload_n hx hb d_SS_seal_12 rfl (lv_at hl 2 rfl) ?_
    refine lv_iload_n hx hb d_SS_seal_13 rfl (lv_at hl 3 rfl) ?_
    refine lv_icmp_gt (tgt := 27) hx hb d_SS_seal_14 rfl (fun h14 => ?_) (fun h14 => ?_)
    · refine W.newc hx hb hown (hts _ wd_775) (hts _ wd_776) (hts _ wd_72) rfl d_SS_seal_27 (by show 0 + 1 ≤ 1; omega) (by show 0 + 6 ≤ 6; omega) (fun cX kX hfX hkX _ _ => ?_)
      refine W.eq (g2 := F0 m 30 ls [.ref s.heap.size]) rfl ?_
      refine W.widen (k := 1) (n := 6) (by omega) (by omega) ?_
      refine lv_dup hx hb d_SS_seal_30 rfl ?_
      refine z_ldcs hx hb hown (z_str hG hO (List.mem_of_getElem? (i := 803) (by decide +kernel) : (Jvm.Cond.stringRef "StreamSplitter" (59 : Nat) "not all these bytes are on the tape") ∈ lw_tbl)) d_SS_seal_31 (fun msg => ?_)
      exact z_throw (X := xB) (names := ["java/lang/RuntimeException", "java/lang/Exception"]) hx hb hfl hown (by decide) z_fits (fun a ha => z_oa hG hO (z_oaB a ha)) hem (by rw [hml]; exact hl.1) hfX hkX z_pushAt (Nat.le_refl _) d_SS_seal_33 d_SS_seal_36 (Nat.le_of_ble_eq_true rfl) (Nat.le_of_ble_eq_true rfl) hlocks (fun t ht hW => Or.inr ⟨xB, _, (⟨rfl, by first | exact Or.inl h9 | exact Or.inr (Or.inl h14) | exact Or.inr (Or.inr (Int32.not_le.mp h24))⟩), rfl, ht⟩)
    · refine lv_iload_n hx hb d_SS_seal_17 rfl (lv_at hl 3 rfl) ?_
      refine lv_aload_n hx hb d_SS_seal_18 rfl (lv_at hl 0 rfl) ?_
      refine va_getN (D := D) (ci := 0) (v := .int (nI n)) (C := R_Row) (T := F_Row) (N := 2) hx hb hts i_Row hown hK hP 2 rfl rfl 1 (by decide) (hts _ wd_109) (fun _ h9 => h9) rfl d_SS_seal_19 ?_
      refine lv_iconst (v := 4) hx hb d_SS_seal_22 (by decide) ?_
      refine lv_isub hx hb d_SS_seal_23 ?_
      refine lv_icmp_le (tgt := 37) hx hb d_SS_seal_24 rfl (fun h24 => ?_) (fun h24 => ?_)
      · obtain ⟨k, q, hkq, hik, hcq⟩ := z_seal hn h9 (Int32.not_lt.mpr (Int32.not_lt.mp h14)) h24
        subst hik
        subst hcq
        refine lv_aload_n hx hb d_SS_seal_37 rfl (lv_at hl 0 rfl) ?_
        refine lv_iload_n hx hb d_SS_seal_38 rfl (lv_at hl 2 rfl) ?_
        refine lv_iload_n hx hb d_SS_seal_39 rfl (lv_at hl 3 rfl) ?_
        have hPc := hP.sub (ws' := [(tp, .inr (0, [.ref a, .int (nI n)])), (a, .inl (cB, 9400, .inl f))]) [2, 3] rfl
        have hKc := hK.sub (tys' := [(cB, .byte)]) [0] rfl
        refine z_ci (va_runV (As := [.int (nI k), .int (nI (k + q))]) (rest := []) ⟨hx, hb, hml, hown, hts⟩ (c_Row_checkOf l D cB tp a n 9400 f k q (by omega) (by omega)) (z_cV hN wd_546 wd_61 wd_811 hd_Row_checkOf rfl rfl ⟨Nat.le_of_ble_eq_true rfl, Nat.le_of_ble_eq_true rfl⟩ wd_544 wd_545) (z_preV (va_recv (ci := 0) (q0 := 2) hK hP rfl rfl) hPc hKc hN) rfl rfl hl.1 rfl (lv_room (Nat.le_of_ble_eq_true rfl)) d_SS_seal_40 ⟨Nat.le_of_ble_eq_true rfl, Nat.le_of_ble_eq_true rfl⟩) (fun r40 e40 => ?_)
        subst e40
        refine lv_istore (lv' := [(4, .int (rw_ck f n 9400 k q)), (3, .ref tp), (0, .ref h), (1, .int (nI k)), (2, .int (nI (k + q)))]) hx hb d_SS_seal_43 hl (by decide) rfl (fun ls hl => ?_)
        refine lv_iconst (v := 0) hx hb d_SS_seal_45 (by decide) ?_
        refine lv_istore (lv' := [(5, .int 0), (4, .int (rw_ck f n 9400 k q)), (3, .ref tp), (0, .ref h), (1, .int (nI k)), (2, .int (nI (k + q)))]) hx hb d_SS_seal_46 hl (by decide) rfl (fun ls hl => ?_)
        have loop48 : ∀ (N : Nat) (j : Nat) (H : Heap) (locs : List Loc) (ls : Array Slot) (hm : 4 - j < N) (hj : j ≤ 4) (hl : lv_has ls 6 [(2, .int (nI (k + q))), (3, .ref tp), (4, .int (rw_ck f n 9400 k q)), (5, .int (nI j))]) (hP : va_P D classes [(h, .inr (11, [.ref rc, .ref d])), (rc, .inr (4, [.ref tp, .ref ln, .ref tb, .ref ct, .ref dp])), (tp, .inr (0, [.ref a, .int (nI n)])), (a, .inl (cB, 9400, .inl (sl_f f (k + q) (rw_ck f n 9400 k q) j)))] H) (hD : va_D A [(h, .inr (11, [.ref rc, .ref d])), (rc, .inr (4, [.ref tp, .ref ln, .ref tb, .ref ct, .ref dp])), (tp, .inr (0, [.ref a, .int (nI n)])), (a, .inl (cB, 9400, .inl (sl_f f (k + q) (rw_ck f n 9400 k q) j)))]) (hS : va_S A s.heap H locs), W p l e ({ frames := 6, cells := 1, slots := 6, locals := 82 }) s m ([.ref h, .int (nI k), .int (nI (k + q))]).toArray below meth cd H locs 0 0 (MQT below (zQv (fun (u : Nat × Nat) => u.1 + u.2 + 4 ≤ n ∧ (nI k) = nI u.1 ∧ (nI (k + q)) = nI (u.1 + u.2)) (fun (u : Nat × Nat) t => zW D (A) [(h, .inr (11, [.ref rc, .ref d])), (rc, .inr (4, [.ref tp, .ref ln, .ref tb, .ref ct, .ref dp])), (tp, .inr (0, [.ref a, .int (nI n)])), (a, .inl (cB, 9400, .inl (sl_f f (u.1 + u.2) (rw_ck f n 9400 u.1 u.2) 4)))] [(cB, .byte)] t) (A) (fun X => X = xB ∧ ((nI k) < 0 ∨ (nI (k + q)) < (nI k) ∨ nI n - 4 < (nI (k + q))))) ([.ref h, .int (nI k), .int (nI (k + q))]).toArray s 1 6 (A)) (F0 m 48 ls []) := by
          intro N48
          induction N48 with
          | zero => intro j H locs ls hm hj hl hP hD hS; exact absurd hm (Nat.not_lt_zero _)
          | succ N48 ih48 =>
            intro j H locs ls hm hj hl hP hD hS
            refine lv_iload hx hb d_SS_seal_48 (lv_at hl 3 rfl) ?_
            refine lv_iconst (v := 4) hx hb d_SS_seal_50 (by decide) ?_
            refine lv_icmp_ge (tgt := 79) hx hb d_SS_seal_51 rfl (fun h51 => ?_) (fun h51 => ?_)
            · have h51 : 4 ≤ j := (nI_leI (a := 4) (by omega) (by omega)).mp h51
              obtain rfl : j = 4 := by omega
              have hP9 := hP.sub (ws' := [(h, .inr (11, [.ref rc, .ref d])), (rc, .inr (4, [.ref tp, .ref ln, .ref tb, .ref ct, .ref dp])), (tp, .inr (0, [.ref a, .int (nI n)])), (a, .inl (cB, 9400, .inl (sl_f f (k + q) (rw_ck f n 9400 k q) 4)))]) [0, 1, 2, 3] rfl
              have hD9 := hD.sub (ws' := [(h, .inr (11, [.ref rc, .ref d])), (rc, .inr (4, [.ref tp, .ref ln, .ref tb, .ref ct, .ref dp])), (tp, .inr (0, [.ref a, .int (nI n)])), (a, .inl (cB, 9400, .inl (sl_f f (k + q) (rw_ck f n 9400 k q) 4)))]) [0, 1, 2, 3] (by decide) rfl
              have hK9 := hK.sub (tys' := [(cB, .byte)]) [0] rfl
              refine W.widen (k := 1) (n := 6) (by omega) (by omega) ?_
              exact W.mono MQ.toT (W.vret hx hb hr (fun t ht hW => Or.inl ⟨(k, q), rfl, ⟨hkq, rfl, rfl⟩, ⟨by rw [ht]; exact hP9, va_K.moved hW.alike hK9, hD9⟩, hS.F ht⟩) hS.2.2 d_SS_seal_79)
            · have h51 : ¬ 4 ≤ j := mt (nI_leI (a := 4) (by omega) (by omega)).mpr h51
              refine lv_aload_n hx hb d_SS_seal_54 rfl (lv_at hl 1 rfl) ?_
              refine lv_iload_n hx hb d_SS_seal_55 rfl (lv_at hl 0 rfl) ?_
              refine lv_iload hx hb d_SS_seal_56 (lv_at hl 3 rfl) ?_
              refine lv_iadd hx hb d_SS_seal_58 ?_
              refine z_topi (w := nI (k + q + j)) (nI_add _ _) ?_
              refine lv_iload hx hb d_SS_seal_59 (lv_at hl 2 rfl) ?_
              refine lv_bipush (v := 24) hx hb d_SS_seal_61 (by decide) ?_
              refine lv_bipush (v := 8) hx hb d_SS_seal_63 (by decide) ?_
              refine lv_iload hx hb d_SS_seal_65 (lv_at hl 3 rfl) ?_
              refine lv_imul hx hb d_SS_seal_67 ?_
              refine lv_isub hx hb d_SS_seal_68 ?_
              refine lv_iushr (v := ((rw_ck f n 9400 k q).toUInt32 >>> ((24 - (8 * (nI j))).toUInt32 &&& Int32.toUInt32 31)).toInt32) hx hb d_SS_seal_69 rfl ?_
              refine z_topi (w := sl_b (rw_ck f n 9400 k q) j) rfl ?_
              have hPc := hP.sub (ws' := [(tp, .inr (0, [.ref a, .int (nI n)])), (a, .inl (cB, 9400, .inl (sl_f f (k + q) (rw_ck f n 9400 k q) j)))]) [2, 3] rfl
              have hKc := hK.sub (tys' := [(cB, .byte)]) [0] rfl
              have hDc := hD.sub (ws' := [(tp, .inr (0, [.ref a, .int (nI n)])), (a, .inl (cB, 9400, .inl (sl_f f (k + q) (rw_ck f n 9400 k q) j)))]) [2, 3] (by decide) rfl
              have hFc := va_free (wc := [(tp, .inr (0, [.ref a, .int (nI n)])), (a, .inl (cB, 9400, .inl (sl_f f (k + q) (rw_ck f n 9400 k q) j)))]) hD hS hA [2, 3] rfl
              refine va_callv (va_runV (As := [.int (nI (k + q + j)), .int (sl_b (rw_ck f n 9400 k q) j)]) (rest := []) ⟨hx, hb, hml, hown, hts⟩ (c_Row_put l D H.size cB tp a n 9400 (sl_f f (k + q) (rw_ck f n 9400 k q) j) (k + q + j) (sl_b (rw_ck f n 9400 k q) j) (by omega) hn (by omega)) (z_cV hN wd_795 wd_61 wd_792 hd_Row_put rfl rfl ⟨Nat.le_of_ble_eq_true rfl, Nat.le_of_ble_eq_true rfl⟩ wd_793 wd_794) (z_preVm (va_recv (ci := 0) (q0 := 2) hK hP rfl rfl) hPc hKc hN hDc) rfl rfl hl.1 rfl (lv_room (Nat.le_of_ble_eq_true rfl)) d_SS_seal_70 ⟨Nat.le_of_ble_eq_true rfl, Nat.le_of_ble_eq_true rfl⟩) hS (fun q _ h => hFc q h) hFc (fun u70 t H locs ht hvm e70 hB hz1 hk1 hS => ?_)
              obtain ⟨hP1, hK1, hD1⟩ := hB
              rw [ht] at hP1
              obtain ⟨hP, hD⟩ := va_join (wr := [(h, .inr (11, [.ref rc, .ref d])), (rc, .inr (4, [.ref tp, .ref ln, .ref tb, .ref ct, .ref dp]))]) (w1 := [(tp, .inr (0, [.ref a, .int (nI n)])), (a, .inl (cB, 9400, .inl (upd (sl_f f (k + q) (rw_ck f n 9400 k q) j) (k + q + j) (by8 (sl_b (rw_ck f n 9400 k q) j)))))]) hP hD [2, 3] [0, 1] rfl rfl (by decide) (by decide) hk1 hFc hP1 hD1
              clear hk1 hP1 hD1 hFc hPc hDc hz1
              have hP : va_P D classes [(h, .inr (11, [.ref rc, .ref d])), (rc, .inr (4, [.ref tp, .ref ln, .ref tb, .ref ct, .ref dp])), (tp, .inr (0, [.ref a, .int (nI n)])), (a, .inl (cB, 9400, .inl (upd (sl_f f (k + q) (rw_ck f n 9400 k q) j) (k + q + j) (by8 (sl_b (rw_ck f n 9400 k q) j)))))] H := hP
              have hD : va_D A [(h, .inr (11, [.ref rc, .ref d])), (rc, .inr (4, [.ref tp, .ref ln, .ref tb, .ref ct, .ref dp])), (tp, .inr (0, [.ref a, .int (nI n)])), (a, .inl (cB, 9400, .inl (upd (sl_f f (k + q) (rw_ck f n 9400 k q) j) (k + q + j) (by8 (sl_b (rw_ck f n 9400 k q) j)))))] := hD
              refine lv_iinc (k := 3) (v := nI (j + 1)) (lv' := [(5, .int (nI (j + 1))), (2, .int (nI (k + q))), (3, .ref tp), (4, .int (rw_ck f n 9400 k q))]) hx hb d_SS_seal_73 hl rfl (nI_1 j) (by decide) rfl (fun ls hl => ?_)
              refine lv_goto (tgt := 48) hx hb d_SS_seal_76 rfl ?_
              exact ih48 (j + 1) H locs ls (by omega) (by omega) (lv_sub hl [1, 2, 3, 0] rfl) hP hD hS
        exact loop48 _ 0 s.heap [] ls (Nat.lt_succ_self _) (Nat.zero_le _) (lv_sub hl [5, 2, 1, 0] rfl) hP hD hS
      · refine W.newc hx hb hown (hts _ wd_775) (hts _ wd_776) (hts _ wd_72) rfl d_SS_seal_27 (by show 0 + 1 ≤ 1; omega) (by show 0 + 6 ≤ 6; omega) (fun cX kX hfX hkX _ _ => ?_)
        refine W.eq (g2 := F0 m 30 ls [.ref s.heap.size]) rfl ?_
        refine W.widen (k := 1) (n := 6) (by omega) (by omega) ?_
        refine lv_dup hx hb d_SS_seal_30 rfl ?_
        refine z_ldcs hx hb hown (z_str hG hO (List.mem_of_getElem? (i := 803) (by decide +kernel) : (Jvm.Cond.stringRef "StreamSplitter" (59 : Nat) "not all these bytes are on the tape") ∈ lw_tbl)) d_SS_seal_31 (fun msg => ?_)
        exact z_throw (X := xB) (names := ["java/lang/RuntimeException", "java/lang/Exception"]) hx hb hfl hown (by decide) z_fits (fun a ha => z_oa hG hO (z_oaB a ha)) hem (by rw [hml]; exact hl.1) hfX hkX z_pushAt (Nat.le_refl _) d_SS_seal_33 d_SS_seal_36 (Nat.le_of_ble_eq_true rfl) (Nat.le_of_ble_eq_true rfl) hlocks (fun t ht hW => Or.inr ⟨xB, _, (⟨rfl, by first | exact Or.inl h9 | exact Or.inr (Or.inl h14) | exact Or.inr (Or.inr (Int32.not_le.mp h24))⟩), rfl, ht⟩)
