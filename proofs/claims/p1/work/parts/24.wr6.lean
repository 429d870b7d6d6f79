theorem wd_110 : (Jvm.Cond.fieldLinkNest "StreamSplitter$Writer" (57 : Nat) "StreamSplitter$Row" "size" "I" "StreamSplitter") ∈ lw_ok := List.mem_filter.mpr ⟨List.mem_of_getElem? (i := 110) (by decide +kernel), rfl⟩
theorem wd_957 : (Jvm.Cond.fieldLink "StreamSplitter$Writer" (60 : Nat) "StreamSplitter$Writer" "sectionStart" "I") ∈ lw_ok := List.mem_filter.mpr ⟨List.mem_of_getElem? (i := 957) (by decide +kernel), rfl⟩
theorem wd_980 : (Jvm.Cond.constant "StreamSplitter$Writer" (72 : Nat) (45056 : Int32)) ∈ lw_ok := List.mem_filter.mpr ⟨List.mem_of_getElem? (i := 980) (by decide +kernel), rfl⟩
theorem wd_981 : (Jvm.Cond.methodLink "StreamSplitter$Writer" (73 : Nat) ({ cls := "StreamSplitter$Writer", name := "beginSection", desc := "(II)V" } : Jvm.MethodName)) ∈ lw_ok := List.mem_filter.mpr ⟨List.mem_of_getElem? (i := 981) (by decide +kernel), rfl⟩
theorem wd_982 : (Jvm.Cond.instanceMethod ({ cls := "StreamSplitter$Writer", name := "beginSection", desc := "(II)V" } : Jvm.MethodName)) ∈ lw_ok := List.mem_filter.mpr ⟨List.mem_of_getElem? (i := 982) (by decide +kernel), rfl⟩
theorem wd_983 : (Jvm.Cond.selects "StreamSplitter$Writer" ({ cls := "StreamSplitter$Writer", name := "beginSection", desc := "(II)V" } : Jvm.MethodName) ({ cls := "StreamSplitter$Writer", name := "beginSection", desc := "(II)V" } : Jvm.MethodName)) ∈ lw_ok := List.mem_filter.mpr ⟨List.mem_of_getElem? (i := 983) (by decide +kernel), rfl⟩
set_option maxRecDepth 100000 in
theorem wd_984 : (Jvm.Cond.code ({ cls := "StreamSplitter$Writer", name := "beginSection", desc := "(II)V" } : Jvm.MethodName) prog_12_method_4_code (3 : Nat) (Option.none : Option Jvm.ClassFile.FieldType)) ∈ lw_ok := List.mem_filter.mpr ⟨List.mem_of_getElem? (i := 984) (by rfl), rfl⟩
theorem wd_1007 : (Jvm.Cond.methodLink "StreamSplitter$Writer" (63 : Nat) ({ cls := "StreamSplitter$Row", name := "put", desc := "(II)V" } : Jvm.MethodName)) ∈ lw_ok := List.mem_filter.mpr ⟨List.mem_of_getElem? (i := 1007) (by decide +kernel), rfl⟩
theorem wd_1008 : (Jvm.Cond.methodLink "StreamSplitter$Writer" (67 : Nat) ({ cls := "StreamSplitter$Row", name := "checkOf", desc := "(II)I" } : Jvm.MethodName)) ∈ lw_ok := List.mem_filter.mpr ⟨List.mem_of_getElem? (i := 1008) (by decide +kernel), rfl⟩
theorem wd_1052 : (Jvm.Cond.constant "StreamSplitter$Writer" (129 : Nat) (1103515245 : Int32)) ∈ lw_ok := List.mem_filter.mpr ⟨List.mem_of_getElem? (i := 1052) (by decide +kernel), rfl⟩
theorem hd_Writer_beginSection : y_Writer_beginSection.cls ≠ "java/lang/invoke/MethodHandle" ∧ y_Writer_beginSection.cls ≠ "java/lang/invoke/VarHandle" ∧ (parseMethodDescriptor y_Writer_beginSection.desc).map (fun d => d.parameters.length) = some 2 := by decide +kernel
theorem d_Writer_beginSection_0 : decode b_Writer_beginSection 0 = .ok (.aload_n 0, 1) := by decide +kernel
theorem d_Writer_beginSection_1 : decode b_Writer_beginSection 1 = .ok (.lconst 0, 1) := by decide +kernel
theorem d_Writer_beginSection_2 : decode b_Writer_beginSection 2 = .ok (.iconst 1, 1) := by decide +kernel
theorem d_Writer_beginSection_3 : decode b_Writer_beginSection 3 = .ok (.invokevirtual 53, 3) := by decide +kernel
theorem d_Writer_beginSection_6 : decode b_Writer_beginSection 6 = .ok (.aload_n 0, 1) := by decide +kernel
theorem d_Writer_beginSection_7 : decode b_Writer_beginSection 7 = .ok (.aload_n 0, 1) := by decide +kernel
theorem d_Writer_beginSection_8 : decode b_Writer_beginSection 8 = .ok (.getfield 9, 3) := by decide +kernel
theorem d_Writer_beginSection_11 : decode b_Writer_beginSection 11 = .ok (.getfield 57, 3) := by decide +kernel
theorem d_Writer_beginSection_14 : decode b_Writer_beginSection 14 = .ok (.putfield 60, 3) := by decide +kernel
theorem d_Writer_beginSection_17 : decode b_Writer_beginSection 17 = .ok (.aload_n 0, 1) := by decide +kernel
theorem d_Writer_beginSection_18 : decode b_Writer_beginSection 18 = .ok (.iload_n 1, 1) := by decide +kernel
theorem d_Writer_beginSection_19 : decode b_Writer_beginSection 19 = .ok (.i2l, 1) := by decide +kernel
theorem d_Writer_beginSection_20 : decode b_Writer_beginSection 20 = .ok (.iconst 1, 1) := by decide +kernel
theorem d_Writer_beginSection_21 : decode b_Writer_beginSection 21 = .ok (.invokevirtual 53, 3) := by decide +kernel
theorem d_Writer_beginSection_24 : decode b_Writer_beginSection 24 = .ok (.aload_n 0, 1) := by decide +kernel
theorem d_Writer_beginSection_25 : decode b_Writer_beginSection 25 = .ok (.iload_n 2, 1) := by decide +kernel
theorem d_Writer_beginSection_26 : decode b_Writer_beginSection 26 = .ok (.i2l, 1) := by decide +kernel
theorem d_Writer_beginSection_27 : decode b_Writer_beginSection 27 = .ok (.iconst 2, 1) := by decide +kernel
theorem d_Writer_beginSection_28 : decode b_Writer_beginSection 28 = .ok (.invokevirtual 53, 3) := by decide +kernel
theorem d_Writer_beginSection_31 : decode b_Writer_beginSection 31 = .ok (.return_, 1) := by decide +kernel
theorem d_Writer_beginTable_0 : decode b_Writer_beginTable 0 = .ok (.aload_n 0, 1) := by decide +kernel
theorem d_Writer_beginTable_1 : decode b_Writer_beginTable 1 = .ok (.iload_n 1, 1) := by decide +kernel
theorem d_Writer_beginTable_2 : decode b_Writer_beginTable 2 = .ok (.ldc 72, 2) := by decide +kernel
theorem d_Writer_beginTable_4 : decode b_Writer_beginTable 4 = .ok (.invokevirtual 73, 3) := by decide +kernel
theorem d_Writer_beginTable_7 : decode b_Writer_beginTable 7 = .ok (.aload_n 0, 1) := by decide +kernel
theorem d_Writer_beginTable_8 : decode b_Writer_beginTable 8 = .ok (.iload_n 2, 1) := by decide +kernel
theorem d_Writer_beginTable_9 : decode b_Writer_beginTable 9 = .ok (.i2l, 1) := by decide +kernel
theorem d_Writer_beginTable_10 : decode b_Writer_beginTable 10 = .ok (.iconst 2, 1) := by decide +kernel
theorem d_Writer_beginTable_11 : decode b_Writer_beginTable 11 = .ok (.invokevirtual 53, 3) := by decide +kernel
theorem d_Writer_beginTable_14 : decode b_Writer_beginTable 14 = .ok (.aload_n 0, 1) := by decide +kernel
theorem d_Writer_beginTable_15 : decode b_Writer_beginTable 15 = .ok (.sipush 193, 3) := by decide +kernel
theorem d_Writer_beginTable_18 : decode b_Writer_beginTable 18 = .ok (.iload_n 3, 1) := by decide +kernel
theorem d_Writer_beginTable_19 : decode b_Writer_beginTable 19 = .ok (.iconst 1, 1) := by decide +kernel
theorem d_Writer_beginTable_20 : decode b_Writer_beginTable 20 = .ok (.ishl, 1) := by decide +kernel
theorem d_Writer_beginTable_21 : decode b_Writer_beginTable 21 = .ok (.ior, 1) := by decide +kernel
theorem d_Writer_beginTable_22 : decode b_Writer_beginTable 22 = .ok (.i2l, 1) := by decide +kernel
theorem d_Writer_beginTable_23 : decode b_Writer_beginTable 23 = .ok (.iconst 1, 1) := by decide +kernel
theorem d_Writer_beginTable_24 : decode b_Writer_beginTable 24 = .ok (.invokevirtual 53, 3) := by decide +kernel
theorem d_Writer_beginTable_27 : decode b_Writer_beginTable 27 = .ok (.aload_n 0, 1) := by decide +kernel
theorem d_Writer_beginTable_28 : decode b_Writer_beginTable 28 = .ok (.lconst 0, 1) := by decide +kernel
theorem d_Writer_beginTable_29 : decode b_Writer_beginTable 29 = .ok (.iconst 2, 1) := by decide +kernel
theorem d_Writer_beginTable_30 : decode b_Writer_beginTable 30 = .ok (.invokevirtual 53, 3) := by decide +kernel
theorem d_Writer_beginTable_33 : decode b_Writer_beginTable 33 = .ok (.return_, 1) := by decide +kernel
theorem d_Writer_endSection_0 : decode b_Writer_endSection 0 = .ok (.aload_n 0, 1) := by decide +kernel
theorem d_Writer_endSection_1 : decode b_Writer_endSection 1 = .ok (.getfield 9, 3) := by decide +kernel
theorem d_Writer_endSection_4 : decode b_Writer_endSection 4 = .ok (.aload_n 0, 1) := by decide +kernel
theorem d_Writer_endSection_5 : decode b_Writer_endSection 5 = .ok (.getfield 60, 3) := by decide +kernel
theorem d_Writer_endSection_8 : decode b_Writer_endSection 8 = .ok (.iconst 2, 1) := by decide +kernel
theorem d_Writer_endSection_9 : decode b_Writer_endSection 9 = .ok (.iadd, 1) := by decide +kernel
theorem d_Writer_endSection_10 : decode b_Writer_endSection 10 = .ok (.aload_n 0, 1) := by decide +kernel
theorem d_Writer_endSection_11 : decode b_Writer_endSection 11 = .ok (.getfield 9, 3) := by decide +kernel
theorem d_Writer_endSection_14 : decode b_Writer_endSection 14 = .ok (.getfield 57, 3) := by decide +kernel
theorem d_Writer_endSection_17 : decode b_Writer_endSection 17 = .ok (.aload_n 0, 1) := by decide +kernel
theorem d_Writer_endSection_18 : decode b_Writer_endSection 18 = .ok (.getfield 60, 3) := by decide +kernel
theorem d_Writer_endSection_21 : decode b_Writer_endSection 21 = .ok (.isub, 1) := by decide +kernel
theorem d_Writer_endSection_22 : decode b_Writer_endSection 22 = .ok (.iconst 3, 1) := by decide +kernel
theorem d_Writer_endSection_23 : decode b_Writer_endSection 23 = .ok (.isub, 1) := by decide +kernel
theorem d_Writer_endSection_24 : decode b_Writer_endSection 24 = .ok (.iconst 4, 1) := by decide +kernel
theorem d_Writer_endSection_25 : decode b_Writer_endSection 25 = .ok (.iadd, 1) := by decide +kernel
theorem d_Writer_endSection_26 : decode b_Writer_endSection 26 = .ok (.invokevirtual 63, 3) := by decide +kernel
theorem d_Writer_endSection_29 : decode b_Writer_endSection 29 = .ok (.aload_n 0, 1) := by decide +kernel
theorem d_Writer_endSection_30 : decode b_Writer_endSection 30 = .ok (.aload_n 0, 1) := by decide +kernel
theorem d_Writer_endSection_31 : decode b_Writer_endSection 31 = .ok (.getfield 9, 3) := by decide +kernel
theorem d_Writer_endSection_34 : decode b_Writer_endSection 34 = .ok (.aload_n 0, 1) := by decide +kernel
theorem d_Writer_endSection_35 : decode b_Writer_endSection 35 = .ok (.getfield 60, 3) := by decide +kernel
theorem d_Writer_endSection_38 : decode b_Writer_endSection 38 = .ok (.aload_n 0, 1) := by decide +kernel
theorem d_Writer_endSection_39 : decode b_Writer_endSection 39 = .ok (.getfield 9, 3) := by decide +kernel
theorem d_Writer_endSection_42 : decode b_Writer_endSection 42 = .ok (.getfield 57, 3) := by decide +kernel
theorem d_Writer_endSection_45 : decode b_Writer_endSection 45 = .ok (.invokevirtual 67, 3) := by decide +kernel
theorem d_Writer_endSection_48 : decode b_Writer_endSection 48 = .ok (.i2l, 1) := by decide +kernel
theorem d_Writer_endSection_49 : decode b_Writer_endSection 49 = .ok (.iconst 4, 1) := by decide +kernel
theorem d_Writer_endSection_50 : decode b_Writer_endSection 50 = .ok (.invokevirtual 53, 3) := by decide +kernel
theorem d_Writer_endSection_53 : decode b_Writer_endSection 53 = .ok (.aload_n 0, 1) := by decide +kernel
theorem d_Writer_endSection_54 : decode b_Writer_endSection 54 = .ok (.getfield 19, 3) := by decide +kernel
theorem d_Writer_endSection_57 : decode b_Writer_endSection 57 = .ok (.istore_n 1, 1) := by decide +kernel
theorem d_Writer_endSection_58 : decode b_Writer_endSection 58 = .ok (.iload_n 1, 1) := by decide +kernel
theorem d_Writer_endSection_59 : decode b_Writer_endSection 59 = .ok (.ifCond .le 17, 3) := by decide +kernel
theorem d_Writer_endSection_62 : decode b_Writer_endSection 62 = .ok (.aload_n 0, 1) := by decide +kernel
theorem d_Writer_endSection_63 : decode b_Writer_endSection 63 = .ok (.ldc2_w 70, 3) := by decide +kernel
theorem d_Writer_endSection_66 : decode b_Writer_endSection 66 = .ok (.iconst 1, 1) := by decide +kernel
theorem d_Writer_endSection_67 : decode b_Writer_endSection 67 = .ok (.invokevirtual 53, 3) := by decide +kernel
theorem d_Writer_endSection_70 : decode b_Writer_endSection 70 = .ok (.iinc 1 (-1), 3) := by decide +kernel
theorem d_Writer_endSection_73 : decode b_Writer_endSection 73 = .ok (.goto (-15), 3) := by decide +kernel
theorem d_Writer_endSection_76 : decode b_Writer_endSection 76 = .ok (.return_, 1) := by decide +kernel
theorem d_Writer_putData_0 : decode b_Writer_putData 0 = .ok (.iload_n 2, 1) := by decide +kernel
theorem d_Writer_putData_1 : decode b_Writer_putData 1 = .ok (.istore_n 3, 1) := by decide +kernel
theorem d_Writer_putData_2 : decode b_Writer_putData 2 = .ok (.iconst 0, 1) := by decide +kernel
theorem d_Writer_putData_3 : decode b_Writer_putData 3 = .ok (.istore 4, 2) := by decide +kernel
theorem d_Writer_putData_5 : decode b_Writer_putData 5 = .ok (.iload 4, 2) := by decide +kernel
theorem d_Writer_putData_7 : decode b_Writer_putData 7 = .ok (.iload_n 1, 1) := by decide +kernel
theorem d_Writer_putData_8 : decode b_Writer_putData 8 = .ok (.if_icmp .ge 28, 3) := by decide +kernel
theorem d_Writer_putData_11 : decode b_Writer_putData 11 = .ok (.ldc 129, 2) := by decide +kernel
theorem d_Writer_putData_13 : decode b_Writer_putData 13 = .ok (.iload_n 3, 1) := by decide +kernel
theorem d_Writer_putData_14 : decode b_Writer_putData 14 = .ok (.imul, 1) := by decide +kernel
theorem d_Writer_putData_15 : decode b_Writer_putData 15 = .ok (.sipush 12345, 3) := by decide +kernel
theorem d_Writer_putData_18 : decode b_Writer_putData 18 = .ok (.iadd, 1) := by decide +kernel
theorem d_Writer_putData_19 : decode b_Writer_putData 19 = .ok (.istore_n 3, 1) := by decide +kernel
theorem d_Writer_putData_20 : decode b_Writer_putData 20 = .ok (.aload_n 0, 1) := by decide +kernel
theorem d_Writer_putData_21 : decode b_Writer_putData 21 = .ok (.iload_n 3, 1) := by decide +kernel
theorem d_Writer_putData_22 : decode b_Writer_putData 22 = .ok (.bipush 16, 2) := by decide +kernel
theorem d_Writer_putData_24 : decode b_Writer_putData 24 = .ok (.ishr, 1) := by decide +kernel
theorem d_Writer_putData_25 : decode b_Writer_putData 25 = .ok (.i2l, 1) := by decide +kernel
theorem d_Writer_putData_26 : decode b_Writer_putData 26 = .ok (.iconst 1, 1) := by decide +kernel
theorem d_Writer_putData_27 : decode b_Writer_putData 27 = .ok (.invokevirtual 53, 3) := by decide +kernel
theorem d_Writer_putData_30 : decode b_Writer_putData 30 = .ok (.iinc 4 1, 3) := by decide +kernel
theorem d_Writer_putData_33 : decode b_Writer_putData 33 = .ok (.goto (-28), 3) := by decide +kernel
theorem d_Writer_putData_36 : decode b_Writer_putData 36 = .ok (.return_, 1) := by decide +kernel
set_option maxHeartbeats 4000000 in
set_option maxRecDepth 100000 in
theorem c_Writer_putData (l : Launch) (D : va_G) (sz : Nat) (cB : ClassId) (w tp a : Nat) (q0 : WQ) (ss : Int32) (la : Nat) (nx se pi : Option Nat) (ct tw : Int32) (ck : Int64) (pid w0 tot : Nat) (T0 B : List Int32) (n : Nat) (x : Int32) (hq0 : WS pid w0 tot T0 B q0) (htot : tot ≤ 4100) (hT : T0.length + 188 * ((tot + 183) / 184) ≤ 9400) (hpid : pid < 8192) (hw0 : w0 < 2 ^ 29) (hB : B.length + n ≤ tot) (hn4 : n ≤ 4000) : Met l y_Writer_putData [Cond.code y_Writer_putData b_Writer_putData 5 none] ({ frames := 3, cells := 0, slots := 0, locals := 67 }) (zM [.ref w, .int (nI n), .int x] D [(w, .inr (10, [.ref tp, .ref la, .int q0.2.2.1, .int q0.2.2.2.1, .int q0.2.2.2.2.1, .int ss])), (la, .inr (1, [.int (nI pid), va_rf nx, .int ct, .int tw, .long ck, .int q0.2.2.2.2.2, va_rf se, va_rf pi])), (tp, .inr (0, [.ref a, .int q0.2.1])), (a, .inl (cB, 9400, .inl q0.1))] [(cB, .byte)] sz) (va_Qv (fun (u : WQ) => WS pid w0 tot T0 (B ++ gnL x n) u) (fun (u : WQ) t => zW D (va_A [(w, .inr (10, [.ref tp, .ref la, .int q0.2.2.1, .int q0.2.2.2.1, .int q0.2.2.2.2.1, .int ss])), (la, .inr (1, [.int (nI pid), va_rf nx, .int ct, .int tw, .long ck, .int q0.2.2.2.2.2, va_rf se, va_rf pi])), (tp, .inr (0, [.ref a, .int q0.2.1])), (a, .inl (cB, 9400, .inl q0.1))] sz) [(w, .inr (10, [.ref tp, .ref la, .int u.2.2.1, .int u.2.2.2.1, .int u.2.2.2.2.1, .int ss])), (la, .inr (1, [.int (nI pid), va_rf nx, .int ct, .int tw, .long ck, .int u.2.2.2.2.2, va_rf se, va_rf pi])), (tp, .inr (0, [.ref a, .int u.2.1])), (a, .inl (cB, 9400, .inl u.1))] [(cB, .byte)] t) (va_A [(w, .inr (10, [.ref tp, .ref la, .int q0.2.2.1, .int q0.2.2.2.1, .int q0.2.2.2.2.1, .int ss])), (la, .inr (1, [.int (nI pid), va_rf nx, .int ct, .int tw, .long ck, .int q0.2.2.2.2.2, va_rf se, va_rf pi])), (tp, .inr (0, [.ref a, .int q0.2.1])), (a, .inl (cB, 9400, .inl q0.1))] sz)) 0 0 (va_A [(w, .inr (10, [.ref tp, .ref la, .int q0.2.2.1, .int q0.2.2.2.1, .int q0.2.2.2.2.1, .int ss])), (la, .inr (1, [.int (nI pid), va_rf nx, .int ct, .int tw, .long ck, .int q0.2.2.2.2.2, va_rf se, va_rf pi])), (tp, .inr (0, [.ref a, .int q0.2.1])), (a, .inl (cB, 9400, .inl q0.1))] sz) := by
  refine Met.ofW (cc := b_Writer_putData) (maxL := 5) (ret := none) (by decide) rfl ?_
  intro p e s m args below meth cd s₁ Bd hml hv
  obtain ⟨rfl, hsz, hP, hK, hN, hD0⟩ := hv
  have hx := Bd.exec
  have hb := Bd.bytes
  have hr := Bd.returns
  have hts := hN.use (a := ([.ref w, .int (nI n), .int x]).toArray)
  have hown : s.vm.findClass R_Writer = some m.cls := findClass_of_methodNamed Bd.named
  have hlocks := Bd.notSynchronized
  subst hsz
  have hD := hD0.self (sz := s.heap.size)
  clear hD0
  have hA : ∀ q : Nat, s.heap.size ≤ q → va_A [(w, .inr (10, [.ref tp, .ref la, .int q0.2.2.1, .int q0.2.2.2.1, .int q0.2.2.2.2.1, .int ss])), (la, .inr (1, [.int (nI pid), va_rf nx, .int ct, .int tw, .long ck, .int q0.2.2.2.2.2, va_rf se, va_rf pi])), (tp, .inr (0, [.ref a, .int q0.2.1])), (a, .inl (cB, 9400, .inl q0.1))] s.heap.size q := fun q h => Or.inr h
  have hS : va_S (va_A [(w, .inr (10, [.ref tp, .ref la, .int q0.2.2.1, .int q0.2.2.2.1, .int q0.2.2.2.2.1, .int ss])), (la, .inr (1, [.int (nI pid), va_rf nx, .int ct, .int tw, .long ck, .int q0.2.2.2.2.2, va_rf se, va_rf pi])), (tp, .inr (0, [.ref a, .int q0.2.1])), (a, .inl (cB, 9400, .inl q0.1))] s.heap.size) s.heap s.heap [] := va_S.rf
  generalize hAe : va_A [(w, .inr (10, [.ref tp, .ref la, .int q0.2.2.1, .int q0.2.2.2.1, .int q0.2.2.2.2.1, .int ss])), (la, .inr (1, [.int (nI pid), va_rf nx, .int ct, .int tw, .long ck, .int q0.2.2.2.2.2, va_rf se, va_rf pi])), (tp, .inr (0, [.ref a, .int q0.2.1])), (a, .inl (cB, 9400, .inl q0.1))] s.heap.size = A at hD hA hS ⊢
  have hP : va_P D classes [(w, .inr (10, [.ref tp, .ref la, .int q0.2.2.1, .int q0.2.2.2.1, .int q0.2.2.2.2.1, .int ss])), (la, .inr (1, [.int (nI pid), va_rf nx, .int ct, .int tw, .long ck, .int q0.2.2.2.2.2, va_rf se, va_rf pi])), (tp, .inr (0, [.ref a, .int q0.2.1])), (a, .inl (cB, 9400, .inl q0.1))] s.heap := hP
  have hl := lv_entry ([.ref w, .int (nI n), .int x]) (n := 5) (Nat.le_of_ble_eq_true rfl)
  rw [lg_entry_eq]
  generalize (lg_sl ([.ref w, .int (nI n), .int x]) ++ List.replicate (5 - (lg_sl ([.ref w, .int (nI n), .int x])).length) Slot.unset).toArray = ls at hl ⊢
  have hl : lv_has ls 5 [(0, .ref w), (1, .int (nI n)), (2, .int x)] := hl
  refine lv_iload_n hx hb d_Writer_putData_0 rfl (lv_at hl 2 rfl) ?_
  refine lv_istore_n (lv' := [(3, .int x), (0, .ref w), (1, .int (nI n)), (2, .int x)]) hx hb d_Writer_putData_1 rfl hl (by decide) rfl (fun ls hl => ?_)
  refine lv_iconst (v := 0) hx hb d_Writer_putData_2 (by decide) ?_
  refine lv_istore (lv' := [(4, .int 0), (3, .int x), (0, .ref w), (1, .int (nI n)), (2, .int x)]) hx hb d_Writer_putData_3 hl (by decide) rfl (fun ls hl => ?_)
  have loop5 : ∀ (N : Nat) (j : Nat) (q : WQ) (H : Heap) (locs : List Loc) (ls : Array Slot) (hm : n - j < N) (hj : j ≤ n) (hq : WS pid w0 tot T0 (B ++ (gnL x n).take j) q) (hl : lv_has ls 5 [(0, .ref w), (1, .int (nI n)), (3, .int (gnX x j)), (4, .int (nI j))]) (hP : va_P D classes [(w, .inr (10, [.ref tp, .ref la, .int q.2.2.1, .int q.2.2.2.1, .int q.2.2.2.2.1, .int ss])), (la, .inr (1, [.int (nI pid), va_rf nx, .int ct, .int tw, .long ck, .int q.2.2.2.2.2, va_rf se, va_rf pi])), (tp, .inr (0, [.ref a, .int q.2.1])), (a, .inl (cB, 9400, .inl q.1))] H) (hD : va_D A [(w, .inr (10, [.ref tp, .ref la, .int q.2.2.1, .int q.2.2.2.1, .int q.2.2.2.2.1, .int ss])), (la, .inr (1, [.int (nI pid), va_rf nx, .int ct, .int tw, .long ck, .int q.2.2.2.2.2, va_rf se, va_rf pi])), (tp, .inr (0, [.ref a, .int q.2.1])), (a, .inl (cB, 9400, .inl q.1))]) (hS : va_S A s.heap H locs), W p l e ({ frames := 3, cells := 0, slots := 0, locals := 67 }) s m ([.ref w, .int (nI n), .int x]).toArray below meth cd H locs 0 0 (MQ below (va_Qv (fun (u : WQ) => WS pid w0 tot T0 (B ++ gnL x n) u) (fun (u : WQ) t => zW D (A) [(w, .inr (10, [.ref tp, .ref la, .int u.2.2.1, .int u.2.2.2.1, .int u.2.2.2.2.1, .int ss])), (la, .inr (1, [.int (nI pid), va_rf nx, .int ct, .int tw, .long ck, .int u.2.2.2.2.2, va_rf se, va_rf pi])), (tp, .inr (0, [.ref a, .int u.2.1])), (a, .inl (cB, 9400, .inl u.1))] [(cB, .byte)] t) (A)) ([.ref w, .int (nI n), .int x]).toArray s 0 0 (A)) (F0 m 5 ls []) := by
    intro N5
    induction N5 with
    | zero => intro j q H locs ls hm hj hq hl hP hD hS; exact absurd hm (Nat.not_lt_zero _)
    | succ N5 ih5 =>
      intro j q H locs ls hm hj hq hl hP hD hS
      refine lv_iload hx hb d_Writer_putData_5 (lv_at hl 3 rfl) ?_
      refine lv_iload_n hx hb d_Writer_putData_7 rfl (lv_at hl 1 rfl) ?_
      refine lv_icmp_ge (tgt := 36) hx hb d_Writer_putData_8 rfl (fun h8 => ?_) (fun h8 => ?_)
      · have h8 := (nI_leI (by omega) (by omega)).mp h8
        have hP9 := hP.sub (ws' := [(w, .inr (10, [.ref tp, .ref la, .int q.2.2.1, .int q.2.2.2.1, .int q.2.2.2.2.1, .int ss])), (la, .inr (1, [.int (nI pid), va_rf nx, .int ct, .int tw, .long ck, .int q.2.2.2.2.2, va_rf se, va_rf pi])), (tp, .inr (0, [.ref a, .int q.2.1])), (a, .inl (cB, 9400, .inl q.1))]) [0, 1, 2, 3] rfl
        have hD9 := hD.sub (ws' := [(w, .inr (10, [.ref tp, .ref la, .int q.2.2.1, .int q.2.2.2.1, .int q.2.2.2.2.1, .int ss])), (la, .inr (1, [.int (nI pid), va_rf nx, .int ct, .int tw, .long ck, .int q.2.2.2.2.2, va_rf se, va_rf pi])), (tp, .inr (0, [.ref a, .int q.2.1])), (a, .inl (cB, 9400, .inl q.1))]) [0, 1, 2, 3] (by decide) rfl
        have hK9 := hK.sub (tys' := [(cB, .byte)]) [0] rfl
        exact W.vret hx hb hr (fun t ht hW => ⟨⟨q, rfl, (by dsimp only; rw [List.take_of_length_le (by rw [gn_len]; exact h8)] at hq; exact hq), ⟨by rw [ht]; exact hP9, va_K.moved hW.alike hK9, hD9⟩⟩, hS.F ht⟩) hS.2.2 d_Writer_putData_36
      · have h8 := mt (nI_leI (by omega) (by omega)).mpr h8
        refine lv_ldc hx hb hown (hts _ wd_1052) d_Writer_putData_11 ?_
        refine lv_iload_n hx hb d_Writer_putData_13 rfl (lv_at hl 2 rfl) ?_
        refine lv_imul hx hb d_Writer_putData_14 ?_
        refine lv_sipush (v := 12345) hx hb d_Writer_putData_15 (by decide) ?_
        refine lv_iadd hx hb d_Writer_putData_18 ?_
        refine z_topi (w := gnX x (j + 1)) rfl ?_
        refine lv_istore_n (lv' := [(3, .int (gnX x (j + 1))), (0, .ref w), (1, .int (nI n)), (4, .int (nI j))]) hx hb d_Writer_putData_19 rfl hl (by decide) rfl (fun ls hl => ?_)
        refine lv_aload_n hx hb d_Writer_putData_20 rfl (lv_at hl 1 rfl) ?_
        refine lv_iload_n hx hb d_Writer_putData_21 rfl (lv_at hl 0 rfl) ?_
        refine lv_bipush (v := 16) hx hb d_Writer_putData_22 (by decide) ?_
        refine lv_ishr hx hb d_Writer_putData_24 ?_
        refine lv_i2l (v := ((gnX x (j + 1)) >>> (16 &&& 31)).toInt64) hx hb d_Writer_putData_25 rfl ?_
        refine lv_iconst (v := 1) hx hb d_Writer_putData_26 (by decide) ?_
        have hPc := hP.sub (ws' := [(w, .inr (10, [.ref tp, .ref la, .int q.2.2.1, .int q.2.2.2.1, .int q.2.2.2.2.1, .int ss])), (la, .inr (1, [.int (nI pid), va_rf nx, .int ct, .int tw, .long ck, .int q.2.2.2.2.2, va_rf se, va_rf pi])), (tp, .inr (0, [.ref a, .int q.2.1])), (a, .inl (cB, 9400, .inl q.1))]) [0, 1, 2, 3] rfl
        have hKc := hK.sub (tys' := [(cB, .byte)]) [0] rfl
        have hDc := hD.sub (ws' := [(w, .inr (10, [.ref tp, .ref la, .int q.2.2.1, .int q.2.2.2.1, .int q.2.2.2.2.1, .int ss])), (la, .inr (1, [.int (nI pid), va_rf nx, .int ct, .int tw, .long ck, .int q.2.2.2.2.2, va_rf se, va_rf pi])), (tp, .inr (0, [.ref a, .int q.2.1])), (a, .inl (cB, 9400, .inl q.1))]) [0, 1, 2, 3] (by decide) rfl
        have hFc := va_free (wc := [(w, .inr (10, [.ref tp, .ref la, .int q.2.2.1, .int q.2.2.2.1, .int q.2.2.2.2.1, .int ss])), (la, .inr (1, [.int (nI pid), va_rf nx, .int ct, .int tw, .long ck, .int q.2.2.2.2.2, va_rf se, va_rf pi])), (tp, .inr (0, [.ref a, .int q.2.1])), (a, .inl (cB, 9400, .inl q.1))]) hD hS hA [0, 1, 2, 3] rfl
        refine va_callv (va_runV (As := [.long (((gnX x (j + 1)) >>> (16 &&& 31)).toInt64), .int (nI 1)]) (rest := []) ⟨hx, hb, hml, hown, hts⟩ (c_Writer_putNumber l D H.size cB w tp a q ss la nx se pi ct tw ck pid w0 tot T0 (B ++ (gnL x n).take j) (((gnX x (j + 1)) >>> (16 &&& 31)).toInt64) 1 hq htot hT hpid hw0 (by rw [List.length_append, List.length_take, gn_len]; omega) (by omega) (by omega)) (z_cV hN wd_988 wd_85 wd_985 hd_Writer_putNumber rfl rfl ⟨Nat.le_of_ble_eq_true rfl, Nat.le_of_ble_eq_true rfl⟩ wd_987 wd_23) (z_preVm (va_recv (ci := 10) (q0 := 0) hK hP rfl rfl) hPc hKc hN hDc) rfl rfl hl.1 rfl (lv_room (Nat.le_of_ble_eq_true rfl)) d_Writer_putData_27 ⟨Nat.le_of_ble_eq_true rfl, Nat.le_of_ble_eq_true rfl⟩) hS (fun q _ h => hFc q h) hFc (fun q27 t H locs ht hvm e27 hB hz1 hk1 hS => ?_)
        obtain ⟨hP1, hK1, hD1⟩ := hB
        rw [ht] at hP1
        obtain ⟨hP, hD⟩ := va_join (wr := []) (w1 := [(w, .inr (10, [.ref tp, .ref la, .int q27.2.2.1, .int q27.2.2.2.1, .int q27.2.2.2.2.1, .int ss])), (la, .inr (1, [.int (nI pid), va_rf nx, .int ct, .int tw, .long ck, .int q27.2.2.2.2.2, va_rf se, va_rf pi])), (tp, .inr (0, [.ref a, .int q27.2.1])), (a, .inl (cB, 9400, .inl q27.1))]) hP hD [0, 1, 2, 3] [] rfl rfl (by decide) (by decide) hk1 hFc hP1 hD1
        clear hk1 hP1 hD1 hFc hPc hDc hz1
        have hP : va_P D classes [(w, .inr (10, [.ref tp, .ref la, .int q27.2.2.1, .int q27.2.2.2.1, .int q27.2.2.2.2.1, .int ss])), (la, .inr (1, [.int (nI pid), va_rf nx, .int ct, .int tw, .long ck, .int q27.2.2.2.2.2, va_rf se, va_rf pi])), (tp, .inr (0, [.ref a, .int q27.2.1])), (a, .inl (cB, 9400, .inl q27.1))] H := hP
        have hD : va_D A [(w, .inr (10, [.ref tp, .ref la, .int q27.2.2.1, .int q27.2.2.2.1, .int q27.2.2.2.2.1, .int ss])), (la, .inr (1, [.int (nI pid), va_rf nx, .int ct, .int tw, .long ck, .int q27.2.2.2.2.2, va_rf se, va_rf pi])), (tp, .inr (0, [.ref a, .int q27.2.1])), (a, .inl (cB, 9400, .inl q27.1))] := hD
        refine lv_iinc (k := 3) (v := nI (j + 1)) (lv' := [(4, .int (nI (j + 1))), (3, .int (gnX x (j + 1))), (0, .ref w), (1, .int (nI n))]) hx hb d_Writer_putData_30 hl rfl (nI_1 j) (by decide) rfl (fun ls hl => ?_)
        refine lv_goto (tgt := 5) hx hb d_Writer_putData_33 rfl ?_
        exact ih5 (j + 1) q27 H locs ls (by omega) (by omega) (by rw [gn_take x (by omega), ← List.append_assoc]; exact e27) (lv_sub hl [2, 3, 1, 0] rfl) hP hD hS
  exact loop5 _ 0 q0 s.heap [] ls (Nat.lt_succ_self _) (Nat.zero_le _) (by rw [List.take_zero, List.append_nil]; exact hq0) (lv_sub hl [2, 3, 1, 0] rfl) hP hD hS
set_option maxHeartbeats 4000000 in
set_option maxRecDepth 100000 in
theorem c_Writer_beginSection (l : Launch) (D : va_G) (sz : Nat) (cB : ClassId) (w tp a : Nat) (q0 : WQ) (ss : Int32) (la : Nat) (nx se pi : Option Nat) (ct tw : Int32) (ck : Int64) (pid w0 tot : Nat) (T0 B : List Int32) (tb ti : Int32) (hq0 : WS pid w0 tot T0 B q0) (htot : tot ≤ 4100) (hT : T0.length + 188 * ((tot + 183) / 184) ≤ 9400) (hpid : pid < 8192) (hw0 : w0 < 2 ^ 29) (hB : B.length + 4 ≤ tot) : Met l y_Writer_beginSection [Cond.code y_Writer_beginSection b_Writer_beginSection 3 none] ({ frames := 3, cells := 0, slots := 0, locals := 67 }) (zM [.ref w, .int tb, .int ti] D [(w, .inr (10, [.ref tp, .ref la, .int q0.2.2.1, .int q0.2.2.2.1, .int q0.2.2.2.2.1, .int ss])), (la, .inr (1, [.int (nI pid), va_rf nx, .int ct, .int tw, .long ck, .int q0.2.2.2.2.2, va_rf se, va_rf pi])), (tp, .inr (0, [.ref a, .int q0.2.1])), (a, .inl (cB, 9400, .inl q0.1))] [(cB, .byte)] sz) (va_Qv (fun (u : WQ) => WS pid w0 tot T0 (((B ++ bsL 0 1) ++ bsL tb.toInt64 1) ++ bsL ti.toInt64 2) u) (fun (u : WQ) t => zW D (va_A [(w, .inr (10, [.ref tp, .ref la, .int q0.2.2.1, .int q0.2.2.2.1, .int q0.2.2.2.2.1, .int ss])), (la, .inr (1, [.int (nI pid), va_rf nx, .int ct, .int tw, .long ck, .int q0.2.2.2.2.2, va_rf se, va_rf pi])), (tp, .inr (0, [.ref a, .int q0.2.1])), (a, .inl (cB, 9400, .inl q0.1))] sz) [(w, .inr (10, [.ref tp, .ref la, .int u.2.2.1, .int u.2.2.2.1, .int u.2.2.2.2.1, .int (nI (T0 ++ ppL pid w0 tot 0 (B ++ bsL 0 1)).length)])), (la, .inr (1, [.int (nI pid), va_rf nx, .int ct, .int tw, .long ck, .int u.2.2.2.2.2, va_rf se, va_rf pi])), (tp, .inr (0, [.ref a, .int u.2.1])), (a, .inl (cB, 9400, .inl u.1))] [(cB, .byte)] t) (va_A [(w, .inr (10, [.ref tp, .ref la, .int q0.2.2.1, .int q0.2.2.2.1, .int q0.2.2.2.2.1, .int ss])), (la, .inr (1, [.int (nI pid), va_rf nx, .int ct, .int tw, .long ck, .int q0.2.2.2.2.2, va_rf se, va_rf pi])), (tp, .inr (0, [.ref a, .int q0.2.1])), (a, .inl (cB, 9400, .inl q0.1))] sz)) 0 0 (va_A [(w, .inr (10, [.ref tp, .ref la, .int q0.2.2.1, .int q0.2.2.2.1, .int q0.2.2.2.2.1, .int ss])), (la, .inr (1, [.int (nI pid), va_rf nx, .int ct, .int tw, .long ck, .int q0.2.2.2.2.2, va_rf se, va_rf pi])), (tp, .inr (0, [.ref a, .int q0.2.1])), (a, .inl (cB, 9400, .inl q0.1))] sz) := by
  refine Met.ofW (cc := b_Writer_beginSection) (maxL := 3) (ret := none) (by decide) rfl ?_
  intro p e s m args below meth cd s₁ Bd hml hv
  obtain ⟨rfl, hsz, hP, hK, hN, hD0⟩ := hv
  have hx := Bd.exec
  have hb := Bd.bytes
  have hr := Bd.returns
  have hts := hN.use (a := ([.ref w, .int tb, .int ti]).toArray)
  have hown : s.vm.findClass R_Writer = some m.cls := findClass_of_methodNamed Bd.named
  have hlocks := Bd.notSynchronized
  subst hsz
  have hD := hD0.self (sz := s.heap.size)
  clear hD0
  have hA : ∀ q : Nat, s.heap.size ≤ q → va_A [(w, .inr (10, [.ref tp, .ref la, .int q0.2.2.1, .int q0.2.2.2.1, .int q0.2.2.2.2.1, .int ss])), (la, .inr (1, [.int (nI pid), va_rf nx, .int ct, .int tw, .long ck, .int q0.2.2.2.2.2, va_rf se, va_rf pi])), (tp, .inr (0, [.ref a, .int q0.2.1])), (a, .inl (cB, 9400, .inl q0.1))] s.heap.size q := fun q h => Or.inr h
  have hS : va_S (va_A [(w, .inr (10, [.ref tp, .ref la, .int q0.2.2.1, .int q0.2.2.2.1, .int q0.2.2.2.2.1, .int ss])), (la, .inr (1, [.int (nI pid), va_rf nx, .int ct, .int tw, .long ck, .int q0.2.2.2.2.2, va_rf se, va_rf pi])), (tp, .inr (0, [.ref a, .int q0.2.1])), (a, .inl (cB, 9400, .inl q0.1))] s.heap.size) s.heap s.heap [] := va_S.rf
  generalize hAe : va_A [(w, .inr (10, [.ref tp, .ref la, .int q0.2.2.1, .int q0.2.2.2.1, .int q0.2.2.2.2.1, .int ss])), (la, .inr (1, [.int (nI pid), va_rf nx, .int ct, .int tw, .long ck, .int q0.2.2.2.2.2, va_rf se, va_rf pi])), (tp, .inr (0, [.ref a, .int q0.2.1])), (a, .inl (cB, 9400, .inl q0.1))] s.heap.size = A at hD hA hS ⊢
  have hP : va_P D classes [(w, .inr (10, [.ref tp, .ref la, .int q0.2.2.1, .int q0.2.2.2.1, .int q0.2.2.2.2.1, .int ss])), (la, .inr (1, [.int (nI pid), va_rf nx, .int ct, .int tw, .long ck, .int q0.2.2.2.2.2, va_rf se, va_rf pi])), (tp, .inr (0, [.ref a, .int q0.2.1])), (a, .inl (cB, 9400, .inl q0.1))] s.heap := hP
  have hl := lv_entry ([.ref w, .int tb, .int ti]) (n := 3) (Nat.le_of_ble_eq_true rfl)
  rw [lg_entry_eq]
  generalize (lg_sl ([.ref w, .int tb, .int ti]) ++ List.replicate (3 - (lg_sl ([.ref w, .int tb, .int ti])).length) Slot.unset).toArray = ls at hl ⊢
  have hl : lv_has ls 3 [(0, .ref w), (1, .int tb), (2, .int ti)] := hl
  refine lv_aload_n hx hb d_Writer_beginSection_0 rfl (lv_at hl 0 rfl) ?_
  refine lv_lconst (v := 0) hx hb d_Writer_beginSection_1 (by decide) ?_
  refine lv_iconst (v := 1) hx hb d_Writer_beginSection_2 (by decide) ?_
  have hPc := hP.sub (ws' := [(w, .inr (10, [.ref tp, .ref la, .int q0.2.2.1, .int q0.2.2.2.1, .int q0.2.2.2.2.1, .int ss])), (la, .inr (1, [.int (nI pid), va_rf nx, .int ct, .int tw, .long ck, .int q0.2.2.2.2.2, va_rf se, va_rf pi])), (tp, .inr (0, [.ref a, .int q0.2.1])), (a, .inl (cB, 9400, .inl q0.1))]) [0, 1, 2, 3] rfl
  have hKc := hK.sub (tys' := [(cB, .byte)]) [0] rfl
  have hDc := hD.sub (ws' := [(w, .inr (10, [.ref tp, .ref la, .int q0.2.2.1, .int q0.2.2.2.1, .int q0.2.2.2.2.1, .int ss])), (la, .inr (1, [.int (nI pid), va_rf nx, .int ct, .int tw, .long ck, .int q0.2.2.2.2.2, va_rf se, va_rf pi])), (tp, .inr (0, [.ref a, .int q0.2.1])), (a, .inl (cB, 9400, .inl q0.1))]) [0, 1, 2, 3] (by decide) rfl
  have hFc := va_free (wc := [(w, .inr (10, [.ref tp, .ref la, .int q0.2.2.1, .int q0.2.2.2.1, .int q0.2.2.2.2.1, .int ss])), (la, .inr (1, [.int (nI pid), va_rf nx, .int ct, .int tw, .long ck, .int q0.2.2.2.2.2, va_rf se, va_rf pi])), (tp, .inr (0, [.ref a, .int q0.2.1])), (a, .inl (cB, 9400, .inl q0.1))]) hD hS hA [0, 1, 2, 3] rfl
  refine va_callv (va_runV (As := [.long 0, .int (nI 1)]) (rest := []) ⟨hx, hb, hml, hown, hts⟩ (c_Writer_putNumber l D s.heap.size cB w tp a q0 ss la nx se pi ct tw ck pid w0 tot T0 B 0 1 hq0 htot hT hpid hw0 (by (try simp only [List.length_append, bs_len, List.length_nil, ph_len]); omega) (by omega) (by omega)) (z_cV hN wd_988 wd_85 wd_985 hd_Writer_putNumber rfl rfl ⟨Nat.le_of_ble_eq_true rfl, Nat.le_of_ble_eq_true rfl⟩ wd_987 wd_23) (z_preVm (va_recv (ci := 10) (q0 := 0) hK hP rfl rfl) hPc hKc hN hDc) rfl rfl hl.1 rfl (lv_room (Nat.le_of_ble_eq_true rfl)) d_Writer_beginSection_3 ⟨Nat.le_of_ble_eq_true rfl, Nat.le_of_ble_eq_true rfl⟩) hS (fun q _ h => hFc q h) hFc (fun q3 t H locs ht hvm e3 hB hz1 hk1 hS => ?_)
  obtain ⟨hP1, hK1, hD1⟩ := hB
  rw [ht] at hP1
  obtain ⟨hP, hD⟩ := va_join (wr := []) (w1 := [(w, .inr (10, [.ref tp, .ref la, .int q3.2.2.1, .int q3.2.2.2.1, .int q3.2.2.2.2.1, .int ss])), (la, .inr (1, [.int (nI pid), va_rf nx, .int ct, .int tw, .long ck, .int q3.2.2.2.2.2, va_rf se, va_rf pi])), (tp, .inr (0, [.ref a, .int q3.2.1])), (a, .inl (cB, 9400, .inl q3.1))]) hP hD [0, 1, 2, 3] [] rfl rfl (by decide) (by decide) hk1 hFc hP1 hD1
  clear hk1 hP1 hD1 hFc hPc hDc hz1
  have hP : va_P D classes [(w, .inr (10, [.ref tp, .ref la, .int q3.2.2.1, .int q3.2.2.2.1, .int q3.2.2.2.2.1, .int ss])), (la, .inr (1, [.int (nI pid), va_rf nx, .int ct, .int tw, .long ck, .int q3.2.2.2.2.2, va_rf se, va_rf pi])), (tp, .inr (0, [.ref a, .int q3.2.1])), (a, .inl (cB, 9400, .inl q3.1))] H := hP
  have hD : va_D A [(w, .inr (10, [.ref tp, .ref la, .int q3.2.2.1, .int q3.2.2.2.1, .int q3.2.2.2.2.1, .int ss])), (la, .inr (1, [.int (nI pid), va_rf nx, .int ct, .int tw, .long ck, .int q3.2.2.2.2.2, va_rf se, va_rf pi])), (tp, .inr (0, [.ref a, .int q3.2.1])), (a, .inl (cB, 9400, .inl q3.1))] := hD
  refine lv_aload_n hx hb d_Writer_beginSection_6 rfl (lv_at hl 0 rfl) ?_
  refine lv_aload_n hx hb d_Writer_beginSection_7 rfl (lv_at hl 0 rfl) ?_
  refine va_get (D := D) (ci := 10) (v := .ref tp) (C := R_Writer) (T := F_Writer) (N := 6) hx hb hts i_Writer hown hK hP 0 rfl rfl 0 (by decide) (hts _ wd_952) (fun _ h9 => h9) rfl d_Writer_beginSection_8 ?_
  refine va_getN (D := D) (ci := 0) (v := .int q3.2.1) (C := R_Row) (T := F_Row) (N := 2) hx hb hts i_Row hown hK hP 2 rfl rfl 1 (by decide) (hts _ wd_110) (fun _ h9 => h9) rfl d_Writer_beginSection_11 ?_
  refine z_topi (w := nI (T0 ++ ppL pid w0 tot 0 (B ++ bsL 0 1)).length) e3.2.1 ?_
  refine va_put (D := D) (ci := 10) (v := .int (nI (T0 ++ ppL pid w0 tot 0 (B ++ bsL 0 1)).length)) (ty := .int) (C := R_Writer) (T := F_Writer) (N := 6) hx hb hts i_Writer t_Writer t_Writer_ok n_Writer hown hK hP hD hS 0 rfl rfl 5 (by decide) (hts _ wd_957) (fun _ h9 => h9) rfl (by decide +kernel) rfl rfl (Nat.le_of_ble_eq_true rfl) d_Writer_beginSection_14 (fun H locs hP hD hS => ?_)
  have hP : va_P D classes [(w, .inr (10, [.ref tp, .ref la, .int q3.2.2.1, .int q3.2.2.2.1, .int q3.2.2.2.2.1, .int (nI (T0 ++ ppL pid w0 tot 0 (B ++ bsL 0 1)).length)])), (la, .inr (1, [.int (nI pid), va_rf nx, .int ct, .int tw, .long ck, .int q3.2.2.2.2.2, va_rf se, va_rf pi])), (tp, .inr (0, [.ref a, .int q3.2.1])), (a, .inl (cB, 9400, .inl q3.1))] H := hP
  have hD : va_D A [(w, .inr (10, [.ref tp, .ref la, .int q3.2.2.1, .int q3.2.2.2.1, .int q3.2.2.2.2.1, .int (nI (T0 ++ ppL pid w0 tot 0 (B ++ bsL 0 1)).length)])), (la, .inr (1, [.int (nI pid), va_rf nx, .int ct, .int tw, .long ck, .int q3.2.2.2.2.2, va_rf se, va_rf pi])), (tp, .inr (0, [.ref a, .int q3.2.1])), (a, .inl (cB, 9400, .inl q3.1))] := hD
  refine lv_aload_n hx hb d_Writer_beginSection_17 rfl (lv_at hl 0 rfl) ?_
  refine lv_iload_n hx hb d_Writer_beginSection_18 rfl (lv_at hl 1 rfl) ?_
  refine lv_i2l (v := tb.toInt64) hx hb d_Writer_beginSection_19 rfl ?_
  refine lv_iconst (v := 1) hx hb d_Writer_beginSection_20 (by decide) ?_
  have hPc := hP.sub (ws' := [(w, .inr (10, [.ref tp, .ref la, .int q3.2.2.1, .int q3.2.2.2.1, .int q3.2.2.2.2.1, .int (nI (T0 ++ ppL pid w0 tot 0 (B ++ bsL 0 1)).length)])), (la, .inr (1, [.int (nI pid), va_rf nx, .int ct, .int tw, .long ck, .int q3.2.2.2.2.2, va_rf se, va_rf pi])), (tp, .inr (0, [.ref a, .int q3.2.1])), (a, .inl (cB, 9400, .inl q3.1))]) [0, 1, 2, 3] rfl
  have hKc := hK.sub (tys' := [(cB, .byte)]) [0] rfl
  have hDc := hD.sub (ws' := [(w, .inr (10, [.ref tp, .ref la, .int q3.2.2.1, .int q3.2.2.2.1, .int q3.2.2.2.2.1, .int (nI (T0 ++ ppL pid w0 tot 0 (B ++ bsL 0 1)).length)])), (la, .inr (1, [.int (nI pid), va_rf nx, .int ct, .int tw, .long ck, .int q3.2.2.2.2.2, va_rf se, va_rf pi])), (tp, .inr (0, [.ref a, .int q3.2.1])), (a, .inl (cB, 9400, .inl q3.1))]) [0, 1, 2, 3] (by decide) rfl
  have hFc := va_free (wc := [(w, .inr (10, [.ref tp, .ref la, .int q3.2.2.1, .int q3.2.2.2.1, .int q3.2.2.2.2.1, .int (nI (T0 ++ ppL pid w0 tot 0 (B ++ bsL 0 1)).length)])), (la, .inr (1, [.int (nI pid), va_rf nx, .int ct, .int tw, .long ck, .int q3.2.2.2.2.2, va_rf se, va_rf pi])), (tp, .inr (0, [.ref a, .int q3.2.1])), (a, .inl (cB, 9400, .inl q3.1))]) hD hS hA [0, 1, 2, 3] rfl
  refine va_callv (va_runV (As := [.long tb.toInt64, .int (nI 1)]) (rest := []) ⟨hx, hb, hml, hown, hts⟩ (c_Writer_putNumber l D H.size cB w tp a q3 (nI (T0 ++ ppL pid w0 tot 0 (B ++ bsL 0 1)).length) la nx se pi ct tw ck pid w0 tot T0 (B ++ bsL 0 1) tb.toInt64 1 e3 htot hT hpid hw0 (by (try simp only [List.length_append, bs_len, List.length_nil, ph_len]); omega) (by omega) (by omega)) (z_cV hN wd_988 wd_85 wd_985 hd_Writer_putNumber rfl rfl ⟨Nat.le_of_ble_eq_true rfl, Nat.le_of_ble_eq_true rfl⟩ wd_987 wd_23) (z_preVm (va_recv (ci := 10) (q0 := 0) hK hP rfl rfl) hPc hKc hN hDc) rfl rfl hl.1 rfl (lv_room (Nat.le_of_ble_eq_true rfl)) d_Writer_beginSection_21 ⟨Nat.le_of_ble_eq_true rfl, Nat.le_of_ble_eq_true rfl⟩) hS (fun q _ h => hFc q h) hFc (fun q21 t H locs ht hvm e21 hB hz1 hk1 hS => ?_)
  obtain ⟨hP1, hK1, hD1⟩ := hB
  rw [ht] at hP1
  obtain ⟨hP, hD⟩ := va_join (wr := []) (w1 := [(w, .inr (10, [.ref tp, .ref la, .int q21.2.2.1, .int q21.2.2.2.1, .int q21.2.2.2.2.1, .int (nI (T0 ++ ppL pid w0 tot 0 (B ++ bsL 0 1)).length)])), (la, .inr (1, [.int (nI pid), va_rf nx, .int ct, .int tw, .long ck, .int q21.2.2.2.2.2, va_rf se, va_rf pi])), (tp, .inr (0, [.ref a, .int q21.2.1])), (a, .inl (cB, 9400, .inl q21.1))]) hP hD [0, 1, 2, 3] [] rfl rfl (by decide) (by decide) hk1 hFc hP1 hD1
  clear hk1 hP1 hD1 hFc hPc hDc hz1
  have hP : va_P D classes [(w, .inr (10, [.ref tp, .ref la, .int q21.2.2.1, .int q21.2.2.2.1, .int q21.2.2.2.2.1, .int (nI (T0 ++ ppL pid w0 tot 0 (B ++ bsL 0 1)).length)])), (la, .inr (1, [.int (nI pid), va_rf nx, .int ct, .int tw, .long ck, .int q21.2.2.2.2.2, va_rf se, va_rf pi])), (tp, .inr (0, [.ref a, .int q21.2.1])), (a, .inl (cB, 9400, .inl q21.1))] H := hP
  have hD : va_D A [(w, .inr (10, [.ref tp, .ref la, .int q21.2.2.1, .int q21.2.2.2.1, .int q21.2.2.2.2.1, .int (nI (T0 ++ ppL pid w0 tot 0 (B ++ bsL 0 1)).length)])), (la, .inr (1, [.int (nI pid), va_rf nx, .int ct, .int tw, .long ck, .int q21.2.2.2.2.2, va_rf se, va_rf pi])), (tp, .inr (0, [.ref a, .int q21.2.1])), (a, .inl (cB, 9400, .inl q21.1))] := hD
  refine lv_aload_n hx hb d_Writer_beginSection_24 rfl (lv_at hl 0 rfl) ?_
  refine lv_iload_n hx hb d_Writer_beginSection_25 rfl (lv_at hl 2 rfl) ?_
  refine lv_i2l (v := ti.toInt64) hx hb d_Writer_beginSection_26 rfl ?_
  refine lv_iconst (v := 2) hx hb d_Writer_beginSection_27 (by decide) ?_
  have hPc := hP.sub (ws' := [(w, .inr (10, [.ref tp, .ref la, .int q21.2.2.1, .int q21.2.2.2.1, .int q21.2.2.2.2.1, .int (nI (T0 ++ ppL pid w0 tot 0 (B ++ bsL 0 1)).length)])), (la, .inr (1, [.int (nI pid), va_rf nx, .int ct, .int tw, .long ck, .int q21.2.2.2.2.2, va_rf se, va_rf pi])), (tp, .inr (0, [.ref a, .int q21.2.1])), (a, .inl (cB, 9400, .inl q21.1))]) [0, 1, 2, 3] rfl
  have hKc := hK.sub (tys' := [(cB, .byte)]) [0] rfl
  have hDc := hD.sub (ws' := [(w, .inr (10, [.ref tp, .ref la, .int q21.2.2.1, .int q21.2.2.2.1, .int q21.2.2.2.2.1, .int (nI (T0 ++ ppL pid w0 tot 0 (B ++ bsL 0 1)).length)])), (la, .inr (1, [.int (nI pid), va_rf nx, .int ct, .int tw, .long ck, .int q21.2.2.2.2.2, va_rf se, va_rf pi])), (tp, .inr (0, [.ref a, .int q21.2.1])), (a, .inl (cB, 9400, .inl q21.1))]) [0, 1, 2, 3] (by decide) rfl
  have hFc := va_free (wc := [(w, .inr (10, [.ref tp, .ref la, .int q21.2.2.1, .int q21.2.2.2.1, .int q21.2.2.2.2.1, .int (nI (T0 ++ ppL pid w0 tot 0 (B ++ bsL 0 1)).length)])), (la, .inr (1, [.int (nI pid), va_rf nx, .int ct, .int tw, .long ck, .int q21.2.2.2.2.2, va_rf se, va_rf pi])), (tp, .inr (0, [.ref a, .int q21.2.1])), (a, .inl (cB, 9400, .inl q21.1))]) hD hS hA [0, 1, 2, 3] rfl
  refine va_callv (va_runV (As := [.long ti.toInt64, .int (nI 2)]) (rest := []) ⟨hx, hb, hml, hown, hts⟩ (c_Writer_putNumber l D H.size cB w tp a q21 (nI (T0 ++ ppL pid w0 tot 0 (B ++ bsL 0 1)).length) la nx se pi ct tw ck pid w0 tot T0 ((B ++ bsL 0 1) ++ bsL tb.toInt64 1) ti.toInt64 2 e21 htot hT hpid hw0 (by (try simp only [List.length_append, bs_len, List.length_nil, ph_len]); omega) (by omega) (by omega)) (z_cV hN wd_988 wd_85 wd_985 hd_Writer_putNumber rfl rfl ⟨Nat.le_of_ble_eq_true rfl, Nat.le_of_ble_eq_true rfl⟩ wd_987 wd_23) (z_preVm (va_recv (ci := 10) (q0 := 0) hK hP rfl rfl) hPc hKc hN hDc) rfl rfl hl.1 rfl (lv_room (Nat.le_of_ble_eq_true rfl)) d_Writer_beginSection_28 ⟨Nat.le_of_ble_eq_true rfl, Nat.le_of_ble_eq_true rfl⟩) hS (fun q _ h => hFc q h) hFc (fun q28 t H locs ht hvm e28 hB hz1 hk1 hS => ?_)
  obtain ⟨hP1, hK1, hD1⟩ := hB
  rw [ht] at hP1
  obtain ⟨hP, hD⟩ := va_join (wr := []) (w1 := [(w, .inr (10, [.ref tp, .ref la, .int q28.2.2.1, .int q28.2.2.2.1, .int q28.2.2.2.2.1, .int (nI (T0 ++ ppL pid w0 tot 0 (B ++ bsL 0 1)).length)])), (la, .inr (1, [.int (nI pid), va_rf nx, .int ct, .int tw, .long ck, .int q28.2.2.2.2.2, va_rf se, va_rf pi])), (tp, .inr (0, [.ref a, .int q28.2.1])), (a, .inl (cB, 9400, .inl q28.1))]) hP hD [0, 1, 2, 3] [] rfl rfl (by decide) (by decide) hk1 hFc hP1 hD1
  clear hk1 hP1 hD1 hFc hPc hDc hz1
  have hP : va_P D classes [(w, .inr (10, [.ref tp, .ref la, .int q28.2.2.1, .int q28.2.2.2.1, .int q28.2.2.2.2.1, .int (nI (T0 ++ ppL pid w0 tot 0 (B ++ bsL 0 1)).length)])), (la, .inr (1, [.int (nI pid), va_rf nx, .int ct, .int tw, .long ck, .int q28.2.2.2.2.2, va_rf se, va_rf pi])), (tp, .inr (0, [.ref a, .int q28.2.1])), (a, .inl (cB, 9400, .inl q28.1))] H := hP
  have hD : va_D A [(w, .inr (10, [.ref tp, .ref la, .int q28.2.2.1, .int q28.2.2.2.1, .int q28.2.2.2.2.1, .int (nI (T0 ++ ppL pid w0 tot 0 (B ++ bsL 0 1)).length)])), (la, .inr (1, [.int (nI pid), va_rf nx, .int ct, .int tw, .long ck, .int q28.2.2.2.2.2, va_rf se, va_rf pi])), (tp, .inr (0, [.ref a, .int q28.2.1])), (a, .inl (cB, 9400, .inl q28.1))] := hD
  have hP9 := hP.sub (ws' := [(w, .inr (10, [.ref tp, .ref la, .int q28.2.2.1, .int q28.2.2.2.1, .int q28.2.2.2.2.1, .int (nI (T0 ++ ppL pid w0 tot 0 (B ++ bsL 0 1)).length)])), (la, .inr (1, [.int (nI pid), va_rf nx, .int ct, .int tw, .long ck, .int q28.2.2.2.2.2, va_rf se, va_rf pi])), (tp, .inr (0, [.ref a, .int q28.2.1])), (a, .inl (cB, 9400, .inl q28.1))]) [0, 1, 2, 3] rfl
  have hD9 := hD.sub (ws' := [(w, .inr (10, [.ref tp, .ref la, .int q28.2.2.1, .int q28.2.2.2.1, .int q28.2.2.2.2.1, .int (nI (T0 ++ ppL pid w0 tot 0 (B ++ bsL 0 1)).length)])), (la, .inr (1, [.int (nI pid), va_rf nx, .int ct, .int tw, .long ck, .int q28.2.2.2.2.2, va_rf se, va_rf pi])), (tp, .inr (0, [.ref a, .int q28.2.1])), (a, .inl (cB, 9400, .inl q28.1))]) [0, 1, 2, 3] (by decide) rfl
  have hK9 := hK.sub (tys' := [(cB, .byte)]) [0] rfl
  exact W.vret hx hb hr (fun t ht hW => ⟨⟨q28, rfl, (by have hz := e28; exact hz), ⟨by rw [ht]; exact hP9, va_K.moved hW.alike hK9, hD9⟩⟩, hS.F ht⟩) hS.2.2 d_Writer_beginSection_31
set_option maxHeartbeats 4000000 in
set_option maxRecDepth 100000 in
theorem c_Writer_beginTable (l : Launch) (D : va_G) (sz : Nat) (cB : ClassId) (w tp a : Nat) (q0 : WQ) (ss : Int32) (la : Nat) (nx se pi : Option Nat) (ct tw : Int32) (ck : Int64) (pid w0 tot : Nat) (T0 B : List Int32) (tb nu ve : Int32) (hq0 : WS pid w0 tot T0 B q0) (htot : tot ≤ 4100) (hT : T0.length + 188 * ((tot + 183) / 184) ≤ 9400) (hpid : pid < 8192) (hw0 : w0 < 2 ^ 29) (hB : B.length + 9 ≤ tot) : Met l y_Writer_beginTable [Cond.code y_Writer_beginTable b_Writer_beginTable 4 none] ({ frames := 4, cells := 0, slots := 0, locals := 89 }) (zM [.ref w, .int tb, .int nu, .int ve] D [(w, .inr (10, [.ref tp, .ref la, .int q0.2.2.1, .int q0.2.2.2.1, .int q0.2.2.2.2.1, .int ss])), (la, .inr (1, [.int (nI pid), va_rf nx, .int ct, .int tw, .long ck, .int q0.2.2.2.2.2, va_rf se, va_rf pi])), (tp, .inr (0, [.ref a, .int q0.2.1])), (a, .inl (cB, 9400, .inl q0.1))] [(cB, .byte)] sz) (va_Qv (fun (u : WQ) => WS pid w0 tot T0 (((((B ++ bsL 0 1) ++ bsL tb.toInt64 1) ++ bsL (45056 : Int32).toInt64 2) ++ bsL nu.toInt64 2) ++ bsL (193 ||| (ve <<< ((1 : Int32) &&& 31))).toInt64 1 ++ bsL 0 2) u) (fun (u : WQ) t => zW D (va_A [(w, .inr (10, [.ref tp, .ref la, .int q0.2.2.1, .int q0.2.2.2.1, .int q0.2.2.2.2.1, .int ss])), (la, .inr (1, [.int (nI pid), va_rf nx, .int ct, .int tw, .long ck, .int q0.2.2.2.2.2, va_rf se, va_rf pi])), (tp, .inr (0, [.ref a, .int q0.2.1])), (a, .inl (cB, 9400, .inl q0.1))] sz) [(w, .inr (10, [.ref tp, .ref la, .int u.2.2.1, .int u.2.2.2.1, .int u.2.2.2.2.1, .int (nI (T0 ++ ppL pid w0 tot 0 (B ++ bsL 0 1)).length)])), (la, .inr (1, [.int (nI pid), va_rf nx, .int ct, .int tw, .long ck, .int u.2.2.2.2.2, va_rf se, va_rf pi])), (tp, .inr (0, [.ref a, .int u.2.1])), (a, .inl (cB, 9400, .inl u.1))] [(cB, .byte)] t) (va_A [(w, .inr (10, [.ref tp, .ref la, .int q0.2.2.1, .int q0.2.2.2.1, .int q0.2.2.2.2.1, .int ss])), (la, .inr (1, [.int (nI pid), va_rf nx, .int ct, .int tw, .long ck, .int q0.2.2.2.2.2, va_rf se, va_rf pi])), (tp, .inr (0, [.ref a, .int q0.2.1])), (a, .inl (cB, 9400, .inl q0.1))] sz)) 0 0 (va_A [(w, .inr (10, [.ref tp, .ref la, .int q0.2.2.1, .int q0.2.2.2.1, .int q0.2.2.2.2.1, .int ss])), (la, .inr (1, [.int (nI pid), va_rf nx, .int ct, .int tw, .long ck, .int q0.2.2.2.2.2, va_rf se, va_rf pi])), (tp, .inr (0, [.ref a, .int q0.2.1])), (a, .inl (cB, 9400, .inl q0.1))] sz) := by
  refine Met.ofW (cc := b_Writer_beginTable) (maxL := 4) (ret := none) (by decide) rfl ?_
  intro p e s m args below meth cd s₁ Bd hml hv
  obtain ⟨rfl, hsz, hP, hK, hN, hD0⟩ := hv
  have hx := Bd.exec
  have hb := Bd.bytes
  have hr := Bd.returns
  have hts := hN.use (a := ([.ref w, .int tb, .int nu, .int ve]).toArray)
  have hown : s.vm.findClass R_Writer = some m.cls := findClass_of_methodNamed Bd.named
  have hlocks := Bd.notSynchronized
  subst hsz
  have hD := hD0.self (sz := s.heap.size)
  clear hD0
  have hA : ∀ q : Nat, s.heap.size ≤ q → va_A [(w, .inr (10, [.ref tp, .ref la, .int q0.2.2.1, .int q0.2.2.2.1, .int q0.2.2.2.2.1, .int ss])), (la, .inr (1, [.int (nI pid), va_rf nx, .int ct, .int tw, .long ck, .int q0.2.2.2.2.2, va_rf se, va_rf pi])), (tp, .inr (0, [.ref a, .int q0.2.1])), (a, .inl (cB, 9400, .inl q0.1))] s.heap.size q := fun q h => Or.inr h
  have hS : va_S (va_A [(w, .inr (10, [.ref tp, .ref la, .int q0.2.2.1, .int q0.2.2.2.1, .int q0.2.2.2.2.1, .int ss])), (la, .inr (1, [.int (nI pid), va_rf nx, .int ct, .int tw, .long ck, .int q0.2.2.2.2.2, va_rf se, va_rf pi])), (tp, .inr (0, [.ref a, .int q0.2.1])), (a, .inl (cB, 9400, .inl q0.1))] s.heap.size) s.heap s.heap [] := va_S.rf
  generalize hAe : va_A [(w, .inr (10, [.ref tp, .ref la, .int q0.2.2.1, .int q0.2.2.2.1, .int q0.2.2.2.2.1, .int ss])), (la, .inr (1, [.int (nI pid), va_rf nx, .int ct, .int tw, .long ck, .int q0.2.2.2.2.2, va_rf se, va_rf pi])), (tp, .inr (0, [.ref a, .int q0.2.1])), (a, .inl (cB, 9400, .inl q0.1))] s.heap.size = A at hD hA hS ⊢
  have hP : va_P D classes [(w, .inr (10, [.ref tp, .ref la, .int q0.2.2.1, .int q0.2.2.2.1, .int q0.2.2.2.2.1, .int ss])), (la, .inr (1, [.int (nI pid), va_rf nx, .int ct, .int tw, .long ck, .int q0.2.2.2.2.2, va_rf se, va_rf pi])), (tp, .inr (0, [.ref a, .int q0.2.1])), (a, .inl (cB, 9400, .inl q0.1))] s.heap := hP
  have hl := lv_entry ([.ref w, .int tb, .int nu, .int ve]) (n := 4) (Nat.le_of_ble_eq_true rfl)
  rw [lg_entry_eq]
  generalize (lg_sl ([.ref w, .int tb, .int nu, .int ve]) ++ List.replicate (4 - (lg_sl ([.ref w, .int tb, .int nu, .int ve])).length) Slot.unset).toArray = ls at hl ⊢
  have hl : lv_has ls 4 [(0, .ref w), (1, .int tb), (2, .int nu), (3, .int ve)] := hl
  refine lv_aload_n hx hb d_Writer_beginTable_0 rfl (lv_at hl 0 rfl) ?_
  refine lv_iload_n hx hb d_Writer_beginTable_1 rfl (lv_at hl 1 rfl) ?_
  refine lv_ldc hx hb hown (hts _ wd_980) d_Writer_beginTable_2 ?_
  have hPc := hP.sub (ws' := [(w, .inr (10, [.ref tp, .ref la, .int q0.2.2.1, .int q0.2.2.2.1, .int q0.2.2.2.2.1, .int ss])), (la, .inr (1, [.int (nI pid), va_rf nx, .int ct, .int tw, .long ck, .int q0.2.2.2.2.2, va_rf se, va_rf pi])), (tp, .inr (0, [.ref a, .int q0.2.1])), (a, .inl (cB, 9400, .inl q0.1))]) [0, 1, 2, 3] rfl
  have hKc := hK.sub (tys' := [(cB, .byte)]) [0] rfl
  have hDc := hD.sub (ws' := [(w, .inr (10, [.ref tp, .ref la, .int q0.2.2.1, .int q0.2.2.2.1, .int q0.2.2.2.2.1, .int ss])), (la, .inr (1, [.int (nI pid), va_rf nx, .int ct, .int tw, .long ck, .int q0.2.2.2.2.2, va_rf se, va_rf pi])), (tp, .inr (0, [.ref a, .int q0.2.1])), (a, .inl (cB, 9400, .inl q0.1))]) [0, 1, 2, 3] (by decide) rfl
  have hFc := va_free (wc := [(w, .inr (10, [.ref tp, .ref la, .int q0.2.2.1, .int q0.2.2.2.1, .int q0.2.2.2.2.1, .int ss])), (la, .inr (1, [.int (nI pid), va_rf nx, .int ct, .int tw, .long ck, .int q0.2.2.2.2.2, va_rf se, va_rf pi])), (tp, .inr (0, [.ref a, .int q0.2.1])), (a, .inl (cB, 9400, .inl q0.1))]) hD hS hA [0, 1, 2, 3] rfl
  refine va_callv (va_runV (As := [.int tb, .int 45056]) (rest := []) ⟨hx, hb, hml, hown, hts⟩ (c_Writer_beginSection l D s.heap.size cB w tp a q0 ss la nx se pi ct tw ck pid w0 tot T0 B tb 45056 hq0 htot hT hpid hw0 (by (try simp only [List.length_append, bs_len, List.length_nil, ph_len]); omega)) (z_cV hN wd_984 wd_85 wd_981 hd_Writer_beginSection rfl rfl ⟨Nat.le_of_ble_eq_true rfl, Nat.le_of_ble_eq_true rfl⟩ wd_982 wd_983) (z_preVm (va_recv (ci := 10) (q0 := 0) hK hP rfl rfl) hPc hKc hN hDc) rfl rfl hl.1 rfl (lv_room (Nat.le_of_ble_eq_true rfl)) d_Writer_beginTable_4 ⟨Nat.le_of_ble_eq_true rfl, Nat.le_of_ble_eq_true rfl⟩) hS (fun q _ h => hFc q h) hFc (fun q4 t H locs ht hvm e4 hB hz1 hk1 hS => ?_)
  obtain ⟨hP1, hK1, hD1⟩ := hB
  rw [ht] at hP1
  obtain ⟨hP, hD⟩ := va_join (wr := []) (w1 := [(w, .inr (10, [.ref tp, .ref la, .int q4.2.2.1, .int q4.2.2.2.1, .int q4.2.2.2.2.1, .int (nI (T0 ++ ppL pid w0 tot 0 (B ++ bsL 0 1)).length)])), (la, .inr (1, [.int (nI pid), va_rf nx, .int ct, .int tw, .long ck, .int q4.2.2.2.2.2, va_rf se, va_rf pi])), (tp, .inr (0, [.ref a, .int q4.2.1])), (a, .inl (cB, 9400, .inl q4.1))]) hP hD [0, 1, 2, 3] [] rfl rfl (by decide) (by decide) hk1 hFc hP1 hD1
  clear hk1 hP1 hD1 hFc hPc hDc hz1
  have hP : va_P D classes [(w, .inr (10, [.ref tp, .ref la, .int q4.2.2.1, .int q4.2.2.2.1, .int q4.2.2.2.2.1, .int (nI (T0 ++ ppL pid w0 tot 0 (B ++ bsL 0 1)).length)])), (la, .inr (1, [.int (nI pid), va_rf nx, .int ct, .int tw, .long ck, .int q4.2.2.2.2.2, va_rf se, va_rf pi])), (tp, .inr (0, [.ref a, .int q4.2.1])), (a, .inl (cB, 9400, .inl q4.1))] H := hP
  have hD : va_D A [(w, .inr (10, [.ref tp, .ref la, .int q4.2.2.1, .int q4.2.2.2.1, .int q4.2.2.2.2.1, .int (nI (T0 ++ ppL pid w0 tot 0 (B ++ bsL 0 1)).length)])), (la, .inr (1, [.int (nI pid), va_rf nx, .int ct, .int tw, .long ck, .int q4.2.2.2.2.2, va_rf se, va_rf pi])), (tp, .inr (0, [.ref a, .int q4.2.1])), (a, .inl (cB, 9400, .inl q4.1))] := hD
  refine lv_aload_n hx hb d_Writer_beginTable_7 rfl (lv_at hl 0 rfl) ?_
  refine lv_iload_n hx hb d_Writer_beginTable_8 rfl (lv_at hl 2 rfl) ?_
  refine lv_i2l (v := nu.toInt64) hx hb d_Writer_beginTable_9 rfl ?_
  refine lv_iconst (v := 2) hx hb d_Writer_beginTable_10 (by decide) ?_
  have hPc := hP.sub (ws' := [(w, .inr (10, [.ref tp, .ref la, .int q4.2.2.1, .int q4.2.2.2.1, .int q4.2.2.2.2.1, .int (nI (T0 ++ ppL pid w0 tot 0 (B ++ bsL 0 1)).length)])), (la, .inr (1, [.int (nI pid), va_rf nx, .int ct, .int tw, .long ck, .int q4.2.2.2.2.2, va_rf se, va_rf pi])), (tp, .inr (0, [.ref a, .int q4.2.1])), (a, .inl (cB, 9400, .inl q4.1))]) [0, 1, 2, 3] rfl
  have hKc := hK.sub (tys' := [(cB, .byte)]) [0] rfl
  have hDc := hD.sub (ws' := [(w, .inr (10, [.ref tp, .ref la, .int q4.2.2.1, .int q4.2.2.2.1, .int q4.2.2.2.2.1, .int (nI (T0 ++ ppL pid w0 tot 0 (B ++ bsL 0 1)).length)])), (la, .inr (1, [.int (nI pid), va_rf nx, .int ct, .int tw, .long ck, .int q4.2.2.2.2.2, va_rf se, va_rf pi])), (tp, .inr (0, [.ref a, .int q4.2.1])), (a, .inl (cB, 9400, .inl q4.1))]) [0, 1, 2, 3] (by decide) rfl
  have hFc := va_free (wc := [(w, .inr (10, [.ref tp, .ref la, .int q4.2.2.1, .int q4.2.2.2.1, .int q4.2.2.2.2.1, .int (nI (T0 ++ ppL pid w0 tot 0 (B ++ bsL 0 1)).length)])), (la, .inr (1, [.int (nI pid), va_rf nx, .int ct, .int tw, .long ck, .int q4.2.2.2.2.2, va_rf se, va_rf pi])), (tp, .inr (0, [.ref a, .int q4.2.1])), (a, .inl (cB, 9400, .inl q4.1))]) hD hS hA [0, 1, 2, 3] rfl
  refine va_callv (va_runV (As := [.long nu.toInt64, .int (nI 2)]) (rest := []) ⟨hx, hb, hml, hown, hts⟩ (c_Writer_putNumber l D H.size cB w tp a q4 (nI (T0 ++ ppL pid w0 tot 0 (B ++ bsL 0 1)).length) la nx se pi ct tw ck pid w0 tot T0 (((B ++ bsL 0 1) ++ bsL tb.toInt64 1) ++ bsL (45056 : Int32).toInt64 2) nu.toInt64 2 e4 htot hT hpid hw0 (by (try simp only [List.length_append, bs_len, List.length_nil, ph_len]); omega) (by omega) (by omega)) (z_cV hN wd_988 wd_85 wd_985 hd_Writer_putNumber rfl rfl ⟨Nat.le_of_ble_eq_true rfl, Nat.le_of_ble_eq_true rfl⟩ wd_987 wd_23) (z_preVm (va_recv (ci := 10) (q0 := 0) hK hP rfl rfl) hPc hKc hN hDc) rfl rfl hl.1 rfl (lv_room (Nat.le_of_ble_eq_true rfl)) d_Writer_beginTable_11 ⟨Nat.le_of_ble_eq_true rfl, Nat.le_of_ble_eq_true rfl⟩) hS (fun q _ h => hFc q h) hFc (fun q11 t H locs ht hvm e11 hB hz1 hk1 hS => ?_)
  obtain ⟨hP1, hK1, hD1⟩ := hB
  rw [ht] at hP1
  obtain ⟨hP, hD⟩ := va_join (wr := []) (w1 := [(w, .inr (10, [.ref tp, .ref la, .int q11.2.2.1, .int q11.2.2.2.1, .int q11.2.2.2.2.1, .int (nI (T0 ++ ppL pid w0 tot 0 (B ++ bsL 0 1)).length)])), (la, .inr (1, [.int (nI pid), va_rf nx, .int ct, .int tw, .long ck, .int q11.2.2.2.2.2, va_rf se, va_rf pi])), (tp, .inr (0, [.ref a, .int q11.2.1])), (a, .inl (cB, 9400, .inl q11.1))]) hP hD [0, 1, 2, 3] [] rfl rfl (by decide) (by decide) hk1 hFc hP1 hD1
  clear hk1 hP1 hD1 hFc hPc hDc hz1
  have hP : va_P D classes [(w, .inr (10, [.ref tp, .ref la, .int q11.2.2.1, .int q11.2.2.2.1, .int q11.2.2.2.2.1, .int (nI (T0 ++ ppL pid w0 tot 0 (B ++ bsL 0 1)).length)])), (la, .inr (1, [.int (nI pid), va_rf nx, .int ct, .int tw, .long ck, .int q11.2.2.2.2.2, va_rf se, va_rf pi])), (tp, .inr (0, [.ref a, .int q11.2.1])), (a, .inl (cB, 9400, .inl q11.1))] H := hP
  have hD : va_D A [(w, .inr (10, [.ref tp, .ref la, .int q11.2.2.1, .int q11.2.2.2.1, .int q11.2.2.2.2.1, .int (nI (T0 ++ ppL pid w0 tot 0 (B ++ bsL 0 1)).length)])), (la, .inr (1, [.int (nI pid), va_rf nx, .int ct, .int tw, .long ck, .int q11.2.2.2.2.2, va_rf se, va_rf pi])), (tp, .inr (0, [.ref a, .int q11.2.1])), (a, .inl (cB, 9400, .inl q11.1))] := hD
  refine lv_aload_n hx hb d_Writer_beginTable_14 rfl (lv_at hl 0 rfl) ?_
  refine lv_sipush (v := 193) hx hb d_Writer_beginTable_15 (by decide) ?_
  refine lv_iload_n hx hb d_Writer_beginTable_18 rfl (lv_at hl 3 rfl) ?_
  refine lv_iconst (v := 1) hx hb d_Writer_beginTable_19 (by decide) ?_
  refine lv_ishl hx hb d_Writer_beginTable_20 ?_
  refine lv_ior hx hb d_Writer_beginTable_21 ?_
  refine z_topi (w := (193 : Int32) ||| (ve <<< ((1 : Int32) &&& 31))) rfl ?_
  refine lv_i2l (v := ((193 : Int32) ||| (ve <<< ((1 : Int32) &&& 31))).toInt64) hx hb d_Writer_beginTable_22 rfl ?_
  refine lv_iconst (v := 1) hx hb d_Writer_beginTable_23 (by decide) ?_
  have hPc := hP.sub (ws' := [(w, .inr (10, [.ref tp, .ref la, .int q11.2.2.1, .int q11.2.2.2.1, .int q11.2.2.2.2.1, .int (nI (T0 ++ ppL pid w0 tot 0 (B ++ bsL 0 1)).length)])), (la, .inr (1, [.int (nI pid), va_rf nx, .int ct, .int tw, .long ck, .int q11.2.2.2.2.2, va_rf se, va_rf pi])), (tp, .inr (0, [.ref a, .int q11.2.1])), (a, .inl (cB, 9400, .inl q11.1))]) [0, 1, 2, 3] rfl
  have hKc := hK.sub (tys' := [(cB, .byte)]) [0] rfl
  have hDc := hD.sub (ws' := [(w, .inr (10, [.ref tp, .ref la, .int q11.2.2.1, .int q11.2.2.2.1, .int q11.2.2.2.2.1, .int (nI (T0 ++ ppL pid w0 tot 0 (B ++ bsL 0 1)).length)])), (la, .inr (1, [.int (nI pid), va_rf nx, .int ct, .int tw, .long ck, .int q11.2.2.2.2.2, va_rf se, va_rf pi])), (tp, .inr (0, [.ref a, .int q11.2.1])), (a, .inl (cB, 9400, .inl q11.1))]) [0, 1, 2, 3] (by decide) rfl
  have hFc := va_free (wc := [(w, .inr (10, [.ref tp, .ref la, .int q11.2.2.1, .int q11.2.2.2.1, .int q11.2.2.2.2.1, .int (nI (T0 ++ ppL pid w0 tot 0 (B ++ bsL 0 1)).length)])), (la, .inr (1, [.int (nI pid), va_rf nx, .int ct, .int tw, .long ck, .int q11.2.2.2.2.2, va_rf se, va_rf pi])), (tp, .inr (0, [.ref a, .int q11.2.1])), (a, .inl (cB, 9400, .inl q11.1))]) hD hS hA [0, 1, 2, 3] rfl
  refine va_callv (va_runV (As := [.long (((193 : Int32) ||| (ve <<< ((1 : Int32) &&& 31))).toInt64), .int (nI 1)]) (rest := []) ⟨hx, hb, hml, hown, hts⟩ (c_Writer_putNumber l D H.size cB w tp a q11 (nI (T0 ++ ppL pid w0 tot 0 (B ++ bsL 0 1)).length) la nx se pi ct tw ck pid w0 tot T0 ((((B ++ bsL 0 1) ++ bsL tb.toInt64 1) ++ bsL (45056 : Int32).toInt64 2) ++ bsL nu.toInt64 2) (((193 : Int32) ||| (ve <<< ((1 : Int32) &&& 31))).toInt64) 1 e11 htot hT hpid hw0 (by (try simp only [List.length_append, bs_len, List.length_nil, ph_len]); omega) (by omega) (by omega)) (z_cV hN wd_988 wd_85 wd_985 hd_Writer_putNumber rfl rfl ⟨Nat.le_of_ble_eq_true rfl, Nat.le_of_ble_eq_true rfl⟩ wd_987 wd_23) (z_preVm (va_recv (ci := 10) (q0 := 0) hK hP rfl rfl) hPc hKc hN hDc) rfl rfl hl.1 rfl (lv_room (Nat.le_of_ble_eq_true rfl)) d_Writer_beginTable_24 ⟨Nat.le_of_ble_eq_true rfl, Nat.le_of_ble_eq_true rfl⟩) hS (fun q _ h => hFc q h) hFc (fun q24 t H locs ht hvm e24 hB hz1 hk1 hS => ?_)
  obtain ⟨hP1, hK1, hD1⟩ := hB
  rw [ht] at hP1
  obtain ⟨hP, hD⟩ := va_join (wr := []) (w1 := [(w, .inr (10, [.ref tp, .ref la, .int q24.2.2.1, .int q24.2.2.2.1, .int q24.2.2.2.2.1, .int (nI (T0 ++ ppL pid w0 tot 0 (B ++ bsL 0 1)).length)])), (la, .inr (1, [.int (nI pid), va_rf nx, .int ct, .int tw, .long ck, .int q24.2.2.2.2.2, va_rf se, va_rf pi])), (tp, .inr (0, [.ref a, .int q24.2.1])), (a, .inl (cB, 9400, .inl q24.1))]) hP hD [0, 1, 2, 3] [] rfl rfl (by decide) (by decide) hk1 hFc hP1 hD1
  clear hk1 hP1 hD1 hFc hPc hDc hz1
  have hP : va_P D classes [(w, .inr (10, [.ref tp, .ref la, .int q24.2.2.1, .int q24.2.2.2.1, .int q24.2.2.2.2.1, .int (nI (T0 ++ ppL pid w0 tot 0 (B ++ bsL 0 1)).length)])), (la, .inr (1, [.int (nI pid), va_rf nx, .int ct, .int tw, .long ck, .int q24.2.2.2.2.2, va_rf se, va_rf pi])), (tp, .inr (0, [.ref a, .int q24.2.1])), (a, .inl (cB, 9400, .inl q24.1))] H := hP
  have hD : va_D A [(w, .inr (10, [.ref tp, .ref la, .int q24.2.2.1, .int q24.2.2.2.1, .int q24.2.2.2.2.1, .int (nI (T0 ++ ppL pid w0 tot 0 (B ++ bsL 0 1)).length)])), (la, .inr (1, [.int (nI pid), va_rf nx, .int ct, .int tw, .long ck, .int q24.2.2.2.2.2, va_rf se, va_rf pi])), (tp, .inr (0, [.ref a, .int q24.2.1])), (a, .inl (cB, 9400, .inl q24.1))] := hD
  refine lv_aload_n hx hb d_Writer_beginTable_27 rfl (lv_at hl 0 rfl) ?_
  refine lv_lconst (v := 0) hx hb d_Writer_beginTable_28 (by decide) ?_
  refine lv_iconst (v := 2) hx hb d_Writer_beginTable_29 (by decide) ?_
  have hPc := hP.sub (ws' := [(w, .inr (10, [.ref tp, .ref la, .int q24.2.2.1, .int q24.2.2.2.1, .int q24.2.2.2.2.1, .int (nI (T0 ++ ppL pid w0 tot 0 (B ++ bsL 0 1)).length)])), (la, .inr (1, [.int (nI pid), va_rf nx, .int ct, .int tw, .long ck, .int q24.2.2.2.2.2, va_rf se, va_rf pi])), (tp, .inr (0, [.ref a, .int q24.2.1])), (a, .inl (cB, 9400, .inl q24.1))]) [0, 1, 2, 3] rfl
  have hKc := hK.sub (tys' := [(cB, .byte)]) [0] rfl
  have hDc := hD.sub (ws' := [(w, .inr (10, [.ref tp, .ref la, .int q24.2.2.1, .int q24.2.2.2.1, .int q24.2.2.2.2.1, .int (nI (T0 ++ ppL pid w0 tot 0 (B ++ bsL 0 1)).length)])), (la, .inr (1, [.int (nI pid), va_rf nx, .int ct, .int tw, .long ck, .int q24.2.2.2.2.2, va_rf se, va_rf pi])), (tp, .inr (0, [.ref a, .int q24.2.1])), (a, .inl (cB, 9400, .inl q24.1))]) [0, 1, 2, 3] (by decide) rfl
  have hFc := va_free (wc := [(w, .inr (10, [.ref tp, .ref la, .int q24.2.2.1, .int q24.2.2.2.1, .int q24.2.2.2.2.1, .int (nI (T0 ++ ppL pid w0 tot 0 (B ++ bsL 0 1)).length)])), (la, .inr (1, [.int (nI pid), va_rf nx, .int ct, .int tw, .long ck, .int q24.2.2.2.2.2, va_rf se, va_rf pi])), (tp, .inr (0, [.ref a, .int q24.2.1])), (a, .inl (cB, 9400, .inl q24.1))]) hD hS hA [0, 1, 2, 3] rfl
  refine va_callv (va_runV (As := [.long 0, .int (nI 2)]) (rest := []) ⟨hx, hb, hml, hown, hts⟩ (c_Writer_putNumber l D H.size cB w tp a q24 (nI (T0 ++ ppL pid w0 tot 0 (B ++ bsL 0 1)).length) la nx se pi ct tw ck pid w0 tot T0 (((((B ++ bsL 0 1) ++ bsL tb.toInt64 1) ++ bsL (45056 : Int32).toInt64 2) ++ bsL nu.toInt64 2) ++ bsL (((193 : Int32) ||| (ve <<< ((1 : Int32) &&& 31))).toInt64) 1) 0 2 e24 htot hT hpid hw0 (by (try simp only [List.length_append, bs_len, List.length_nil, ph_len]); omega) (by omega) (by omega)) (z_cV hN wd_988 wd_85 wd_985 hd_Writer_putNumber rfl rfl ⟨Nat.le_of_ble_eq_true rfl, Nat.le_of_ble_eq_true rfl⟩ wd_987 wd_23) (z_preVm (va_recv (ci := 10) (q0 := 0) hK hP rfl rfl) hPc hKc hN hDc) rfl rfl hl.1 rfl (lv_room (Nat.le_of_ble_eq_true rfl)) d_Writer_beginTable_30 ⟨Nat.le_of_ble_eq_true rfl, Nat.le_of_ble_eq_true rfl⟩) hS (fun q _ h => hFc q h) hFc (fun q30 t H locs ht hvm e30 hB hz1 hk1 hS => ?_)
  obtain ⟨hP1, hK1, hD1⟩ := hB
  rw [ht] at hP1
  obtain ⟨hP, hD⟩ := va_join (wr := []) (w1 := [(w, .inr (10, [.ref tp, .ref la, .int q30.2.2.1, .int q30.2.2.2.1, .int q30.2.2.2.2.1, .int (nI (T0 ++ ppL pid w0 tot 0 (B ++ bsL 0 1)).length)])), (la, .inr (1, [.int (nI pid), va_rf nx, .int ct, .int tw, .long ck, .int q30.2.2.2.2.2, va_rf se, va_rf pi])), (tp, .inr (0, [.ref a, .int q30.2.1])), (a, .inl (cB, 9400, .inl q30.1))]) hP hD [0, 1, 2, 3] [] rfl rfl (by decide) (by decide) hk1 hFc hP1 hD1
  clear hk1 hP1 hD1 hFc hPc hDc hz1
  have hP : va_P D classes [(w, .inr (10, [.ref tp, .ref la, .int q30.2.2.1, .int q30.2.2.2.1, .int q30.2.2.2.2.1, .int (nI (T0 ++ ppL pid w0 tot 0 (B ++ bsL 0 1)).length)])), (la, .inr (1, [.int (nI pid), va_rf nx, .int ct, .int tw, .long ck, .int q30.2.2.2.2.2, va_rf se, va_rf pi])), (tp, .inr (0, [.ref a, .int q30.2.1])), (a, .inl (cB, 9400, .inl q30.1))] H := hP
  have hD : va_D A [(w, .inr (10, [.ref tp, .ref la, .int q30.2.2.1, .int q30.2.2.2.1, .int q30.2.2.2.2.1, .int (nI (T0 ++ ppL pid w0 tot 0 (B ++ bsL 0 1)).length)])), (la, .inr (1, [.int (nI pid), va_rf nx, .int ct, .int tw, .long ck, .int q30.2.2.2.2.2, va_rf se, va_rf pi])), (tp, .inr (0, [.ref a, .int q30.2.1])), (a, .inl (cB, 9400, .inl q30.1))] := hD
  have hP9 := hP.sub (ws' := [(w, .inr (10, [.ref tp, .ref la, .int q30.2.2.1, .int q30.2.2.2.1, .int q30.2.2.2.2.1, .int (nI (T0 ++ ppL pid w0 tot 0 (B ++ bsL 0 1)).length)])), (la, .inr (1, [.int (nI pid), va_rf nx, .int ct, .int tw, .long ck, .int q30.2.2.2.2.2, va_rf se, va_rf pi])), (tp, .inr (0, [.ref a, .int q30.2.1])), (a, .inl (cB, 9400, .inl q30.1))]) [0, 1, 2, 3] rfl
  have hD9 := hD.sub (ws' := [(w, .inr (10, [.ref tp, .ref la, .int q30.2.2.1, .int q30.2.2.2.1, .int q30.2.2.2.2.1, .int (nI (T0 ++ ppL pid w0 tot 0 (B ++ bsL 0 1)).length)])), (la, .inr (1, [.int (nI pid), va_rf nx, .int ct, .int tw, .long ck, .int q30.2.2.2.2.2, va_rf se, va_rf pi])), (tp, .inr (0, [.ref a, .int q30.2.1])), (a, .inl (cB, 9400, .inl q30.1))]) [0, 1, 2, 3] (by decide) rfl
  have hK9 := hK.sub (tys' := [(cB, .byte)]) [0] rfl
  exact W.vret hx hb hr (fun t ht hW => ⟨⟨q30, rfl, (by have hz := e30; exact hz), ⟨by rw [ht]; exact hP9, va_K.moved hW.alike hK9, hD9⟩⟩, hS.F ht⟩) hS.2.2 d_Writer_beginTable_33
set_option maxHeartbeats 4000000 in
set_option maxRecDepth 100000 in
theorem c_Writer_endSection (l : Launch) (D : va_G) (sz : Nat) (cB : ClassId) (w tp a : Nat) (q0 : WQ) (la : Nat) (nx se pi : Option Nat) (ct tw : Int32) (ck : Int64) (pid w0 : Nat) (T0 B : List Int32) (hq0 : WS pid w0 184 T0 B q0) (hT : T0.length + 188 ≤ 9400) (hpid : pid < 8192) (hw0 : w0 < 2 ^ 29) (hB4 : 4 ≤ B.length) (hB : B.length ≤ 180) : Met l y_Writer_endSection [Cond.code y_Writer_endSection b_Writer_endSection 2 none] ({ frames := 3, cells := 0, slots := 0, locals := 67 }) (zM [.ref w] D [(w, .inr (10, [.ref tp, .ref la, .int q0.2.2.1, .int q0.2.2.2.1, .int q0.2.2.2.2.1, .int (nI (T0.length + 5))])), (la, .inr (1, [.int (nI pid), va_rf nx, .int ct, .int tw, .long ck, .int q0.2.2.2.2.2, va_rf se, va_rf pi])), (tp, .inr (0, [.ref a, .int q0.2.1])), (a, .inl (cB, 9400, .inl q0.1))] [(cB, .byte)] sz) (va_Qv (fun (u : WQ) => WS pid w0 184 T0 (esL B) u) (fun (u : WQ) t => zW D (va_A [(w, .inr (10, [.ref tp, .ref la, .int q0.2.2.1, .int q0.2.2.2.1, .int q0.2.2.2.2.1, .int (nI (T0.length + 5))])), (la, .inr (1, [.int (nI pid), va_rf nx, .int ct, .int tw, .long ck, .int q0.2.2.2.2.2, va_rf se, va_rf pi])), (tp, .inr (0, [.ref a, .int q0.2.1])), (a, .inl (cB, 9400, .inl q0.1))] sz) [(w, .inr (10, [.ref tp, .ref la, .int u.2.2.1, .int u.2.2.2.1, .int u.2.2.2.2.1, .int (nI (T0.length + 5))])), (la, .inr (1, [.int (nI pid), va_rf nx, .int ct, .int tw, .long ck, .int u.2.2.2.2.2, va_rf se, va_rf pi])), (tp, .inr (0, [.ref a, .int u.2.1])), (a, .inl (cB, 9400, .inl u.1))] [(cB, .byte)] t) (va_A [(w, .inr (10, [.ref tp, .ref la, .int q0.2.2.1, .int q0.2.2.2.1, .int q0.2.2.2.2.1, .int (nI (T0.length + 5))])), (la, .inr (1, [.int (nI pid), va_rf nx, .int ct, .int tw, .long ck, .int q0.2.2.2.2.2, va_rf se, va_rf pi])), (tp, .inr (0, [.ref a, .int q0.2.1])), (a, .inl (cB, 9400, .inl q0.1))] sz)) 0 0 (va_A [(w, .inr (10, [.ref tp, .ref la, .int q0.2.2.1, .int q0.2.2.2.1, .int q0.2.2.2.2.1, .int (nI (T0.length + 5))])), (la, .inr (1, [.int (nI pid), va_rf nx, .int ct, .int tw, .long ck, .int q0.2.2.2.2.2, va_rf se, va_rf pi])), (tp, .inr (0, [.ref a, .int q0.2.1])), (a, .inl (cB, 9400, .inl q0.1))] sz) := by
  refine Met.ofW (cc := b_Writer_endSection) (maxL := 2) (ret := none) (by decide) rfl ?_
  intro p e s m args below meth cd s₁ Bd hml hv
  obtain ⟨rfl, hsz, hP, hK, hN, hD0⟩ := hv
  have hx := Bd.exec
  have hb := Bd.bytes
  have hr := Bd.returns
  have hts := hN.use (a := ([.ref w]).toArray)
  have hown : s.vm.findClass R_Writer = some m.cls := findClass_of_methodNamed Bd.named
  have hlocks := Bd.notSynchronized
  subst hsz
  have hD := hD0.self (sz := s.heap.size)
  clear hD0
  have hA : ∀ q : Nat, s.heap.size ≤ q → va_A [(w, .inr (10, [.ref tp, .ref la, .int q0.2.2.1, .int q0.2.2.2.1, .int q0.2.2.2.2.1, .int (nI (T0.length + 5))])), (la, .inr (1, [.int (nI pid), va_rf nx, .int ct, .int tw, .long ck, .int q0.2.2.2.2.2, va_rf se, va_rf pi])), (tp, .inr (0, [.ref a, .int q0.2.1])), (a, .inl (cB, 9400, .inl q0.1))] s.heap.size q := fun q h => Or.inr h
  have hS : va_S (va_A [(w, .inr (10, [.ref tp, .ref la, .int q0.2.2.1, .int q0.2.2.2.1, .int q0.2.2.2.2.1, .int (nI (T0.length + 5))])), (la, .inr (1, [.int (nI pid), va_rf nx, .int ct, .int tw, .long ck, .int q0.2.2.2.2.2, va_rf se, va_rf pi])), (tp, .inr (0, [.ref a, .int q0.2.1])), (a, .inl (cB, 9400, .inl q0.1))] s.heap.size) s.heap s.heap [] := va_S.rf
  generalize hAe : va_A [(w, .inr (10, [.ref tp, .ref la, .int q0.2.2.1, .int q0.2.2.2.1, .int q0.2.2.2.2.1, .int (nI (T0.length + 5))])), (la, .inr (1, [.int (nI pid), va_rf nx, .int ct, .int tw, .long ck, .int q0.2.2.2.2.2, va_rf se, va_rf pi])), (tp, .inr (0, [.ref a, .int q0.2.1])), (a, .inl (cB, 9400, .inl q0.1))] s.heap.size = A at hD hA hS ⊢
  have hP : va_P D classes [(w, .inr (10, [.ref tp, .ref la, .int q0.2.2.1, .int q0.2.2.2.1, .int q0.2.2.2.2.1, .int (nI (T0.length + 5))])), (la, .inr (1, [.int (nI pid), va_rf nx, .int ct, .int tw, .long ck, .int q0.2.2.2.2.2, va_rf se, va_rf pi])), (tp, .inr (0, [.ref a, .int q0.2.1])), (a, .inl (cB, 9400, .inl q0.1))] s.heap := hP
  have hl := lv_entry ([.ref w]) (n := 2) (Nat.le_of_ble_eq_true rfl)
  rw [lg_entry_eq]
  generalize (lg_sl ([.ref w]) ++ List.replicate (2 - (lg_sl ([.ref w])).length) Slot.unset).toArray = ls at hl ⊢
  have hl : lv_has ls 2 [(0, .ref w)] := hl
  have hl0 := tl_184 (pid := pid) (w0 := w0) (T0 := T0) (B := B) (by omega) (by omega)
  refine lv_aload_n hx hb d_Writer_endSection_0 rfl (lv_at hl 0 rfl) ?_
  refine va_get (D := D) (ci := 10) (v := .ref tp) (C := R_Writer) (T := F_Writer) (N := 6) hx hb hts i_Writer hown hK hP 0 rfl rfl 0 (by decide) (hts _ wd_952) (fun _ h9 => h9) rfl d_Writer_endSection_1 ?_
  refine lv_aload_n hx hb d_Writer_endSection_4 rfl (lv_at hl 0 rfl) ?_
  refine va_get (D := D) (ci := 10) (v := .int (nI (T0.length + 5))) (C := R_Writer) (T := F_Writer) (N := 6) hx hb hts i_Writer hown hK hP 0 rfl rfl 5 (by decide) (hts _ wd_957) (fun _ h9 => h9) rfl d_Writer_endSection_5 ?_
  refine lv_iconst (v := 2) hx hb d_Writer_endSection_8 (by decide) ?_
  refine lv_iadd hx hb d_Writer_endSection_9 ?_
  refine z_topi (w := nI (T0.length + 7)) (nI_add _ 2) ?_
  refine lv_aload_n hx hb d_Writer_endSection_10 rfl (lv_at hl 0 rfl) ?_
  refine va_get (D := D) (ci := 10) (v := .ref tp) (C := R_Writer) (T := F_Writer) (N := 6) hx hb hts i_Writer hown hK hP 0 rfl rfl 0 (by decide) (hts _ wd_952) (fun _ h9 => h9) rfl d_Writer_endSection_11 ?_
  refine va_getN (D := D) (ci := 0) (v := .int q0.2.1) (C := R_Row) (T := F_Row) (N := 2) hx hb hts i_Row hown hK hP 2 rfl rfl 1 (by decide) (hts _ wd_110) (fun _ h9 => h9) rfl d_Writer_endSection_14 ?_
  refine z_topi (w := nI (T0 ++ ppL pid w0 184 0 B).length) hq0.2.1 ?_
  refine lv_aload_n hx hb d_Writer_endSection_17 rfl (lv_at hl 0 rfl) ?_
  refine va_get (D := D) (ci := 10) (v := .int (nI (T0.length + 5))) (C := R_Writer) (T := F_Writer) (N := 6) hx hb hts i_Writer hown hK hP 0 rfl rfl 5 (by decide) (hts _ wd_957) (fun _ h9 => h9) rfl d_Writer_endSection_18 ?_
  refine lv_isub hx hb d_Writer_endSection_21 ?_
  refine z_topi (w := nI (B.length - 1)) (by rw [hl0, pk_sub (by omega)]; congr 1; omega) ?_
  refine lv_iconst (v := 3) hx hb d_Writer_endSection_22 (by decide) ?_
  refine lv_isub hx hb d_Writer_endSection_23 ?_
  refine z_topi (w := nI (B.length - 4)) (by rw [show (3 : Int32) = nI 3 from rfl, pk_sub (by omega)]; congr 1) ?_
  refine lv_iconst (v := 4) hx hb d_Writer_endSection_24 (by decide) ?_
  refine lv_iadd hx hb d_Writer_endSection_25 ?_
  refine z_topi (w := nI B.length) (by rw [show (4 : Int32) = nI 4 from rfl, nI_add]; congr 1; omega) ?_
  rw [hq0.2.1] at hP hD
  have hPc := hP.sub (ws' := [(tp, .inr (0, [.ref a, .int (nI ((T0 ++ ppL pid w0 184 0 B).length))])), (a, .inl (cB, 9400, .inl q0.1))]) [2, 3] rfl
  have hKc := hK.sub (tys' := [(cB, .byte)]) [0] rfl
  have hDc := hD.sub (ws' := [(tp, .inr (0, [.ref a, .int (nI ((T0 ++ ppL pid w0 184 0 B).length))])), (a, .inl (cB, 9400, .inl q0.1))]) [2, 3] (by decide) rfl
  have hFc := va_free (wc := [(tp, .inr (0, [.ref a, .int (nI ((T0 ++ ppL pid w0 184 0 B).length))])), (a, .inl (cB, 9400, .inl q0.1))]) hD hS hA [2, 3] rfl
  refine va_callv (va_runV (As := [.int (nI (T0.length + 7)), .int (nI B.length)]) (rest := []) ⟨hx, hb, hml, hown, hts⟩ (c_Row_put l D s.heap.size cB tp a ((T0 ++ ppL pid w0 184 0 B).length) 9400 q0.1 (T0.length + 7) (nI B.length) (by omega) (by omega) (by omega)) (z_cV hN wd_795 wd_61 wd_1007 hd_Row_put rfl rfl ⟨Nat.le_of_ble_eq_true rfl, Nat.le_of_ble_eq_true rfl⟩ wd_793 wd_794) (z_preVm (va_recv (ci := 0) (q0 := 2) hK hP rfl rfl) hPc hKc hN hDc) rfl rfl hl.1 rfl (lv_room (Nat.le_of_ble_eq_true rfl)) d_Writer_endSection_26 ⟨Nat.le_of_ble_eq_true rfl, Nat.le_of_ble_eq_true rfl⟩) hS (fun q _ h => hFc q h) hFc (fun u26 t H locs ht hvm e26 hB hz1 hk1 hS => ?_)
  obtain ⟨hP1, hK1, hD1⟩ := hB
  rw [ht] at hP1
  obtain ⟨hP, hD⟩ := va_join (wr := [(w, .inr (10, [.ref tp, .ref la, .int q0.2.2.1, .int q0.2.2.2.1, .int q0.2.2.2.2.1, .int (nI (T0.length + 5))])), (la, .inr (1, [.int (nI pid), va_rf nx, .int ct, .int tw, .long ck, .int q0.2.2.2.2.2, va_rf se, va_rf pi]))]) (w1 := [(tp, .inr (0, [.ref a, .int (nI ((T0 ++ ppL pid w0 184 0 B).length))])), (a, .inl (cB, 9400, .inl (upd q0.1 (T0.length + 7) (by8 (nI B.length)))))]) hP hD [2, 3] [0, 1] rfl rfl (by decide) (by decide) hk1 hFc hP1 hD1
  clear hk1 hP1 hD1 hFc hPc hDc hz1
  have hP : va_P D classes [(w, .inr (10, [.ref tp, .ref la, .int q0.2.2.1, .int q0.2.2.2.1, .int q0.2.2.2.2.1, .int (nI (T0.length + 5))])), (la, .inr (1, [.int (nI pid), va_rf nx, .int ct, .int tw, .long ck, .int q0.2.2.2.2.2, va_rf se, va_rf pi])), (tp, .inr (0, [.ref a, .int (nI ((T0 ++ ppL pid w0 184 0 B).length))])), (a, .inl (cB, 9400, .inl (upd q0.1 (T0.length + 7) (by8 (nI B.length)))))] H := hP
  have hD : va_D A [(w, .inr (10, [.ref tp, .ref la, .int q0.2.2.1, .int q0.2.2.2.1, .int q0.2.2.2.2.1, .int (nI (T0.length + 5))])), (la, .inr (1, [.int (nI pid), va_rf nx, .int ct, .int tw, .long ck, .int q0.2.2.2.2.2, va_rf se, va_rf pi])), (tp, .inr (0, [.ref a, .int (nI ((T0 ++ ppL pid w0 184 0 B).length))])), (a, .inl (cB, 9400, .inl (upd q0.1 (T0.length + 7) (by8 (nI B.length)))))] := hD
  refine lv_aload_n hx hb d_Writer_endSection_29 rfl (lv_at hl 0 rfl) ?_
  refine lv_aload_n hx hb d_Writer_endSection_30 rfl (lv_at hl 0 rfl) ?_
  refine va_get (D := D) (ci := 10) (v := .ref tp) (C := R_Writer) (T := F_Writer) (N := 6) hx hb hts i_Writer hown hK hP 0 rfl rfl 0 (by decide) (hts _ wd_952) (fun _ h9 => h9) rfl d_Writer_endSection_31 ?_
  refine lv_aload_n hx hb d_Writer_endSection_34 rfl (lv_at hl 0 rfl) ?_
  refine va_get (D := D) (ci := 10) (v := .int (nI (T0.length + 5))) (C := R_Writer) (T := F_Writer) (N := 6) hx hb hts i_Writer hown hK hP 0 rfl rfl 5 (by decide) (hts _ wd_957) (fun _ h9 => h9) rfl d_Writer_endSection_35 ?_
  refine lv_aload_n hx hb d_Writer_endSection_38 rfl (lv_at hl 0 rfl) ?_
  refine va_get (D := D) (ci := 10) (v := .ref tp) (C := R_Writer) (T := F_Writer) (N := 6) hx hb hts i_Writer hown hK hP 0 rfl rfl 0 (by decide) (hts _ wd_952) (fun _ h9 => h9) rfl d_Writer_endSection_39 ?_
  refine va_getN (D := D) (ci := 0) (v := .int (nI ((T0 ++ ppL pid w0 184 0 B).length))) (C := R_Row) (T := F_Row) (N := 2) hx hb hts i_Row hown hK hP 2 rfl rfl 1 (by decide) (hts _ wd_110) (fun _ h9 => h9) rfl d_Writer_endSection_42 ?_
  refine z_topi (w := nI (T0.length + 5 + (B.length - 1))) (by rw [hl0]; congr 1; omega) ?_
  have hPc := hP.sub (ws' := [(tp, .inr (0, [.ref a, .int (nI ((T0 ++ ppL pid w0 184 0 B).length))])), (a, .inl (cB, 9400, .inl (upd q0.1 (T0.length + 7) (by8 (nI B.length)))))]) [2, 3] rfl
  have hKc := hK.sub (tys' := [(cB, .byte)]) [0] rfl
  refine z_ci (va_runV (As := [.int (nI (T0.length + 5)), .int (nI ((T0.length + 5) + (B.length - 1)))]) (rest := [.ref w]) ⟨hx, hb, hml, hown, hts⟩ (c_Row_checkOf l D cB tp a ((T0 ++ ppL pid w0 184 0 B).length) 9400 (upd q0.1 (T0.length + 7) (by8 (nI B.length))) (T0.length + 5) (B.length - 1) (by omega) (by omega)) (z_cV hN wd_546 wd_61 wd_1008 hd_Row_checkOf rfl rfl ⟨Nat.le_of_ble_eq_true rfl, Nat.le_of_ble_eq_true rfl⟩ wd_544 wd_545) (z_preV (va_recv (ci := 0) (q0 := 2) hK hP rfl rfl) hPc hKc hN) rfl rfl hl.1 rfl (lv_room (Nat.le_of_ble_eq_true rfl)) d_Writer_endSection_45 ⟨Nat.le_of_ble_eq_true rfl, Nat.le_of_ble_eq_true rfl⟩) (fun r45 e45 => ?_)
  subst e45
  refine z_topi (w := ckl ((esB B).drop 1)) (es_ck hq0 hB4 hB hT) ?_
  refine lv_i2l (v := (ckl ((esB B).drop 1)).toInt64) hx hb d_Writer_endSection_48 rfl ?_
  refine lv_iconst (v := 4) hx hb d_Writer_endSection_49 (by decide) ?_
  have hPc := hP.sub (ws' := [(w, .inr (10, [.ref tp, .ref la, .int ((upd q0.1 (T0.length + 7) (by8 (nI B.length)), nI ((T0 ++ ppL pid w0 184 0 B).length), q0.2.2.1, q0.2.2.2.1, q0.2.2.2.2.1, q0.2.2.2.2.2).2.2.1), .int ((upd q0.1 (T0.length + 7) (by8 (nI B.length)), nI ((T0 ++ ppL pid w0 184 0 B).length), q0.2.2.1, q0.2.2.2.1, q0.2.2.2.2.1, q0.2.2.2.2.2).2.2.2.1), .int ((upd q0.1 (T0.length + 7) (by8 (nI B.length)), nI ((T0 ++ ppL pid w0 184 0 B).length), q0.2.2.1, q0.2.2.2.1, q0.2.2.2.2.1, q0.2.2.2.2.2).2.2.2.2.1), .int (nI (T0.length + 5))])), (la, .inr (1, [.int (nI pid), va_rf nx, .int ct, .int tw, .long ck, .int ((upd q0.1 (T0.length + 7) (by8 (nI B.length)), nI ((T0 ++ ppL pid w0 184 0 B).length), q0.2.2.1, q0.2.2.2.1, q0.2.2.2.2.1, q0.2.2.2.2.2).2.2.2.2.2), va_rf se, va_rf pi])), (tp, .inr (0, [.ref a, .int ((upd q0.1 (T0.length + 7) (by8 (nI B.length)), nI ((T0 ++ ppL pid w0 184 0 B).length), q0.2.2.1, q0.2.2.2.1, q0.2.2.2.2.1, q0.2.2.2.2.2).2.1)])), (a, .inl (cB, 9400, .inl ((upd q0.1 (T0.length + 7) (by8 (nI B.length)), nI ((T0 ++ ppL pid w0 184 0 B).length), q0.2.2.1, q0.2.2.2.1, q0.2.2.2.2.1, q0.2.2.2.2.2).1)))]) [0, 1, 2, 3] rfl
  have hKc := hK.sub (tys' := [(cB, .byte)]) [0] rfl
  have hDc := hD.sub (ws' := [(w, .inr (10, [.ref tp, .ref la, .int ((upd q0.1 (T0.length + 7) (by8 (nI B.length)), nI ((T0 ++ ppL pid w0 184 0 B).length), q0.2.2.1, q0.2.2.2.1, q0.2.2.2.2.1, q0.2.2.2.2.2).2.2.1), .int ((upd q0.1 (T0.length + 7) (by8 (nI B.length)), nI ((T0 ++ ppL pid w0 184 0 B).length), q0.2.2.1, q0.2.2.2.1, q0.2.2.2.2.1, q0.2.2.2.2.2).2.2.2.1), .int ((upd q0.1 (T0.length + 7) (by8 (nI B.length)), nI ((T0 ++ ppL pid w0 184 0 B).length), q0.2.2.1, q0.2.2.2.1, q0.2.2.2.2.1, q0.2.2.2.2.2).2.2.2.2.1), .int (nI (T0.length + 5))])), (la, .inr (1, [.int (nI pid), va_rf nx, .int ct, .int tw, .long ck, .int ((upd q0.1 (T0.length + 7) (by8 (nI B.length)), nI ((T0 ++ ppL pid w0 184 0 B).length), q0.2.2.1, q0.2.2.2.1, q0.2.2.2.2.1, q0.2.2.2.2.2).2.2.2.2.2), va_rf se, va_rf pi])), (tp, .inr (0, [.ref a, .int ((upd q0.1 (T0.length + 7) (by8 (nI B.length)), nI ((T0 ++ ppL pid w0 184 0 B).length), q0.2.2.1, q0.2.2.2.1, q0.2.2.2.2.1, q0.2.2.2.2.2).2.1)])), (a, .inl (cB, 9400, .inl ((upd q0.1 (T0.length + 7) (by8 (nI B.length)), nI ((T0 ++ ppL pid w0 184 0 B).length), q0.2.2.1, q0.2.2.2.1, q0.2.2.2.2.1, q0.2.2.2.2.2).1)))]) [0, 1, 2, 3] (by decide) rfl
  have hFc := va_free (wc := [(w, .inr (10, [.ref tp, .ref la, .int ((upd q0.1 (T0.length + 7) (by8 (nI B.length)), nI ((T0 ++ ppL pid w0 184 0 B).length), q0.2.2.1, q0.2.2.2.1, q0.2.2.2.2.1, q0.2.2.2.2.2).2.2.1), .int ((upd q0.1 (T0.length + 7) (by8 (nI B.length)), nI ((T0 ++ ppL pid w0 184 0 B).length), q0.2.2.1, q0.2.2.2.1, q0.2.2.2.2.1, q0.2.2.2.2.2).2.2.2.1), .int ((upd q0.1 (T0.length + 7) (by8 (nI B.length)), nI ((T0 ++ ppL pid w0 184 0 B).length), q0.2.2.1, q0.2.2.2.1, q0.2.2.2.2.1, q0.2.2.2.2.2).2.2.2.2.1), .int (nI (T0.length + 5))])), (la, .inr (1, [.int (nI pid), va_rf nx, .int ct, .int tw, .long ck, .int ((upd q0.1 (T0.length + 7) (by8 (nI B.length)), nI ((T0 ++ ppL pid w0 184 0 B).length), q0.2.2.1, q0.2.2.2.1, q0.2.2.2.2.1, q0.2.2.2.2.2).2.2.2.2.2), va_rf se, va_rf pi])), (tp, .inr (0, [.ref a, .int ((upd q0.1 (T0.length + 7) (by8 (nI B.length)), nI ((T0 ++ ppL pid w0 184 0 B).length), q0.2.2.1, q0.2.2.2.1, q0.2.2.2.2.1, q0.2.2.2.2.2).2.1)])), (a, .inl (cB, 9400, .inl ((upd q0.1 (T0.length + 7) (by8 (nI B.length)), nI ((T0 ++ ppL pid w0 184 0 B).length), q0.2.2.1, q0.2.2.2.1, q0.2.2.2.2.1, q0.2.2.2.2.2).1)))]) hD hS hA [0, 1, 2, 3] rfl
  refine va_callv (va_runV (As := [.long ((ckl ((esB B).drop 1)).toInt64), .int (nI 4)]) (rest := []) ⟨hx, hb, hml, hown, hts⟩ (c_Writer_putNumber l D H.size cB w tp a (upd q0.1 (T0.length + 7) (by8 (nI B.length)), nI ((T0 ++ ppL pid w0 184 0 B).length), q0.2.2.1, q0.2.2.2.1, q0.2.2.2.2.1, q0.2.2.2.2.2) (nI (T0.length + 5)) la nx se pi ct tw ck pid w0 184 T0 (esB B) ((ckl ((esB B).drop 1)).toInt64) 4 (es_1 hq0 hB4 hB) (by omega) (by omega) hpid hw0 (by rw [esB_len]; omega) (by omega) (by omega)) (z_cV hN wd_988 wd_85 wd_985 hd_Writer_putNumber rfl rfl ⟨Nat.le_of_ble_eq_true rfl, Nat.le_of_ble_eq_true rfl⟩ wd_987 wd_23) (z_preVm (va_recv (ci := 10) (q0 := 0) hK hP rfl rfl) hPc hKc hN hDc) rfl rfl hl.1 rfl (lv_room (Nat.le_of_ble_eq_true rfl)) d_Writer_endSection_50 ⟨Nat.le_of_ble_eq_true rfl, Nat.le_of_ble_eq_true rfl⟩) hS (fun q _ h => hFc q h) hFc (fun q50 t H locs ht hvm e50 hB hz1 hk1 hS => ?_)
  obtain ⟨hP1, hK1, hD1⟩ := hB
  rw [ht] at hP1
  obtain ⟨hP, hD⟩ := va_join (wr := []) (w1 := [(w, .inr (10, [.ref tp, .ref la, .int q50.2.2.1, .int q50.2.2.2.1, .int q50.2.2.2.2.1, .int (nI (T0.length + 5))])), (la, .inr (1, [.int (nI pid), va_rf nx, .int ct, .int tw, .long ck, .int q50.2.2.2.2.2, va_rf se, va_rf pi])), (tp, .inr (0, [.ref a, .int q50.2.1])), (a, .inl (cB, 9400, .inl q50.1))]) hP hD [0, 1, 2, 3] [] rfl rfl (by decide) (by decide) hk1 hFc hP1 hD1
  clear hk1 hP1 hD1 hFc hPc hDc hz1
  have hP : va_P D classes [(w, .inr (10, [.ref tp, .ref la, .int q50.2.2.1, .int q50.2.2.2.1, .int q50.2.2.2.2.1, .int (nI (T0.length + 5))])), (la, .inr (1, [.int (nI pid), va_rf nx, .int ct, .int tw, .long ck, .int q50.2.2.2.2.2, va_rf se, va_rf pi])), (tp, .inr (0, [.ref a, .int q50.2.1])), (a, .inl (cB, 9400, .inl q50.1))] H := hP
  have hD : va_D A [(w, .inr (10, [.ref tp, .ref la, .int q50.2.2.1, .int q50.2.2.2.1, .int q50.2.2.2.2.1, .int (nI (T0.length + 5))])), (la, .inr (1, [.int (nI pid), va_rf nx, .int ct, .int tw, .long ck, .int q50.2.2.2.2.2, va_rf se, va_rf pi])), (tp, .inr (0, [.ref a, .int q50.2.1])), (a, .inl (cB, 9400, .inl q50.1))] := hD
  refine lv_aload_n hx hb d_Writer_endSection_53 rfl (lv_at hl 0 rfl) ?_
  refine va_get (D := D) (ci := 10) (v := .int q50.2.2.1) (C := R_Writer) (T := F_Writer) (N := 6) hx hb hts i_Writer hown hK hP 0 rfl rfl 2 (by decide) (hts _ wd_954) (fun _ h9 => h9) rfl d_Writer_endSection_54 ?_
  refine z_topi (w := nI (184 - (esC B).length)) e50.2.2.1 ?_
  refine lv_istore_n (lv' := [(1, .int (nI (184 - (esC B).length))), (0, .ref w)]) hx hb d_Writer_endSection_57 rfl hl (by decide) rfl (fun ls hl => ?_)
  have loop58 : ∀ (N : Nat) (X : List Int32) (q : WQ) (H : Heap) (locs : List Loc) (ls : Array Slot) (hm : 184 - X.length < N) (hq : WS pid w0 184 T0 X q) (hX : X.length ≤ 184) (hXe : X ++ List.replicate (184 - X.length) 255 = esL B) (hl : lv_has ls 2 [(0, .ref w), (1, .int (nI (184 - X.length)))]) (hP : va_P D classes [(w, .inr (10, [.ref tp, .ref la, .int q.2.2.1, .int q.2.2.2.1, .int q.2.2.2.2.1, .int (nI (T0.length + 5))])), (la, .inr (1, [.int (nI pid), va_rf nx, .int ct, .int tw, .long ck, .int q.2.2.2.2.2, va_rf se, va_rf pi])), (tp, .inr (0, [.ref a, .int q.2.1])), (a, .inl (cB, 9400, .inl q.1))] H) (hD : va_D A [(w, .inr (10, [.ref tp, .ref la, .int q.2.2.1, .int q.2.2.2.1, .int q.2.2.2.2.1, .int (nI (T0.length + 5))])), (la, .inr (1, [.int (nI pid), va_rf nx, .int ct, .int tw, .long ck, .int q.2.2.2.2.2, va_rf se, va_rf pi])), (tp, .inr (0, [.ref a, .int q.2.1])), (a, .inl (cB, 9400, .inl q.1))]) (hS : va_S A s.heap H locs), W p l e ({ frames := 3, cells := 0, slots := 0, locals := 67 }) s m ([.ref w]).toArray below meth cd H locs 0 0 (MQ below (va_Qv (fun (u : WQ) => WS pid w0 184 T0 (esL B) u) (fun (u : WQ) t => zW D (A) [(w, .inr (10, [.ref tp, .ref la, .int u.2.2.1, .int u.2.2.2.1, .int u.2.2.2.2.1, .int (nI (T0.length + 5))])), (la, .inr (1, [.int (nI pid), va_rf nx, .int ct, .int tw, .long ck, .int u.2.2.2.2.2, va_rf se, va_rf pi])), (tp, .inr (0, [.ref a, .int u.2.1])), (a, .inl (cB, 9400, .inl u.1))] [(cB, .byte)] t) (A)) ([.ref w]).toArray s 0 0 (A)) (F0 m 58 ls []) := by
    intro N58
    induction N58 with
    | zero => intro X q H locs ls hm hq hX hXe hl hP hD hS; exact absurd hm (Nat.not_lt_zero _)
    | succ N58 ih58 =>
      intro X q H locs ls hm hq hX hXe hl hP hD hS
      refine lv_iload_n hx hb d_Writer_endSection_58 rfl (lv_at hl 1 rfl) ?_
      refine lv_if_le (tgt := 76) hx hb d_Writer_endSection_59 rfl (fun h59 => ?_) (fun h59 => ?_)
      · have h59 := es_le h59 (by omega)
        have hP9 := hP.sub (ws' := [(w, .inr (10, [.ref tp, .ref la, .int q.2.2.1, .int q.2.2.2.1, .int q.2.2.2.2.1, .int (nI (T0.length + 5))])), (la, .inr (1, [.int (nI pid), va_rf nx, .int ct, .int tw, .long ck, .int q.2.2.2.2.2, va_rf se, va_rf pi])), (tp, .inr (0, [.ref a, .int q.2.1])), (a, .inl (cB, 9400, .inl q.1))]) [0, 1, 2, 3] rfl
        have hD9 := hD.sub (ws' := [(w, .inr (10, [.ref tp, .ref la, .int q.2.2.1, .int q.2.2.2.1, .int q.2.2.2.2.1, .int (nI (T0.length + 5))])), (la, .inr (1, [.int (nI pid), va_rf nx, .int ct, .int tw, .long ck, .int q.2.2.2.2.2, va_rf se, va_rf pi])), (tp, .inr (0, [.ref a, .int q.2.1])), (a, .inl (cB, 9400, .inl q.1))]) [0, 1, 2, 3] (by decide) rfl
        have hK9 := hK.sub (tys' := [(cB, .byte)]) [0] rfl
        exact W.vret hx hb hr (fun t ht hW => ⟨⟨q, rfl, (by dsimp only; rw [h59, List.replicate_zero, List.append_nil] at hXe; rw [hXe] at hq; exact hq), ⟨by rw [ht]; exact hP9, va_K.moved hW.alike hK9, hD9⟩⟩, hS.F ht⟩) hS.2.2 d_Writer_endSection_76
      · have h59 := es_gt h59 (by omega)
        refine lv_aload_n hx hb d_Writer_endSection_62 rfl (lv_at hl 0 rfl) ?_
        refine lv_ldc2 hx hb hown (hts _ wd_1009) d_Writer_endSection_63 ?_
        refine lv_iconst (v := 1) hx hb d_Writer_endSection_66 (by decide) ?_
        have hPc := hP.sub (ws' := [(w, .inr (10, [.ref tp, .ref la, .int q.2.2.1, .int q.2.2.2.1, .int q.2.2.2.2.1, .int (nI (T0.length + 5))])), (la, .inr (1, [.int (nI pid), va_rf nx, .int ct, .int tw, .long ck, .int q.2.2.2.2.2, va_rf se, va_rf pi])), (tp, .inr (0, [.ref a, .int q.2.1])), (a, .inl (cB, 9400, .inl q.1))]) [0, 1, 2, 3] rfl
        have hKc := hK.sub (tys' := [(cB, .byte)]) [0] rfl
        have hDc := hD.sub (ws' := [(w, .inr (10, [.ref tp, .ref la, .int q.2.2.1, .int q.2.2.2.1, .int q.2.2.2.2.1, .int (nI (T0.length + 5))])), (la, .inr (1, [.int (nI pid), va_rf nx, .int ct, .int tw, .long ck, .int q.2.2.2.2.2, va_rf se, va_rf pi])), (tp, .inr (0, [.ref a, .int q.2.1])), (a, .inl (cB, 9400, .inl q.1))]) [0, 1, 2, 3] (by decide) rfl
        have hFc := va_free (wc := [(w, .inr (10, [.ref tp, .ref la, .int q.2.2.1, .int q.2.2.2.1, .int q.2.2.2.2.1, .int (nI (T0.length + 5))])), (la, .inr (1, [.int (nI pid), va_rf nx, .int ct, .int tw, .long ck, .int q.2.2.2.2.2, va_rf se, va_rf pi])), (tp, .inr (0, [.ref a, .int q.2.1])), (a, .inl (cB, 9400, .inl q.1))]) hD hS hA [0, 1, 2, 3] rfl
        refine va_callv (va_runV (As := [.long 255, .int (nI 1)]) (rest := []) ⟨hx, hb, hml, hown, hts⟩ (c_Writer_putNumber l D H.size cB w tp a q (nI (T0.length + 5)) la nx se pi ct tw ck pid w0 184 T0 X 255 1 hq (by omega) (by omega) hpid hw0 (by omega) (by omega) (by omega)) (z_cV hN wd_988 wd_85 wd_985 hd_Writer_putNumber rfl rfl ⟨Nat.le_of_ble_eq_true rfl, Nat.le_of_ble_eq_true rfl⟩ wd_987 wd_23) (z_preVm (va_recv (ci := 10) (q0 := 0) hK hP rfl rfl) hPc hKc hN hDc) rfl rfl hl.1 rfl (lv_room (Nat.le_of_ble_eq_true rfl)) d_Writer_endSection_67 ⟨Nat.le_of_ble_eq_true rfl, Nat.le_of_ble_eq_true rfl⟩) hS (fun q _ h => hFc q h) hFc (fun q67 t H locs ht hvm e67 hB hz1 hk1 hS => ?_)
        obtain ⟨hP1, hK1, hD1⟩ := hB
        rw [ht] at hP1
        obtain ⟨hP, hD⟩ := va_join (wr := []) (w1 := [(w, .inr (10, [.ref tp, .ref la, .int q67.2.2.1, .int q67.2.2.2.1, .int q67.2.2.2.2.1, .int (nI (T0.length + 5))])), (la, .inr (1, [.int (nI pid), va_rf nx, .int ct, .int tw, .long ck, .int q67.2.2.2.2.2, va_rf se, va_rf pi])), (tp, .inr (0, [.ref a, .int q67.2.1])), (a, .inl (cB, 9400, .inl q67.1))]) hP hD [0, 1, 2, 3] [] rfl rfl (by decide) (by decide) hk1 hFc hP1 hD1
        clear hk1 hP1 hD1 hFc hPc hDc hz1
        have hP : va_P D classes [(w, .inr (10, [.ref tp, .ref la, .int q67.2.2.1, .int q67.2.2.2.1, .int q67.2.2.2.2.1, .int (nI (T0.length + 5))])), (la, .inr (1, [.int (nI pid), va_rf nx, .int ct, .int tw, .long ck, .int q67.2.2.2.2.2, va_rf se, va_rf pi])), (tp, .inr (0, [.ref a, .int q67.2.1])), (a, .inl (cB, 9400, .inl q67.1))] H := hP
        have hD : va_D A [(w, .inr (10, [.ref tp, .ref la, .int q67.2.2.1, .int q67.2.2.2.1, .int q67.2.2.2.2.1, .int (nI (T0.length + 5))])), (la, .inr (1, [.int (nI pid), va_rf nx, .int ct, .int tw, .long ck, .int q67.2.2.2.2.2, va_rf se, va_rf pi])), (tp, .inr (0, [.ref a, .int q67.2.1])), (a, .inl (cB, 9400, .inl q67.1))] := hD
        refine lv_iinc (k := 1) (v := nI (184 - (X ++ bsL 255 1).length)) (lv' := [(1, .int (nI (184 - (X ++ bsL 255 1).length))), (0, .ref w)]) hx hb d_Writer_endSection_70 hl rfl (by rw [List.length_append, bs_len, show Int32.ofInt (-1) = -1 from rfl, show 184 - X.length = (184 - (X.length + 1)) + 1 by omega, pk_m1]) (by decide) rfl (fun ls hl => ?_)
        refine lv_goto (tgt := 58) hx hb d_Writer_endSection_73 rfl ?_
        exact ih58 (X ++ bsL 255 1) q67 H locs ls (by rw [List.length_append, bs_len]; omega) e67 (by rw [List.length_append, bs_len]; omega) (es_pad hXe (by omega)) (lv_sub hl [1, 0] rfl) hP hD hS
  exact loop58 _ (esC B) q50 H locs ls (Nat.lt_succ_self _) e50 (by rw [esC_len]; omega) (by rw [esC_len]; unfold esL; congr 2; omega) (lv_sub hl [1, 0] rfl) hP hD hS
