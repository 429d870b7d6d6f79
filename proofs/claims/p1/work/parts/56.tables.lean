theorem wd_22 : (Jvm.Cond.selects "StreamSplitter$Writer" ({ cls := "StreamSplitter$Writer", name := "beginTable", desc := "(III)V" } : Jvm.MethodName) ({ cls := "StreamSplitter$Writer", name := "beginTable", desc := "(III)V" } : Jvm.MethodName)) ∈ lw_ok := List.mem_filter.mpr ⟨List.mem_of_getElem? (i := 22) (by decide +kernel), rfl⟩
theorem wd_971 : (Jvm.Cond.methodLink "StreamSplitter" (236 : Nat) ({ cls := "StreamSplitter$Writer", name := "putList", desc := "(Ljava/util/ArrayList;I)V" } : Jvm.MethodName)) ∈ lw_ok := List.mem_filter.mpr ⟨List.mem_of_getElem? (i := 971) (by decide +kernel), rfl⟩
theorem wd_972 : (Jvm.Cond.instanceMethod ({ cls := "StreamSplitter$Writer", name := "putList", desc := "(Ljava/util/ArrayList;I)V" } : Jvm.MethodName)) ∈ lw_ok := List.mem_filter.mpr ⟨List.mem_of_getElem? (i := 972) (by decide +kernel), rfl⟩
theorem wd_973 : (Jvm.Cond.selects "StreamSplitter$Writer" ({ cls := "StreamSplitter$Writer", name := "putList", desc := "(Ljava/util/ArrayList;I)V" } : Jvm.MethodName) ({ cls := "StreamSplitter$Writer", name := "putList", desc := "(Ljava/util/ArrayList;I)V" } : Jvm.MethodName)) ∈ lw_ok := List.mem_filter.mpr ⟨List.mem_of_getElem? (i := 973) (by decide +kernel), rfl⟩
set_option maxRecDepth 100000 in
theorem wd_974 : (Jvm.Cond.code ({ cls := "StreamSplitter$Writer", name := "putList", desc := "(Ljava/util/ArrayList;I)V" } : Jvm.MethodName) prog_12_method_9_code (4 : Nat) (Option.none : Option Jvm.ClassFile.FieldType)) ∈ lw_ok := List.mem_filter.mpr ⟨List.mem_of_getElem? (i := 974) (by rfl), rfl⟩
theorem wd_975 : (Jvm.Cond.constant "StreamSplitter$Writer" (79 : Nat) (65535 : Int32)) ∈ lw_ok := List.mem_filter.mpr ⟨List.mem_of_getElem? (i := 975) (by decide +kernel), rfl⟩
theorem wd_976 : (Jvm.Cond.methodLink "StreamSplitter$Writer" (80 : Nat) ({ cls := "StreamSplitter$Writer", name := "beginTable", desc := "(III)V" } : Jvm.MethodName)) ∈ lw_ok := List.mem_filter.mpr ⟨List.mem_of_getElem? (i := 976) (by decide +kernel), rfl⟩
theorem wd_978 : (Jvm.Cond.instanceMethod ({ cls := "StreamSplitter$Writer", name := "beginTable", desc := "(III)V" } : Jvm.MethodName)) ∈ lw_ok := List.mem_filter.mpr ⟨List.mem_of_getElem? (i := 978) (by decide +kernel), rfl⟩
set_option maxRecDepth 100000 in
theorem wd_979 : (Jvm.Cond.code ({ cls := "StreamSplitter$Writer", name := "beginTable", desc := "(III)V" } : Jvm.MethodName) prog_12_method_6_code (4 : Nat) (Option.none : Option Jvm.ClassFile.FieldType)) ∈ lw_ok := List.mem_filter.mpr ⟨List.mem_of_getElem? (i := 979) (by rfl), rfl⟩
theorem wd_995 : (Jvm.Cond.methodLink "StreamSplitter$Writer" (84 : Nat) ({ cls := "java/util/ArrayList", name := "size", desc := "()I" } : Jvm.MethodName)) ∈ lw_ok := List.mem_filter.mpr ⟨List.mem_of_getElem? (i := 995) (by decide +kernel), rfl⟩
theorem wd_1003 : (Jvm.Cond.methodLink "StreamSplitter$Writer" (102 : Nat) ({ cls := "StreamSplitter$Writer", name := "endSection", desc := "()V" } : Jvm.MethodName)) ∈ lw_ok := List.mem_filter.mpr ⟨List.mem_of_getElem? (i := 1003) (by decide +kernel), rfl⟩
theorem hd_Writer_beginTable : y_Writer_beginTable.cls ≠ "java/lang/invoke/MethodHandle" ∧ y_Writer_beginTable.cls ≠ "java/lang/invoke/VarHandle" ∧ (parseMethodDescriptor y_Writer_beginTable.desc).map (fun d => d.parameters.length) = some 3 := by decide +kernel
theorem hd_Writer_putList : y_Writer_putList.cls ≠ "java/lang/invoke/MethodHandle" ∧ y_Writer_putList.cls ≠ "java/lang/invoke/VarHandle" ∧ (parseMethodDescriptor y_Writer_putList.desc).map (fun d => d.parameters.length) = some 2 := by decide +kernel
theorem d_SS_writeTables_20 : decode b_SS_writeTables 20 = .ok (.aload_n 0, 1) := by decide +kernel
theorem d_SS_writeTables_21 : decode b_SS_writeTables 21 = .ok (.iconst 1, 1) := by decide +kernel
theorem d_SS_writeTables_22 : decode b_SS_writeTables 22 = .ok (.aload_n 0, 1) := by decide +kernel
theorem d_SS_writeTables_23 : decode b_SS_writeTables 23 = .ok (.getfield 19, 3) := by decide +kernel
theorem d_SS_writeTables_26 : decode b_SS_writeTables 26 = .ok (.invokevirtual 105, 3) := by decide +kernel
theorem d_SS_writeTables_29 : decode b_SS_writeTables 29 = .ok (.iadd, 1) := by decide +kernel
theorem d_SS_writeTables_30 : decode b_SS_writeTables 30 = .ok (.invokevirtual 229, 3) := by decide +kernel
theorem d_SS_writeTables_33 : decode b_SS_writeTables 33 = .ok (.ifCond .eq 5, 3) := by decide +kernel
theorem d_SS_writeTables_38 : decode b_SS_writeTables 38 = .ok (.aload_n 0, 1) := by decide +kernel
theorem d_SS_writeTables_39 : decode b_SS_writeTables 39 = .ok (.iconst 0, 1) := by decide +kernel
theorem d_SS_writeTables_40 : decode b_SS_writeTables 40 = .ok (.sipush 184, 3) := by decide +kernel
theorem d_SS_writeTables_43 : decode b_SS_writeTables 43 = .ok (.invokevirtual 232, 3) := by decide +kernel
theorem d_SS_writeTables_46 : decode b_SS_writeTables 46 = .ok (.aload_n 0, 1) := by decide +kernel
theorem d_SS_writeTables_47 : decode b_SS_writeTables 47 = .ok (.getfield 19, 3) := by decide +kernel
theorem d_SS_writeTables_50 : decode b_SS_writeTables 50 = .ok (.iload_n 1, 1) := by decide +kernel
theorem d_SS_writeTables_51 : decode b_SS_writeTables 51 = .ok (.invokevirtual 236, 3) := by decide +kernel
theorem d_SS_writeTables_54 : decode b_SS_writeTables 54 = .ok (.iconst 0, 1) := by decide +kernel
theorem d_SS_writeTables_55 : decode b_SS_writeTables 55 = .ok (.istore_n 2, 1) := by decide +kernel
theorem d_SS_writeTables_56 : decode b_SS_writeTables 56 = .ok (.iload_n 2, 1) := by decide +kernel
theorem d_SS_writeTables_57 : decode b_SS_writeTables 57 = .ok (.aload_n 0, 1) := by decide +kernel
theorem d_SS_writeTables_58 : decode b_SS_writeTables 58 = .ok (.getfield 19, 3) := by decide +kernel
theorem d_SS_writeTables_61 : decode b_SS_writeTables 61 = .ok (.invokevirtual 105, 3) := by decide +kernel
theorem d_SS_writeTables_64 : decode b_SS_writeTables 64 = .ok (.if_icmp .ge 37, 3) := by decide +kernel
theorem d_SS_writeTables_101 : decode b_SS_writeTables 101 = .ok (.aload_n 0, 1) := by decide +kernel
theorem d_SS_writeTables_102 : decode b_SS_writeTables 102 = .ok (.getfield 12, 3) := by decide +kernel
theorem d_SS_writeTables_105 : decode b_SS_writeTables 105 = .ok (.getfield 30, 3) := by decide +kernel
theorem d_SS_writeTables_108 : decode b_SS_writeTables 108 = .ok (.getfield 34, 3) := by decide +kernel
theorem d_SS_writeTables_111 : decode b_SS_writeTables 111 = .ok (.ireturn, 1) := by decide +kernel
theorem d_Writer_putList_0 : decode b_Writer_putList 0 = .ok (.aload_n 0, 1) := by decide +kernel
theorem d_Writer_putList_1 : decode b_Writer_putList 1 = .ok (.iconst 0, 1) := by decide +kernel
theorem d_Writer_putList_2 : decode b_Writer_putList 2 = .ok (.ldc 79, 2) := by decide +kernel
theorem d_Writer_putList_4 : decode b_Writer_putList 4 = .ok (.iload_n 2, 1) := by decide +kernel
theorem d_Writer_putList_5 : decode b_Writer_putList 5 = .ok (.invokevirtual 80, 3) := by decide +kernel
theorem d_Writer_putList_8 : decode b_Writer_putList 8 = .ok (.iconst 0, 1) := by decide +kernel
theorem d_Writer_putList_9 : decode b_Writer_putList 9 = .ok (.istore_n 3, 1) := by decide +kernel
theorem d_Writer_putList_10 : decode b_Writer_putList 10 = .ok (.iload_n 3, 1) := by decide +kernel
theorem d_Writer_putList_11 : decode b_Writer_putList 11 = .ok (.aload_n 1, 1) := by decide +kernel
theorem d_Writer_putList_12 : decode b_Writer_putList 12 = .ok (.invokevirtual 84, 3) := by decide +kernel
theorem d_Writer_putList_15 : decode b_Writer_putList 15 = .ok (.if_icmp .ge 41, 3) := by decide +kernel
theorem d_Writer_putList_56 : decode b_Writer_putList 56 = .ok (.aload_n 0, 1) := by decide +kernel
theorem d_Writer_putList_57 : decode b_Writer_putList 57 = .ok (.invokevirtual 102, 3) := by decide +kernel
theorem d_Writer_putList_60 : decode b_Writer_putList 60 = .ok (.return_, 1) := by decide +kernel
set_option maxHeartbeats 4000000 in
set_option maxRecDepth 100000 in
theorem c_Writer_putList0 (l : Launch) (D : va_G) (sz : Nat) (cB : ClassId) (w tp a : Nat) (q0 : WQ) (ss : Int32) (la : Nat) (nx se pi : Option Nat) (ct tw : Int32) (ck : Int64) (pid w0 : Nat) (T0 : List Int32) (dd b0 : Nat) (mo ve : Int32) (hq0 : WS pid w0 184 T0 [] q0) (hT : T0.length + 188 ≤ 9400) (hpid : pid < 8192) (hw0 : w0 < 2 ^ 29) : Met l y_Writer_putList [Cond.code y_Writer_putList b_Writer_putList 4 none] ({ frames := 5, cells := 0, slots := 0, locals := 112 }) (zM [.ref w, .ref dd, .int ve] D [(w, .inr (10, [.ref tp, .ref la, .int q0.2.2.1, .int q0.2.2.2.1, .int q0.2.2.2.2.1, .int ss])), (la, .inr (1, [.int (nI pid), va_rf nx, .int ct, .int tw, .long ck, .int q0.2.2.2.2.2, va_rf se, va_rf pi])), (tp, .inr (0, [.ref a, .int q0.2.1])), (a, .inl (cB, 9400, .inl q0.1)), (dd, .inr (12, [.ref b0, .int 0, .int mo]))] [(cB, .byte)] sz) (va_Qv (fun (u : WQ) => WS pid w0 184 T0 (esL ((((((([] : List Int32) ++ bsL 0 1) ++ bsL (0 : Int32).toInt64 1) ++ bsL (45056 : Int32).toInt64 2) ++ bsL (65535 : Int32).toInt64 2) ++ bsL (193 ||| (ve <<< ((1 : Int32) &&& 31))).toInt64 1) ++ bsL 0 2)) u) (fun (u : WQ) t => zW D (va_A [(w, .inr (10, [.ref tp, .ref la, .int q0.2.2.1, .int q0.2.2.2.1, .int q0.2.2.2.2.1, .int ss])), (la, .inr (1, [.int (nI pid), va_rf nx, .int ct, .int tw, .long ck, .int q0.2.2.2.2.2, va_rf se, va_rf pi])), (tp, .inr (0, [.ref a, .int q0.2.1])), (a, .inl (cB, 9400, .inl q0.1)), (dd, .inr (12, [.ref b0, .int 0, .int mo]))] sz) [(w, .inr (10, [.ref tp, .ref la, .int u.2.2.1, .int u.2.2.2.1, .int u.2.2.2.2.1, .int (nI (T0.length + 5))])), (la, .inr (1, [.int (nI pid), va_rf nx, .int ct, .int tw, .long ck, .int u.2.2.2.2.2, va_rf se, va_rf pi])), (tp, .inr (0, [.ref a, .int u.2.1])), (a, .inl (cB, 9400, .inl u.1)), (dd, .inr (12, [.ref b0, .int 0, .int mo]))] [(cB, .byte)] t) (va_A [(w, .inr (10, [.ref tp, .ref la, .int q0.2.2.1, .int q0.2.2.2.1, .int q0.2.2.2.2.1, .int ss])), (la, .inr (1, [.int (nI pid), va_rf nx, .int ct, .int tw, .long ck, .int q0.2.2.2.2.2, va_rf se, va_rf pi])), (tp, .inr (0, [.ref a, .int q0.2.1])), (a, .inl (cB, 9400, .inl q0.1)), (dd, .inr (12, [.ref b0, .int 0, .int mo]))] sz)) 0 0 (va_A [(w, .inr (10, [.ref tp, .ref la, .int q0.2.2.1, .int q0.2.2.2.1, .int q0.2.2.2.2.1, .int ss])), (la, .inr (1, [.int (nI pid), va_rf nx, .int ct, .int tw, .long ck, .int q0.2.2.2.2.2, va_rf se, va_rf pi])), (tp, .inr (0, [.ref a, .int q0.2.1])), (a, .inl (cB, 9400, .inl q0.1)), (dd, .inr (12, [.ref b0, .int 0, .int mo]))] sz) := by
  refine Met.ofW (cc := b_Writer_putList) (maxL := 4) (ret := none) (by decide) rfl ?_
  intro p e s m args below meth cd s₁ Bd hml hv
  obtain ⟨rfl, hsz, hP, hK, hN, hD0⟩ := hv
  have hx := Bd.exec
  have hb := Bd.bytes
  have hr := Bd.returns
  have hts := hN.use (a := ([.ref w, .ref dd, .int ve]).toArray)
  have hown : s.vm.findClass R_Writer = some m.cls := findClass_of_methodNamed Bd.named
  have hlocks := Bd.notSynchronized
  subst hsz
  have hD := hD0.self (sz := s.heap.size)
  clear hD0
  have hA : ∀ q : Nat, s.heap.size ≤ q → va_A [(w, .inr (10, [.ref tp, .ref la, .int q0.2.2.1, .int q0.2.2.2.1, .int q0.2.2.2.2.1, .int ss])), (la, .inr (1, [.int (nI pid), va_rf nx, .int ct, .int tw, .long ck, .int q0.2.2.2.2.2, va_rf se, va_rf pi])), (tp, .inr (0, [.ref a, .int q0.2.1])), (a, .inl (cB, 9400, .inl q0.1)), (dd, .inr (12, [.ref b0, .int 0, .int mo]))] s.heap.size q := fun q h => Or.inr h
  have hS : va_S (va_A [(w, .inr (10, [.ref tp, .ref la, .int q0.2.2.1, .int q0.2.2.2.1, .int q0.2.2.2.2.1, .int ss])), (la, .inr (1, [.int (nI pid), va_rf nx, .int ct, .int tw, .long ck, .int q0.2.2.2.2.2, va_rf se, va_rf pi])), (tp, .inr (0, [.ref a, .int q0.2.1])), (a, .inl (cB, 9400, .inl q0.1)), (dd, .inr (12, [.ref b0, .int 0, .int mo]))] s.heap.size) s.heap s.heap [] := va_S.rf
  generalize hAe : va_A [(w, .inr (10, [.ref tp, .ref la, .int q0.2.2.1, .int q0.2.2.2.1, .int q0.2.2.2.2.1, .int ss])), (la, .inr (1, [.int (nI pid), va_rf nx, .int ct, .int tw, .long ck, .int q0.2.2.2.2.2, va_rf se, va_rf pi])), (tp, .inr (0, [.ref a, .int q0.2.1])), (a, .inl (cB, 9400, .inl q0.1)), (dd, .inr (12, [.ref b0, .int 0, .int mo]))] s.heap.size = A at hD hA hS ⊢
  have hP : va_P D classes [(w, .inr (10, [.ref tp, .ref la, .int q0.2.2.1, .int q0.2.2.2.1, .int q0.2.2.2.2.1, .int ss])), (la, .inr (1, [.int (nI pid), va_rf nx, .int ct, .int tw, .long ck, .int q0.2.2.2.2.2, va_rf se, va_rf pi])), (tp, .inr (0, [.ref a, .int q0.2.1])), (a, .inl (cB, 9400, .inl q0.1)), (dd, .inr (12, [.ref b0, .int 0, .int mo]))] s.heap := hP
  have hl := lv_entry ([.ref w, .ref dd, .int ve]) (n := 4) (Nat.le_of_ble_eq_true rfl)
  rw [lg_entry_eq]
  generalize (lg_sl ([.ref w, .ref dd, .int ve]) ++ List.replicate (4 - (lg_sl ([.ref w, .ref dd, .int ve])).length) Slot.unset).toArray = ls at hl ⊢
  have hl : lv_has ls 4 [(0, .ref w), (1, .ref dd), (2, .int ve)] := hl
  refine lv_aload_n hx hb d_Writer_putList_0 rfl (lv_at hl 0 rfl) ?_
  refine lv_iconst (v := 0) hx hb d_Writer_putList_1 (by decide) ?_
  refine lv_ldc hx hb hown (hts _ wd_975) d_Writer_putList_2 ?_
  refine lv_iload_n hx hb d_Writer_putList_4 rfl (lv_at hl 2 rfl) ?_
  have hPc := hP.sub (ws' := [(w, .inr (10, [.ref tp, .ref la, .int q0.2.2.1, .int q0.2.2.2.1, .int q0.2.2.2.2.1, .int ss])), (la, .inr (1, [.int (nI pid), va_rf nx, .int ct, .int tw, .long ck, .int q0.2.2.2.2.2, va_rf se, va_rf pi])), (tp, .inr (0, [.ref a, .int q0.2.1])), (a, .inl (cB, 9400, .inl q0.1))]) [0, 1, 2, 3] rfl
  have hKc := hK.sub (tys' := [(cB, .byte)]) [0] rfl
  have hDc := hD.sub (ws' := [(w, .inr (10, [.ref tp, .ref la, .int q0.2.2.1, .int q0.2.2.2.1, .int q0.2.2.2.2.1, .int ss])), (la, .inr (1, [.int (nI pid), va_rf nx, .int ct, .int tw, .long ck, .int q0.2.2.2.2.2, va_rf se, va_rf pi])), (tp, .inr (0, [.ref a, .int q0.2.1])), (a, .inl (cB, 9400, .inl q0.1))]) [0, 1, 2, 3] (by decide) rfl
  have hFc := va_free (wc := [(w, .inr (10, [.ref tp, .ref la, .int q0.2.2.1, .int q0.2.2.2.1, .int q0.2.2.2.2.1, .int ss])), (la, .inr (1, [.int (nI pid), va_rf nx, .int ct, .int tw, .long ck, .int q0.2.2.2.2.2, va_rf se, va_rf pi])), (tp, .inr (0, [.ref a, .int q0.2.1])), (a, .inl (cB, 9400, .inl q0.1))]) hD hS hA [0, 1, 2, 3] rfl
  refine va_callv (va_runV (As := [.int 0, .int 65535, .int ve]) (rest := []) ⟨hx, hb, hml, hown, hts⟩ (c_Writer_beginTable l D s.heap.size cB w tp a q0 ss la nx se pi ct tw ck pid w0 184 T0 ([] : List Int32) 0 65535 ve hq0 (by omega) (by omega) hpid hw0 (by simp only [List.length_nil]; omega)) (z_cV hN wd_979 wd_85 wd_976 hd_Writer_beginTable rfl rfl ⟨Nat.le_of_ble_eq_true rfl, Nat.le_of_ble_eq_true rfl⟩ wd_978 wd_22) (z_preVm (va_recv (ci := 10) (q0 := 0) hK hP rfl rfl) hPc hKc hN hDc) rfl rfl hl.1 rfl (lv_room (Nat.le_of_ble_eq_true rfl)) d_Writer_putList_5 ⟨Nat.le_of_ble_eq_true rfl, Nat.le_of_ble_eq_true rfl⟩) hS (fun q _ h => hFc q h) hFc (fun q5 t H locs ht hvm e5 hB hz1 hk1 hS => ?_)
  obtain ⟨hP1, hK1, hD1⟩ := hB
  rw [ht] at hP1
  obtain ⟨hP, hD⟩ := va_join (wr := [(dd, .inr (12, [.ref b0, .int 0, .int mo]))]) (w1 := [(w, .inr (10, [.ref tp, .ref la, .int q5.2.2.1, .int q5.2.2.2.1, .int q5.2.2.2.2.1, .int (nI (T0 ++ ppL pid w0 184 0 (([] : List Int32) ++ bsL 0 1)).length)])), (la, .inr (1, [.int (nI pid), va_rf nx, .int ct, .int tw, .long ck, .int q5.2.2.2.2.2, va_rf se, va_rf pi])), (tp, .inr (0, [.ref a, .int q5.2.1])), (a, .inl (cB, 9400, .inl q5.1))]) hP hD [0, 1, 2, 3] [4] rfl rfl (by decide) (by decide) hk1 hFc hP1 hD1
  clear hk1 hP1 hD1 hFc hPc hDc hz1
  have hP : va_P D classes [(dd, .inr (12, [.ref b0, .int 0, .int mo])), (w, .inr (10, [.ref tp, .ref la, .int q5.2.2.1, .int q5.2.2.2.1, .int q5.2.2.2.2.1, .int (nI (T0 ++ ppL pid w0 184 0 (([] : List Int32) ++ bsL 0 1)).length)])), (la, .inr (1, [.int (nI pid), va_rf nx, .int ct, .int tw, .long ck, .int q5.2.2.2.2.2, va_rf se, va_rf pi])), (tp, .inr (0, [.ref a, .int q5.2.1])), (a, .inl (cB, 9400, .inl q5.1))] H := hP
  have hD : va_D A [(dd, .inr (12, [.ref b0, .int 0, .int mo])), (w, .inr (10, [.ref tp, .ref la, .int q5.2.2.1, .int q5.2.2.2.1, .int q5.2.2.2.2.1, .int (nI (T0 ++ ppL pid w0 184 0 (([] : List Int32) ++ bsL 0 1)).length)])), (la, .inr (1, [.int (nI pid), va_rf nx, .int ct, .int tw, .long ck, .int q5.2.2.2.2.2, va_rf se, va_rf pi])), (tp, .inr (0, [.ref a, .int q5.2.1])), (a, .inl (cB, 9400, .inl q5.1))] := hD
  refine lv_iconst (v := 0) hx hb d_Writer_putList_8 (by decide) ?_
  refine lv_istore_n (lv' := [(3, .int 0), (0, .ref w), (1, .ref dd), (2, .int ve)]) hx hb d_Writer_putList_9 rfl hl (by decide) rfl (fun ls hl => ?_)
  refine lv_iload_n hx hb d_Writer_putList_10 rfl (lv_at hl 0 rfl) ?_
  refine lv_aload_n hx hb d_Writer_putList_11 rfl (lv_at hl 2 rfl) ?_
  have hPc := hP.sub (ws' := [(dd, .inr (12, [.ref b0, .int 0, .int mo]))]) [0] rfl
  have hKc := hK.sub (tys' := []) [] rfl
  refine z_ci (va_runV (As := []) (rest := [.int 0]) ⟨hx, hb, hml, hown, hts⟩ (c_AL_size l D dd b0 0 mo ) (z_cV hN wd_305 wd_66 wd_995 hd_AL_size rfl rfl ⟨Nat.le_of_ble_eq_true rfl, Nat.le_of_ble_eq_true rfl⟩ wd_303 wd_304) (z_preV (va_recv (ci := 12) (q0 := 0) hK hP rfl rfl) hPc hKc hN) rfl rfl hl.1 rfl (lv_room (Nat.le_of_ble_eq_true rfl)) d_Writer_putList_12 ⟨Nat.le_of_ble_eq_true rfl, Nat.le_of_ble_eq_true rfl⟩) (fun r12 e12 => ?_)
  subst e12
  refine lv_icmp_ge (tgt := 56) hx hb d_Writer_putList_15 rfl (fun h15 => ?_) (fun h9 => absurd h9 (by decide))
  have hz3 : (T0 ++ ppL pid w0 184 0 (([] : List Int32) ++ bsL 0 1)).length = T0.length + 5 := by rw [tl_184 (by simp [bs_len]) (by simp [bs_len])]; simp [bs_len]
  rw [hz3] at hP hD
  refine lv_aload_n hx hb d_Writer_putList_56 rfl (lv_at hl 1 rfl) ?_
  have hPc := hP.sub (ws' := [(w, .inr (10, [.ref tp, .ref la, .int q5.2.2.1, .int q5.2.2.2.1, .int q5.2.2.2.2.1, .int (nI (T0.length + 5))])), (la, .inr (1, [.int (nI pid), va_rf nx, .int ct, .int tw, .long ck, .int q5.2.2.2.2.2, va_rf se, va_rf pi])), (tp, .inr (0, [.ref a, .int q5.2.1])), (a, .inl (cB, 9400, .inl q5.1))]) [1, 2, 3, 4] rfl
  have hKc := hK.sub (tys' := [(cB, .byte)]) [0] rfl
  have hDc := hD.sub (ws' := [(w, .inr (10, [.ref tp, .ref la, .int q5.2.2.1, .int q5.2.2.2.1, .int q5.2.2.2.2.1, .int (nI (T0.length + 5))])), (la, .inr (1, [.int (nI pid), va_rf nx, .int ct, .int tw, .long ck, .int q5.2.2.2.2.2, va_rf se, va_rf pi])), (tp, .inr (0, [.ref a, .int q5.2.1])), (a, .inl (cB, 9400, .inl q5.1))]) [1, 2, 3, 4] (by decide) rfl
  have hFc := va_free (wc := [(w, .inr (10, [.ref tp, .ref la, .int q5.2.2.1, .int q5.2.2.2.1, .int q5.2.2.2.2.1, .int (nI (T0.length + 5))])), (la, .inr (1, [.int (nI pid), va_rf nx, .int ct, .int tw, .long ck, .int q5.2.2.2.2.2, va_rf se, va_rf pi])), (tp, .inr (0, [.ref a, .int q5.2.1])), (a, .inl (cB, 9400, .inl q5.1))]) hD hS hA [1, 2, 3, 4] rfl
  refine va_callv (va_runV (As := []) (rest := []) ⟨hx, hb, hml, hown, hts⟩ (c_Writer_endSection l D H.size cB w tp a q5 la nx se pi ct tw ck pid w0 T0 ((((((([] : List Int32) ++ bsL 0 1) ++ bsL (0 : Int32).toInt64 1) ++ bsL (45056 : Int32).toInt64 2) ++ bsL (65535 : Int32).toInt64 2) ++ bsL (193 ||| (ve <<< ((1 : Int32) &&& 31))).toInt64 1) ++ bsL 0 2) e5 hT hpid hw0 (by simp only [List.length_append, bs_len, List.length_nil]; omega) (by simp only [List.length_append, bs_len, List.length_nil]; omega)) (z_cV hN wd_1006 wd_85 wd_1003 hd_Writer_endSection rfl rfl ⟨Nat.le_of_ble_eq_true rfl, Nat.le_of_ble_eq_true rfl⟩ wd_1004 wd_1005) (z_preVm (va_recv (ci := 10) (q0 := 1) hK hP rfl rfl) hPc hKc hN hDc) rfl rfl hl.1 rfl (lv_room (Nat.le_of_ble_eq_true rfl)) d_Writer_putList_57 ⟨Nat.le_of_ble_eq_true rfl, Nat.le_of_ble_eq_true rfl⟩) hS (fun q _ h => hFc q h) hFc (fun q57 t H locs ht hvm e57 hB hz1 hk1 hS => ?_)
  obtain ⟨hP1, hK1, hD1⟩ := hB
  rw [ht] at hP1
  obtain ⟨hP, hD⟩ := va_join (wr := [(dd, .inr (12, [.ref b0, .int 0, .int mo]))]) (w1 := [(w, .inr (10, [.ref tp, .ref la, .int q57.2.2.1, .int q57.2.2.2.1, .int q57.2.2.2.2.1, .int (nI (T0.length + 5))])), (la, .inr (1, [.int (nI pid), va_rf nx, .int ct, .int tw, .long ck, .int q57.2.2.2.2.2, va_rf se, va_rf pi])), (tp, .inr (0, [.ref a, .int q57.2.1])), (a, .inl (cB, 9400, .inl q57.1))]) hP hD [1, 2, 3, 4] [0] rfl rfl (by decide) (by decide) hk1 hFc hP1 hD1
  clear hk1 hP1 hD1 hFc hPc hDc hz1
  have hP : va_P D classes [(dd, .inr (12, [.ref b0, .int 0, .int mo])), (w, .inr (10, [.ref tp, .ref la, .int q57.2.2.1, .int q57.2.2.2.1, .int q57.2.2.2.2.1, .int (nI (T0.length + 5))])), (la, .inr (1, [.int (nI pid), va_rf nx, .int ct, .int tw, .long ck, .int q57.2.2.2.2.2, va_rf se, va_rf pi])), (tp, .inr (0, [.ref a, .int q57.2.1])), (a, .inl (cB, 9400, .inl q57.1))] H := hP
  have hD : va_D A [(dd, .inr (12, [.ref b0, .int 0, .int mo])), (w, .inr (10, [.ref tp, .ref la, .int q57.2.2.1, .int q57.2.2.2.1, .int q57.2.2.2.2.1, .int (nI (T0.length + 5))])), (la, .inr (1, [.int (nI pid), va_rf nx, .int ct, .int tw, .long ck, .int q57.2.2.2.2.2, va_rf se, va_rf pi])), (tp, .inr (0, [.ref a, .int q57.2.1])), (a, .inl (cB, 9400, .inl q57.1))] := hD
  have hP9 := hP.sub (ws' := [(w, .inr (10, [.ref tp, .ref la, .int q57.2.2.1, .int q57.2.2.2.1, .int q57.2.2.2.2.1, .int (nI (T0.length + 5))])), (la, .inr (1, [.int (nI pid), va_rf nx, .int ct, .int tw, .long ck, .int q57.2.2.2.2.2, va_rf se, va_rf pi])), (tp, .inr (0, [.ref a, .int q57.2.1])), (a, .inl (cB, 9400, .inl q57.1)), (dd, .inr (12, [.ref b0, .int 0, .int mo]))]) [1, 2, 3, 4, 0] rfl
  have hD9 := hD.sub (ws' := [(w, .inr (10, [.ref tp, .ref la, .int q57.2.2.1, .int q57.2.2.2.1, .int q57.2.2.2.2.1, .int (nI (T0.length + 5))])), (la, .inr (1, [.int (nI pid), va_rf nx, .int ct, .int tw, .long ck, .int q57.2.2.2.2.2, va_rf se, va_rf pi])), (tp, .inr (0, [.ref a, .int q57.2.1])), (a, .inl (cB, 9400, .inl q57.1)), (dd, .inr (12, [.ref b0, .int 0, .int mo]))]) [1, 2, 3, 4, 0] (by decide) rfl
  have hK9 := hK.sub (tys' := [(cB, .byte)]) [0] rfl
  exact W.vret hx hb hr (fun t ht hW => ⟨⟨q57, rfl, e57, ⟨by rw [ht]; exact hP9, va_K.moved hW.alike hK9, hD9⟩⟩, hS.F ht⟩) hS.2.2 d_Writer_putList_60
set_option maxHeartbeats 4000000 in
set_option maxRecDepth 100000 in
theorem c_SS_writeTables_new (l : Launch) (D : va_G) (hfl : l.stackTraces = false) (B0 : State) (hG : zG B0) (sz : Nat) (cB : ClassId) (h rv d tp tb ct dp : Nat) (a : Nat) (cN : ClassId) (ln hd : Nat) (hf : Nat → Option Nat) (T : List Int32) (f : Nat → Int32) (b0 : Nat) (mo ve : Int32) (hrc : rc f T) (hv1 : ¬ ve < 0) (hv2 : ¬ 31 < ve) (hno : hf (0 % 256) = none) (hT : T.length + 188 ≤ 9400) : MetT l y_SS_writeTables [Cond.code y_SS_writeTables b_SS_writeTables 4 (some .int)] ({ frames := 6, cells := 2, slots := 14, locals := 135 }) (zMo [.ref h, .int ve] D [(h, .inr (11, [.ref rv, .ref d])), (rv, .inr (4, [.ref tp, .ref ln, .ref tb, .ref ct, .ref dp])), (ln, .inr (2, [.ref hd])), (hd, .inl (cN, 256, .inr (.inr (.inr (.inr hf))))), (tp, .inr (0, [.ref a, .int (nI T.length)])), (a, .inl (cB, 9400, .inl f)), (d, .inr (12, [.ref b0, .int 0, .int mo]))] [(cB, .byte), (cN, .object "StreamSplitter$Lane")] sz B0) (zQi (fun r0 (u : Nat × (Nat → Int32)) => r0 = nI (T ++ ppL 0 0 184 0 (esL ((((((([] : List Int32) ++ bsL 0 1) ++ bsL (0 : Int32).toInt64 1) ++ bsL (45056 : Int32).toInt64 2) ++ bsL (65535 : Int32).toInt64 2) ++ bsL (193 ||| (ve <<< ((1 : Int32) &&& 31))).toInt64 1) ++ bsL 0 2))).length ∧ rc u.2 (T ++ ppL 0 0 184 0 (esL ((((((([] : List Int32) ++ bsL 0 1) ++ bsL (0 : Int32).toInt64 1) ++ bsL (45056 : Int32).toInt64 2) ++ bsL (65535 : Int32).toInt64 2) ++ bsL (193 ||| (ve <<< ((1 : Int32) &&& 31))).toInt64 1) ++ bsL 0 2)))) (fun (u : Nat × (Nat → Int32)) t => zW D (va_A [(h, .inr (11, [.ref rv, .ref d])), (rv, .inr (4, [.ref tp, .ref ln, .ref tb, .ref ct, .ref dp])), (ln, .inr (2, [.ref hd])), (hd, .inl (cN, 256, .inr (.inr (.inr (.inr hf))))), (tp, .inr (0, [.ref a, .int (nI T.length)])), (a, .inl (cB, 9400, .inl f)), (d, .inr (12, [.ref b0, .int 0, .int mo]))] sz) [(h, .inr (11, [.ref rv, .ref d])), (rv, .inr (4, [.ref tp, .ref ln, .ref tb, .ref ct, .ref dp])), (ln, .inr (2, [.ref hd])), (hd, .inl (cN, 256, .inr (.inr (.inr (.inr (va_up hf (0 % 256) (some u.1))))))), (tp, .inr (0, [.ref a, .int (nI (T ++ ppL 0 0 184 0 (esL ((((((([] : List Int32) ++ bsL 0 1) ++ bsL (0 : Int32).toInt64 1) ++ bsL (45056 : Int32).toInt64 2) ++ bsL (65535 : Int32).toInt64 2) ++ bsL (193 ||| (ve <<< ((1 : Int32) &&& 31))).toInt64 1) ++ bsL 0 2))).length)])), (a, .inl (cB, 9400, .inl u.2)), (u.1, .inr (1, [.int (nI 0), .null, .int (-1), .int 0, .long (-1), .int (nI (0 + (184 + 183) / 184)), .null, .null])), (d, .inr (12, [.ref b0, .int 0, .int mo]))] [(cB, .byte), (cN, .object "StreamSplitter$Lane")] t) (va_A [(h, .inr (11, [.ref rv, .ref d])), (rv, .inr (4, [.ref tp, .ref ln, .ref tb, .ref ct, .ref dp])), (ln, .inr (2, [.ref hd])), (hd, .inl (cN, 256, .inr (.inr (.inr (.inr hf))))), (tp, .inr (0, [.ref a, .int (nI T.length)])), (a, .inl (cB, 9400, .inl f)), (d, .inr (12, [.ref b0, .int 0, .int mo]))] sz) (fun _ => False)) 2 14 (va_A [(h, .inr (11, [.ref rv, .ref d])), (rv, .inr (4, [.ref tp, .ref ln, .ref tb, .ref ct, .ref dp])), (ln, .inr (2, [.ref hd])), (hd, .inl (cN, 256, .inr (.inr (.inr (.inr hf))))), (tp, .inr (0, [.ref a, .int (nI T.length)])), (a, .inl (cB, 9400, .inl f)), (d, .inr (12, [.ref b0, .int 0, .int mo]))] sz) := by
  refine MetT.ofW (cc := b_SS_writeTables) (maxL := 4) (ret := (some .int)) (by decide) rfl ?_
  intro p e s m args below meth cd s₁ Bd hml hem hv
  obtain ⟨rfl, hsz, hP, hK, hN, hD0, hO⟩ := hv
  have hx := Bd.exec
  have hb := Bd.bytes
  have hr := Bd.returns
  have hts := hN.use (a := ([.ref h, .int ve]).toArray)
  have hown : s.vm.findClass R_SS = some m.cls := findClass_of_methodNamed Bd.named
  have hlocks := Bd.notSynchronized
  subst hsz
  have hD := hD0.self (sz := s.heap.size)
  have hAO := z_AO hD0 hO
  clear hD0
  have hA : ∀ q : Nat, s.heap.size ≤ q → va_A [(h, .inr (11, [.ref rv, .ref d])), (rv, .inr (4, [.ref tp, .ref ln, .ref tb, .ref ct, .ref dp])), (ln, .inr (2, [.ref hd])), (hd, .inl (cN, 256, .inr (.inr (.inr (.inr hf))))), (tp, .inr (0, [.ref a, .int (nI T.length)])), (a, .inl (cB, 9400, .inl f)), (d, .inr (12, [.ref b0, .int 0, .int mo]))] s.heap.size q := fun q h => Or.inr h
  have hS : va_S (va_A [(h, .inr (11, [.ref rv, .ref d])), (rv, .inr (4, [.ref tp, .ref ln, .ref tb, .ref ct, .ref dp])), (ln, .inr (2, [.ref hd])), (hd, .inl (cN, 256, .inr (.inr (.inr (.inr hf))))), (tp, .inr (0, [.ref a, .int (nI T.length)])), (a, .inl (cB, 9400, .inl f)), (d, .inr (12, [.ref b0, .int 0, .int mo]))] s.heap.size) s.heap s.heap [] := va_S.rf
  generalize hAe : va_A [(h, .inr (11, [.ref rv, .ref d])), (rv, .inr (4, [.ref tp, .ref ln, .ref tb, .ref ct, .ref dp])), (ln, .inr (2, [.ref hd])), (hd, .inl (cN, 256, .inr (.inr (.inr (.inr hf))))), (tp, .inr (0, [.ref a, .int (nI T.length)])), (a, .inl (cB, 9400, .inl f)), (d, .inr (12, [.ref b0, .int 0, .int mo]))] s.heap.size = A at hD hA hS hAO ⊢
  have hP : va_P D classes [(h, .inr (11, [.ref rv, .ref d])), (rv, .inr (4, [.ref tp, .ref ln, .ref tb, .ref ct, .ref dp])), (ln, .inr (2, [.ref hd])), (hd, .inl (cN, 256, .inr (.inr (.inr (.inr hf))))), (tp, .inr (0, [.ref a, .int (nI T.length)])), (a, .inl (cB, 9400, .inl f)), (d, .inr (12, [.ref b0, .int 0, .int mo]))] s.heap := hP
  have hl := lv_entry ([.ref h, .int ve]) (n := 4) (Nat.le_of_ble_eq_true rfl)
  rw [lg_entry_eq]
  generalize (lg_sl ([.ref h, .int ve]) ++ List.replicate (4 - (lg_sl ([.ref h, .int ve])).length) Slot.unset).toArray = ls at hl ⊢
  have hl : lv_has ls 4 [(0, .ref h), (1, .int ve)] := hl
  refine lv_iload_n hx hb d_SS_writeTables_0 rfl (lv_at hl 1 rfl) ?_
  refine lv_if_lt (tgt := 10) hx hb d_SS_writeTables_1 rfl (fun h9 => absurd h9 hv1) (fun h1 => ?_)
  refine lv_iload_n hx hb d_SS_writeTables_4 rfl (lv_at hl 1 rfl) ?_
  refine lv_bipush (v := 31) hx hb d_SS_writeTables_5 (by decide) ?_
  refine lv_icmp_le (tgt := 20) hx hb d_SS_writeTables_7 rfl (fun h7 => ?_) (fun h9 => absurd (Int32.not_le.mp h9) hv2)
  refine lv_aload_n hx hb d_SS_writeTables_20 rfl (lv_at hl 0 rfl) ?_
  refine lv_iconst (v := 1) hx hb d_SS_writeTables_21 (by decide) ?_
  refine lv_aload_n hx hb d_SS_writeTables_22 rfl (lv_at hl 0 rfl) ?_
  refine va_get (D := D) (ci := 11) (v := .ref d) (C := R_SS) (T := F_SS) (N := 2) hx hb hts i_SS hown hK hP 0 rfl rfl 1 (by decide) (hts _ wd_199) (fun _ h9 => h9) rfl d_SS_writeTables_23 ?_
  have hPc := hP.sub (ws' := [(d, .inr (12, [.ref b0, .int 0, .int mo]))]) [6] rfl
  have hKc := hK.sub (tys' := []) [] rfl
  refine z_ci (va_runV (As := []) (rest := [.int 1, .ref h]) ⟨hx, hb, hml, hown, hts⟩ (c_AL_size l D d b0 0 mo ) (z_cV hN wd_305 wd_66 wd_820 hd_AL_size rfl rfl ⟨Nat.le_of_ble_eq_true rfl, Nat.le_of_ble_eq_true rfl⟩ wd_303 wd_304) (z_preV (va_recv (ci := 12) (q0 := 6) hK hP rfl rfl) hPc hKc hN) rfl rfl hl.1 rfl (lv_room (Nat.le_of_ble_eq_true rfl)) d_SS_writeTables_26 ⟨Nat.le_of_ble_eq_true rfl, Nat.le_of_ble_eq_true rfl⟩) (fun r26 e26 => ?_)
  subst e26
  refine lv_iadd hx hb d_SS_writeTables_29 ?_
  refine z_topi (w := nI 1) (by decide) ?_
  have hPc := hP.sub (ws' := [(h, .inr (11, [.ref rv, .ref d])), (rv, .inr (4, [.ref tp, .ref ln, .ref tb, .ref ct, .ref dp])), (tp, .inr (0, [.ref a, .int (nI T.length)])), (a, .inl (cB, 9400, .inl f))]) [0, 1, 4, 5] rfl
  have hKc := hK.sub (tys' := [(cB, .byte)]) [0] rfl
  refine z_ci (va_runV (As := [.int (nI 1)]) (rest := []) ⟨hx, hb, hml, hown, hts⟩ (c_SS_hasNoRoom l D cB h d rv ln tb ct dp tp a T.length f 1 (by omega) (by omega)) (z_cV hN wd_940 wd_59 wd_937 hd_SS_hasNoRoom rfl rfl ⟨Nat.le_of_ble_eq_true rfl, Nat.le_of_ble_eq_true rfl⟩ wd_939 wd_20) (z_preV (va_recv (ci := 11) (q0 := 0) hK hP rfl rfl) hPc hKc hN) rfl rfl hl.1 rfl (lv_room (Nat.le_of_ble_eq_true rfl)) d_SS_writeTables_30 ⟨Nat.le_of_ble_eq_true rfl, Nat.le_of_ble_eq_true rfl⟩) (fun r30 e30 => ?_)
  subst e30
  refine lv_if_eq (tgt := 38) hx hb d_SS_writeTables_33 rfl (fun h33 => ?_) (fun h9 => absurd (rm_0c (by omega)) h9)
  refine lv_aload_n hx hb d_SS_writeTables_38 rfl (lv_at hl 0 rfl) ?_
  refine lv_iconst (v := 0) hx hb d_SS_writeTables_39 (by decide) ?_
  refine lv_sipush (v := 184) hx hb d_SS_writeTables_40 (by decide) ?_
  have hPc := hP.sub (ws' := [(h, .inr (11, [.ref rv, .ref d])), (rv, .inr (4, [.ref tp, .ref ln, .ref tb, .ref ct, .ref dp])), (ln, .inr (2, [.ref hd])), (hd, .inl (cN, 256, .inr (.inr (.inr (.inr hf)))))]) [0, 1, 2, 3] rfl
  have hKc := hK.sub (tys' := [(cN, .object "StreamSplitter$Lane")]) [1] rfl
  have hDc := hD.sub (ws' := [(h, .inr (11, [.ref rv, .ref d])), (rv, .inr (4, [.ref tp, .ref ln, .ref tb, .ref ct, .ref dp])), (ln, .inr (2, [.ref hd])), (hd, .inl (cN, 256, .inr (.inr (.inr (.inr hf)))))]) [0, 1, 2, 3] (by decide) rfl
  have hFc := va_free (wc := [(h, .inr (11, [.ref rv, .ref d])), (rv, .inr (4, [.ref tp, .ref ln, .ref tb, .ref ct, .ref dp])), (ln, .inr (2, [.ref hd])), (hd, .inl (cN, 256, .inr (.inr (.inr (.inr hf)))))]) hD hS hA [0, 1, 2, 3] rfl
  refine va_callr (va_runV (As := [.int (nI 0), .int (nI 184)]) (rest := []) ⟨hx, hb, hml, hown, hts⟩ (c_SS_writerTo0 l D s.heap.size h rv d tp tb ct dp cN ln hd hf 0 (nI 184) (by omega) hno) (z_cV hN wd_944 wd_59 wd_941 hd_SS_writerTo rfl rfl ⟨Nat.le_of_ble_eq_true rfl, Nat.le_of_ble_eq_true rfl⟩ wd_943 wd_21) (z_preVm (va_recv (ci := 11) (q0 := 0) hK hP rfl rfl) hPc hKc hN hDc) rfl rfl hl.1 rfl (lv_room (Nat.le_of_ble_eq_true rfl)) d_SS_writeTables_43 ⟨Nat.le_of_ble_eq_true rfl, Nat.le_of_ble_eq_true rfl⟩) hS (fun q _ h => hFc q h) hFc (fun la w t H locs ht hvm e43 hB hz1 hk1 hS => ?_)
  obtain ⟨hP1, hK1, hD1⟩ := hB
  rw [ht] at hP1
  obtain ⟨hP, hD⟩ := va_join (wr := [(tp, .inr (0, [.ref a, .int (nI T.length)])), (a, .inl (cB, 9400, .inl f)), (d, .inr (12, [.ref b0, .int 0, .int mo]))]) (w1 := [(h, .inr (11, [.ref rv, .ref d])), (rv, .inr (4, [.ref tp, .ref ln, .ref tb, .ref ct, .ref dp])), (ln, .inr (2, [.ref hd])), (hd, .inl (cN, 256, .inr (.inr (.inr (.inr (va_up hf (0 % 256) (some la))))))), (la, .inr (1, [.int (nI 0), .null, .int (-1), .int 0, .long (-1), .int 0, .null, .null])), (w, .inr (10, [.ref tp, .ref la, .int (nI 184), .int 0, .int 0, .int 0]))]) hP hD [0, 1, 2, 3] [4, 5, 6] rfl rfl (by decide) (by decide) hk1 hFc hP1 hD1
  clear hk1 hP1 hD1 hFc hPc hDc hz1
  have hP : va_P D classes [(tp, .inr (0, [.ref a, .int (nI T.length)])), (a, .inl (cB, 9400, .inl f)), (d, .inr (12, [.ref b0, .int 0, .int mo])), (h, .inr (11, [.ref rv, .ref d])), (rv, .inr (4, [.ref tp, .ref ln, .ref tb, .ref ct, .ref dp])), (ln, .inr (2, [.ref hd])), (hd, .inl (cN, 256, .inr (.inr (.inr (.inr (va_up hf (0 % 256) (some la))))))), (la, .inr (1, [.int (nI 0), .null, .int (-1), .int 0, .long (-1), .int 0, .null, .null])), (w, .inr (10, [.ref tp, .ref la, .int (nI 184), .int 0, .int 0, .int 0]))] H := hP
  have hD : va_D A [(tp, .inr (0, [.ref a, .int (nI T.length)])), (a, .inl (cB, 9400, .inl f)), (d, .inr (12, [.ref b0, .int 0, .int mo])), (h, .inr (11, [.ref rv, .ref d])), (rv, .inr (4, [.ref tp, .ref ln, .ref tb, .ref ct, .ref dp])), (ln, .inr (2, [.ref hd])), (hd, .inl (cN, 256, .inr (.inr (.inr (.inr (va_up hf (0 % 256) (some la))))))), (la, .inr (1, [.int (nI 0), .null, .int (-1), .int 0, .long (-1), .int 0, .null, .null])), (w, .inr (10, [.ref tp, .ref la, .int (nI 184), .int 0, .int 0, .int 0]))] := hD
  obtain ⟨q, hqe⟩ : ∃ q : WQ, q = (f, nI T.length, nI 184, 0, 0, nI 0) := ⟨_, rfl⟩
  have hws : WS 0 0 184 T [] q := by rw [hqe]; exact ws_new hrc
  have hP : va_P D classes [(tp, .inr (0, [.ref a, .int q.2.1])), (a, .inl (cB, 9400, .inl q.1)), (d, .inr (12, [.ref b0, .int 0, .int mo])), (h, .inr (11, [.ref rv, .ref d])), (rv, .inr (4, [.ref tp, .ref ln, .ref tb, .ref ct, .ref dp])), (ln, .inr (2, [.ref hd])), (hd, .inl (cN, 256, .inr (.inr (.inr (.inr (va_up hf (0 % 256) (some la))))))), (la, .inr (1, [.int (nI 0), .null, .int (-1), .int 0, .long (-1), .int q.2.2.2.2.2, .null, .null])), (w, .inr (10, [.ref tp, .ref la, .int q.2.2.1, .int q.2.2.2.1, .int q.2.2.2.2.1, .int 0]))] H := by rw [hqe]; exact hP
  have hD : va_D A [(tp, .inr (0, [.ref a, .int q.2.1])), (a, .inl (cB, 9400, .inl q.1)), (d, .inr (12, [.ref b0, .int 0, .int mo])), (h, .inr (11, [.ref rv, .ref d])), (rv, .inr (4, [.ref tp, .ref ln, .ref tb, .ref ct, .ref dp])), (ln, .inr (2, [.ref hd])), (hd, .inl (cN, 256, .inr (.inr (.inr (.inr (va_up hf (0 % 256) (some la))))))), (la, .inr (1, [.int (nI 0), .null, .int (-1), .int 0, .long (-1), .int q.2.2.2.2.2, .null, .null])), (w, .inr (10, [.ref tp, .ref la, .int q.2.2.1, .int q.2.2.2.1, .int q.2.2.2.2.1, .int 0]))] := by rw [hqe]; exact hD
  clear hqe
  refine lv_aload_n hx hb d_SS_writeTables_46 rfl (lv_at hl 0 rfl) ?_
  refine va_get (D := D) (ci := 11) (v := .ref d) (C := R_SS) (T := F_SS) (N := 2) hx hb hts i_SS hown hK hP 3 rfl rfl 1 (by decide) (hts _ wd_199) (fun _ h9 => h9) rfl d_SS_writeTables_47 ?_
  refine lv_iload_n hx hb d_SS_writeTables_50 rfl (lv_at hl 1 rfl) ?_
  have hPc := hP.sub (ws' := [(w, .inr (10, [.ref tp, .ref la, .int q.2.2.1, .int q.2.2.2.1, .int q.2.2.2.2.1, .int 0])), (la, .inr (1, [.int (nI 0), va_rf none, .int (-1), .int 0, .long (-1), .int q.2.2.2.2.2, va_rf none, va_rf none])), (tp, .inr (0, [.ref a, .int q.2.1])), (a, .inl (cB, 9400, .inl q.1)), (d, .inr (12, [.ref b0, .int 0, .int mo]))]) [8, 7, 0, 1, 2] rfl
  have hKc := hK.sub (tys' := [(cB, .byte)]) [0] rfl
  have hDc := hD.sub (ws' := [(w, .inr (10, [.ref tp, .ref la, .int q.2.2.1, .int q.2.2.2.1, .int q.2.2.2.2.1, .int 0])), (la, .inr (1, [.int (nI 0), va_rf none, .int (-1), .int 0, .long (-1), .int q.2.2.2.2.2, va_rf none, va_rf none])), (tp, .inr (0, [.ref a, .int q.2.1])), (a, .inl (cB, 9400, .inl q.1)), (d, .inr (12, [.ref b0, .int 0, .int mo]))]) [8, 7, 0, 1, 2] (by decide) rfl
  have hFc := va_free (wc := [(w, .inr (10, [.ref tp, .ref la, .int q.2.2.1, .int q.2.2.2.1, .int q.2.2.2.2.1, .int 0])), (la, .inr (1, [.int (nI 0), va_rf none, .int (-1), .int 0, .long (-1), .int q.2.2.2.2.2, va_rf none, va_rf none])), (tp, .inr (0, [.ref a, .int q.2.1])), (a, .inl (cB, 9400, .inl q.1)), (d, .inr (12, [.ref b0, .int 0, .int mo]))]) hD hS hA [8, 7, 0, 1, 2] rfl
  refine va_callv (va_runV (As := [.ref d, .int ve]) (rest := []) ⟨hx, hb, hml, hown, hts⟩ (c_Writer_putList0 l D H.size cB w tp a q 0 la none none none (-1) 0 (-1) 0 0 T d b0 mo ve hws hT (by omega) (by omega)) (z_cV hN wd_974 wd_85 wd_971 hd_Writer_putList rfl rfl ⟨Nat.le_of_ble_eq_true rfl, Nat.le_of_ble_eq_true rfl⟩ wd_972 wd_973) (z_preVm (va_recv (ci := 10) (q0 := 8) hK hP rfl rfl) hPc hKc hN hDc) rfl rfl hl.1 rfl (lv_room (Nat.le_of_ble_eq_true rfl)) d_SS_writeTables_51 ⟨Nat.le_of_ble_eq_true rfl, Nat.le_of_ble_eq_true rfl⟩) hS (fun q _ h => hFc q h) hFc (fun q51 t H locs ht hvm e51 hB hz1 hk1 hS => ?_)
  obtain ⟨hP1, hK1, hD1⟩ := hB
  rw [ht] at hP1
  obtain ⟨hP, hD⟩ := va_join (wr := [(h, .inr (11, [.ref rv, .ref d])), (rv, .inr (4, [.ref tp, .ref ln, .ref tb, .ref ct, .ref dp])), (ln, .inr (2, [.ref hd])), (hd, .inl (cN, 256, .inr (.inr (.inr (.inr (va_up hf (0 % 256) (some la)))))))]) (w1 := [(w, .inr (10, [.ref tp, .ref la, .int q51.2.2.1, .int q51.2.2.2.1, .int q51.2.2.2.2.1, .int (nI (T.length + 5))])), (la, .inr (1, [.int (nI 0), va_rf none, .int (-1), .int 0, .long (-1), .int q51.2.2.2.2.2, va_rf none, va_rf none])), (tp, .inr (0, [.ref a, .int q51.2.1])), (a, .inl (cB, 9400, .inl q51.1)), (d, .inr (12, [.ref b0, .int 0, .int mo]))]) hP hD [8, 7, 0, 1, 2] [3, 4, 5, 6] rfl rfl (by decide) (by decide) hk1 hFc hP1 hD1
  clear hk1 hP1 hD1 hFc hPc hDc hz1
  have hP : va_P D classes [(h, .inr (11, [.ref rv, .ref d])), (rv, .inr (4, [.ref tp, .ref ln, .ref tb, .ref ct, .ref dp])), (ln, .inr (2, [.ref hd])), (hd, .inl (cN, 256, .inr (.inr (.inr (.inr (va_up hf (0 % 256) (some la))))))), (w, .inr (10, [.ref tp, .ref la, .int q51.2.2.1, .int q51.2.2.2.1, .int q51.2.2.2.2.1, .int (nI (T.length + 5))])), (la, .inr (1, [.int (nI 0), va_rf none, .int (-1), .int 0, .long (-1), .int q51.2.2.2.2.2, va_rf none, va_rf none])), (tp, .inr (0, [.ref a, .int q51.2.1])), (a, .inl (cB, 9400, .inl q51.1)), (d, .inr (12, [.ref b0, .int 0, .int mo]))] H := hP
  have hD : va_D A [(h, .inr (11, [.ref rv, .ref d])), (rv, .inr (4, [.ref tp, .ref ln, .ref tb, .ref ct, .ref dp])), (ln, .inr (2, [.ref hd])), (hd, .inl (cN, 256, .inr (.inr (.inr (.inr (va_up hf (0 % 256) (some la))))))), (w, .inr (10, [.ref tp, .ref la, .int q51.2.2.1, .int q51.2.2.2.1, .int q51.2.2.2.2.1, .int (nI (T.length + 5))])), (la, .inr (1, [.int (nI 0), va_rf none, .int (-1), .int 0, .long (-1), .int q51.2.2.2.2.2, va_rf none, va_rf none])), (tp, .inr (0, [.ref a, .int q51.2.1])), (a, .inl (cB, 9400, .inl q51.1)), (d, .inr (12, [.ref b0, .int 0, .int mo]))] := hD
  refine lv_iconst (v := 0) hx hb d_SS_writeTables_54 (by decide) ?_
  refine lv_istore_n (lv' := [(2, .int 0), (0, .ref h), (1, .int ve)]) hx hb d_SS_writeTables_55 rfl hl (by decide) rfl (fun ls hl => ?_)
  refine lv_iload_n hx hb d_SS_writeTables_56 rfl (lv_at hl 0 rfl) ?_
  refine lv_aload_n hx hb d_SS_writeTables_57 rfl (lv_at hl 1 rfl) ?_
  refine va_get (D := D) (ci := 11) (v := .ref d) (C := R_SS) (T := F_SS) (N := 2) hx hb hts i_SS hown hK hP 0 rfl rfl 1 (by decide) (hts _ wd_199) (fun _ h9 => h9) rfl d_SS_writeTables_58 ?_
  have hPc := hP.sub (ws' := [(d, .inr (12, [.ref b0, .int 0, .int mo]))]) [8] rfl
  have hKc := hK.sub (tys' := []) [] rfl
  refine z_ci (va_runV (As := []) (rest := [.int 0]) ⟨hx, hb, hml, hown, hts⟩ (c_AL_size l D d b0 0 mo ) (z_cV hN wd_305 wd_66 wd_820 hd_AL_size rfl rfl ⟨Nat.le_of_ble_eq_true rfl, Nat.le_of_ble_eq_true rfl⟩ wd_303 wd_304) (z_preV (va_recv (ci := 12) (q0 := 8) hK hP rfl rfl) hPc hKc hN) rfl rfl hl.1 rfl (lv_room (Nat.le_of_ble_eq_true rfl)) d_SS_writeTables_61 ⟨Nat.le_of_ble_eq_true rfl, Nat.le_of_ble_eq_true rfl⟩) (fun r61 e61 => ?_)
  subst e61
  refine lv_icmp_ge (tgt := 101) hx hb d_SS_writeTables_64 rfl (fun h64 => ?_) (fun h9 => absurd h9 (by decide))
  have hz1 : q51.2.1 = nI (T ++ ppL 0 0 184 0 (esL ((((((([] : List Int32) ++ bsL 0 1) ++ bsL (0 : Int32).toInt64 1) ++ bsL (45056 : Int32).toInt64 2) ++ bsL (65535 : Int32).toInt64 2) ++ bsL (193 ||| (ve <<< ((1 : Int32) &&& 31))).toInt64 1) ++ bsL 0 2))).length := e51.2.1
  have hz2 : q51.2.2.2.2.2 = nI (0 + (184 + 183) / 184) := by rw [e51.2.2.2.2.2, esL_len (by simp only [List.length_append, bs_len, List.length_nil]; omega)]
  rw [hz1, hz2] at hP hD
  refine lv_aload_n hx hb d_SS_writeTables_101 rfl (lv_at hl 1 rfl) ?_
  refine va_get (D := D) (ci := 11) (v := .ref rv) (C := R_SS) (T := F_SS) (N := 2) hx hb hts i_SS hown hK hP 0 rfl rfl 0 (by decide) (hts _ wd_198) (fun _ h9 => h9) rfl d_SS_writeTables_102 ?_
  refine va_getN (D := D) (ci := 4) (v := .ref tp) (C := R_Receiver) (T := F_Receiver) (N := 5) hx hb hts i_Receiver hown hK hP 1 rfl rfl 0 (by decide) (hts _ wd_176) (fun _ h9 => h9) rfl d_SS_writeTables_105 ?_
  refine va_getN (D := D) (ci := 0) (v := .int (nI (T ++ ppL 0 0 184 0 (esL ((((((([] : List Int32) ++ bsL 0 1) ++ bsL (0 : Int32).toInt64 1) ++ bsL (45056 : Int32).toInt64 2) ++ bsL (65535 : Int32).toInt64 2) ++ bsL (193 ||| (ve <<< ((1 : Int32) &&& 31))).toInt64 1) ++ bsL 0 2))).length)) (C := R_Row) (T := F_Row) (N := 2) hx hb hts i_Row hown hK hP 6 rfl rfl 1 (by decide) (hts _ wd_109) (fun _ h9 => h9) rfl d_SS_writeTables_108 ?_
  have hP9 := hP.sub (ws' := [(h, .inr (11, [.ref rv, .ref d])), (rv, .inr (4, [.ref tp, .ref ln, .ref tb, .ref ct, .ref dp])), (ln, .inr (2, [.ref hd])), (hd, .inl (cN, 256, .inr (.inr (.inr (.inr (va_up hf (0 % 256) (some la))))))), (tp, .inr (0, [.ref a, .int (nI (T ++ ppL 0 0 184 0 (esL ((((((([] : List Int32) ++ bsL 0 1) ++ bsL (0 : Int32).toInt64 1) ++ bsL (45056 : Int32).toInt64 2) ++ bsL (65535 : Int32).toInt64 2) ++ bsL (193 ||| (ve <<< ((1 : Int32) &&& 31))).toInt64 1) ++ bsL 0 2))).length)])), (a, .inl (cB, 9400, .inl q51.1)), (la, .inr (1, [.int (nI 0), va_rf none, .int (-1), .int 0, .long (-1), .int (nI (0 + (184 + 183) / 184)), va_rf none, va_rf none])), (d, .inr (12, [.ref b0, .int 0, .int mo]))]) [0, 1, 2, 3, 6, 7, 5, 8] rfl
  have hD9 := hD.sub (ws' := [(h, .inr (11, [.ref rv, .ref d])), (rv, .inr (4, [.ref tp, .ref ln, .ref tb, .ref ct, .ref dp])), (ln, .inr (2, [.ref hd])), (hd, .inl (cN, 256, .inr (.inr (.inr (.inr (va_up hf (0 % 256) (some la))))))), (tp, .inr (0, [.ref a, .int (nI (T ++ ppL 0 0 184 0 (esL ((((((([] : List Int32) ++ bsL 0 1) ++ bsL (0 : Int32).toInt64 1) ++ bsL (45056 : Int32).toInt64 2) ++ bsL (65535 : Int32).toInt64 2) ++ bsL (193 ||| (ve <<< ((1 : Int32) &&& 31))).toInt64 1) ++ bsL 0 2))).length)])), (a, .inl (cB, 9400, .inl q51.1)), (la, .inr (1, [.int (nI 0), va_rf none, .int (-1), .int 0, .long (-1), .int (nI (0 + (184 + 183) / 184)), va_rf none, va_rf none])), (d, .inr (12, [.ref b0, .int 0, .int mo]))]) [0, 1, 2, 3, 6, 7, 5, 8] (by decide) rfl
  have hK9 := hK.sub (tys' := [(cB, .byte), (cN, .object "StreamSplitter$Lane")]) [0, 1] rfl
  refine W.widen (k := 2) (n := 14) (by omega) (by omega) ?_
  exact W.mono MQ.toT (W.iret (v := (nI (T ++ ppL 0 0 184 0 (esL ((((((([] : List Int32) ++ bsL 0 1) ++ bsL (0 : Int32).toInt64 1) ++ bsL (45056 : Int32).toInt64 2) ++ bsL (65535 : Int32).toInt64 2) ++ bsL (193 ||| (ve <<< ((1 : Int32) &&& 31))).toInt64 1) ++ bsL 0 2))).length)) hx hb hr (fun t ht hW => Or.inl ⟨_, (la, q51.1), rfl, ⟨rfl, e51.1⟩, ⟨by rw [ht]; exact hP9, va_K.moved hW.alike hK9, hD9⟩, hS.F ht⟩) hS.2.2 d_SS_writeTables_111)
