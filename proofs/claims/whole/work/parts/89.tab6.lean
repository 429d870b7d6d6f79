theorem wd_652 : (Jvm.Cond.methodLink "StreamSplitter$Tables" (104 : Nat) ({ cls := "StreamSplitter$Tables", name := "isOrder", desc := "(LStreamSplitter$Row;)Z" } : Jvm.MethodName)) ∈ lw_ok := List.mem_filter.mpr ⟨List.mem_of_getElem? (i := 652) (by decide +kernel), rfl⟩
theorem wd_653 : (Jvm.Cond.static ({ cls := "StreamSplitter$Tables", name := "isOrder", desc := "(LStreamSplitter$Row;)Z" } : Jvm.MethodName)) ∈ lw_ok := List.mem_filter.mpr ⟨List.mem_of_getElem? (i := 653) (by decide +kernel), rfl⟩
set_option maxRecDepth 100000 in
theorem wd_654 : (Jvm.Cond.code ({ cls := "StreamSplitter$Tables", name := "isOrder", desc := "(LStreamSplitter$Row;)Z" } : Jvm.MethodName) prog_11_method_12_code (1 : Nat) (Option.some Jvm.ClassFile.FieldType.boolean)) ∈ lw_ok := List.mem_filter.mpr ⟨List.mem_of_getElem? (i := 654) (by rfl), rfl⟩
theorem wd_655 : (Jvm.Cond.methodLink "StreamSplitter$Tables" (108 : Nat) ({ cls := "StreamSplitter$Programme", name := "cancel", desc := "(I)V" } : Jvm.MethodName)) ∈ lw_ok := List.mem_filter.mpr ⟨List.mem_of_getElem? (i := 655) (by decide +kernel), rfl⟩
theorem wd_656 : (Jvm.Cond.instanceMethod ({ cls := "StreamSplitter$Programme", name := "cancel", desc := "(I)V" } : Jvm.MethodName)) ∈ lw_ok := List.mem_filter.mpr ⟨List.mem_of_getElem? (i := 656) (by decide +kernel), rfl⟩
theorem wd_657 : (Jvm.Cond.selects "StreamSplitter$Programme" ({ cls := "StreamSplitter$Programme", name := "cancel", desc := "(I)V" } : Jvm.MethodName) ({ cls := "StreamSplitter$Programme", name := "cancel", desc := "(I)V" } : Jvm.MethodName)) ∈ lw_ok := List.mem_filter.mpr ⟨List.mem_of_getElem? (i := 657) (by decide +kernel), rfl⟩
set_option maxRecDepth 100000 in
theorem wd_658 : (Jvm.Cond.code ({ cls := "StreamSplitter$Programme", name := "cancel", desc := "(I)V" } : Jvm.MethodName) prog_7_method_4_code (3 : Nat) (Option.none : Option Jvm.ClassFile.FieldType)) ∈ lw_ok := List.mem_filter.mpr ⟨List.mem_of_getElem? (i := 658) (by rfl), rfl⟩
theorem wd_659 : (Jvm.Cond.methodLink "StreamSplitter$Tables" (112 : Nat) ({ cls := "StreamSplitter$Tables", name := "useSwitch", desc := "(LStreamSplitter$Row;LStreamSplitter$Programme;)V" } : Jvm.MethodName)) ∈ lw_ok := List.mem_filter.mpr ⟨List.mem_of_getElem? (i := 659) (by decide +kernel), rfl⟩
theorem wd_660 : (Jvm.Cond.static ({ cls := "StreamSplitter$Tables", name := "useSwitch", desc := "(LStreamSplitter$Row;LStreamSplitter$Programme;)V" } : Jvm.MethodName)) ∈ lw_ok := List.mem_filter.mpr ⟨List.mem_of_getElem? (i := 660) (by decide +kernel), rfl⟩
set_option maxRecDepth 100000 in
theorem wd_661 : (Jvm.Cond.code ({ cls := "StreamSplitter$Tables", name := "useSwitch", desc := "(LStreamSplitter$Row;LStreamSplitter$Programme;)V" } : Jvm.MethodName) prog_11_method_13_code (14 : Nat) (Option.none : Option Jvm.ClassFile.FieldType)) ∈ lw_ok := List.mem_filter.mpr ⟨List.mem_of_getElem? (i := 661) (by rfl), rfl⟩
theorem hd_Programme_cancel : y_Programme_cancel.cls ≠ "java/lang/invoke/MethodHandle" ∧ y_Programme_cancel.cls ≠ "java/lang/invoke/VarHandle" ∧ (parseMethodDescriptor y_Programme_cancel.desc).map (fun d => d.parameters.length) = some 1 := by decide +kernel
theorem hd_Tables_isOrder : y_Tables_isOrder.cls ≠ "java/lang/invoke/MethodHandle" ∧ y_Tables_isOrder.cls ≠ "java/lang/invoke/VarHandle" ∧ (parseMethodDescriptor y_Tables_isOrder.desc).map (fun d => d.parameters.length) = some 1 := by decide +kernel
theorem hd_Tables_useSwitch : y_Tables_useSwitch.cls ≠ "java/lang/invoke/MethodHandle" ∧ y_Tables_useSwitch.cls ≠ "java/lang/invoke/VarHandle" ∧ (parseMethodDescriptor y_Tables_useSwitch.desc).map (fun d => d.parameters.length) = some 2 := by decide +kernel
theorem d_Tables_useOrder_0 : decode b_Tables_useOrder 0 = .ok (.aload_n 0, 1) := by decide +kernel
theorem d_Tables_useOrder_1 : decode b_Tables_useOrder 1 = .ok (.iload_n 2, 1) := by decide +kernel
theorem d_Tables_useOrder_2 : decode b_Tables_useOrder 2 = .ok (.invokevirtual 42, 3) := by decide +kernel
theorem d_Tables_useOrder_5 : decode b_Tables_useOrder 5 = .ok (.astore_n 3, 1) := by decide +kernel
theorem d_Tables_useOrder_6 : decode b_Tables_useOrder 6 = .ok (.aload_n 3, 1) := by decide +kernel
theorem d_Tables_useOrder_7 : decode b_Tables_useOrder 7 = .ok (.ifnull 10, 3) := by decide +kernel
theorem d_Tables_useOrder_10 : decode b_Tables_useOrder 10 = .ok (.aload_n 1, 1) := by decide +kernel
theorem d_Tables_useOrder_11 : decode b_Tables_useOrder 11 = .ok (.invokestatic 104, 3) := by decide +kernel
theorem d_Tables_useOrder_14 : decode b_Tables_useOrder 14 = .ok (.ifCond .ne 4, 3) := by decide +kernel
theorem d_Tables_useOrder_17 : decode b_Tables_useOrder 17 = .ok (.return_, 1) := by decide +kernel
theorem d_Tables_useOrder_18 : decode b_Tables_useOrder 18 = .ok (.aload_n 1, 1) := by decide +kernel
theorem d_Tables_useOrder_19 : decode b_Tables_useOrder 19 = .ok (.sipush 144, 3) := by decide +kernel
theorem d_Tables_useOrder_22 : decode b_Tables_useOrder 22 = .ok (.invokevirtual 57, 3) := by decide +kernel
theorem d_Tables_useOrder_25 : decode b_Tables_useOrder 25 = .ok (.ifCond .eq 19, 3) := by decide +kernel
theorem d_Tables_useOrder_28 : decode b_Tables_useOrder 28 = .ok (.aload_n 3, 1) := by decide +kernel
theorem d_Tables_useOrder_29 : decode b_Tables_useOrder 29 = .ok (.aload_n 1, 1) := by decide +kernel
theorem d_Tables_useOrder_30 : decode b_Tables_useOrder 30 = .ok (.bipush 112, 2) := by decide +kernel
theorem d_Tables_useOrder_32 : decode b_Tables_useOrder 32 = .ok (.bipush 32, 2) := by decide +kernel
theorem d_Tables_useOrder_34 : decode b_Tables_useOrder 34 = .ok (.invokevirtual 61, 3) := by decide +kernel
theorem d_Tables_useOrder_37 : decode b_Tables_useOrder 37 = .ok (.l2i, 1) := by decide +kernel
theorem d_Tables_useOrder_38 : decode b_Tables_useOrder 38 = .ok (.invokevirtual 108, 3) := by decide +kernel
theorem d_Tables_useOrder_41 : decode b_Tables_useOrder 41 = .ok (.goto 8, 3) := by decide +kernel
theorem d_Tables_useOrder_44 : decode b_Tables_useOrder 44 = .ok (.aload_n 1, 1) := by decide +kernel
theorem d_Tables_useOrder_45 : decode b_Tables_useOrder 45 = .ok (.aload_n 3, 1) := by decide +kernel
theorem d_Tables_useOrder_46 : decode b_Tables_useOrder 46 = .ok (.invokestatic 112, 3) := by decide +kernel
theorem d_Tables_useOrder_49 : decode b_Tables_useOrder 49 = .ok (.return_, 1) := by decide +kernel
set_option maxHeartbeats 16000000 in
set_option maxRecDepth 100000 in
theorem c_Tables_useOrder (l : Launch) (D : va_G) (B0 : State) (hG : zG B0) (sz : Nat) (cB : ClassId) (h a n : Nat) (f : Nat → Int32) (cO : ClassId) (e0 tb pr : Nat) (lv pmo : Int32) (pst : Option (Nat × (Nat → Option Nat))) (P : List PR9) (Q : va_W) (pid : Nat) (hn : n ≤ 1024) (he0 : zE0 B0 e0) (htk : tok Q cO pst P) (hpid : pid < 8192) : Met l y_Tables_useOrder [Cond.code y_Tables_useOrder b_Tables_useOrder 4 none] ({ frames := 7, cells := 3, slots := 18, locals := 157 }) (zMo [.ref tb, .ref h, .int (nI pid)] D ([(h, .inr (0, [.ref a, .int (nI n)])), (a, .inl (cB, 1024, .inl f))] ++ (tplr cO e0 tb lv pr P.length pmo pst P ++ Q)) [(cB, .byte), (cO, .object "java/lang/Object")] sz B0) (va_Qv (fun (u : List PR9 × va_W) => uoP f n P pid u.1 u.2 ∧ tok (u.2 ++ Q) cO pst u.1) (fun (u : List PR9 × va_W) t => zW D (va_A ([(h, .inr (0, [.ref a, .int (nI n)])), (a, .inl (cB, 1024, .inl f))] ++ (tplr cO e0 tb lv pr P.length pmo pst P ++ Q)) sz) ([(h, .inr (0, [.ref a, .int (nI n)])), (a, .inl (cB, 1024, .inl f))] ++ (tplr cO e0 tb lv pr P.length pmo pst u.1 ++ (u.2 ++ Q))) [(cB, .byte), (cO, .object "java/lang/Object")] t) (va_A ([(h, .inr (0, [.ref a, .int (nI n)])), (a, .inl (cB, 1024, .inl f))] ++ (tplr cO e0 tb lv pr P.length pmo pst P ++ Q)) sz)) 3 18 (va_A ([(h, .inr (0, [.ref a, .int (nI n)])), (a, .inl (cB, 1024, .inl f))] ++ (tplr cO e0 tb lv pr P.length pmo pst P ++ Q)) sz) := by
  refine Met.ofW (cc := b_Tables_useOrder) (maxL := 4) (ret := none) (by decide) rfl ?_
  intro p e s m args below meth cd s₁ Bd hml hv
  obtain ⟨rfl, hsz, hP, hK, hN, hD0, hO⟩ := hv
  have hx := Bd.exec
  have hb := Bd.bytes
  have hr := Bd.returns
  have hts := hN.use (a := ([.ref tb, .ref h, .int (nI pid)]).toArray)
  have hown : s.vm.findClass R_Tables = some m.cls := findClass_of_methodNamed Bd.named
  have hlocks := Bd.notSynchronized
  subst hsz
  have hD := hD0.self (sz := s.heap.size)
  have hAO := z_AO hD0 hO
  clear hD0
  have hA : ∀ q : Nat, s.heap.size ≤ q → va_A ([(h, .inr (0, [.ref a, .int (nI n)])), (a, .inl (cB, 1024, .inl f))] ++ (tplr cO e0 tb lv pr P.length pmo pst P ++ Q)) s.heap.size q := fun q h => Or.inr h
  have hS : va_S (va_A ([(h, .inr (0, [.ref a, .int (nI n)])), (a, .inl (cB, 1024, .inl f))] ++ (tplr cO e0 tb lv pr P.length pmo pst P ++ Q)) s.heap.size) s.heap s.heap [] := va_S.rf
  generalize hAe : va_A ([(h, .inr (0, [.ref a, .int (nI n)])), (a, .inl (cB, 1024, .inl f))] ++ (tplr cO e0 tb lv pr P.length pmo pst P ++ Q)) s.heap.size = A at hD hA hS hAO ⊢
  have hP : va_P D classes ([(h, .inr (0, [.ref a, .int (nI n)])), (a, .inl (cB, 1024, .inl f))] ++ (tplr cO e0 tb lv pr P.length pmo pst P ++ Q)) s.heap := hP
  have hl := lv_entry ([.ref tb, .ref h, .int (nI pid)]) (n := 4) (Nat.le_of_ble_eq_true rfl)
  rw [lg_entry_eq]
  generalize (lg_sl ([.ref tb, .ref h, .int (nI pid)]) ++ List.replicate (4 - (lg_sl ([.ref tb, .ref h, .int (nI pid)])).length) Slot.unset).toArray = ls at hl ⊢
  have hl : lv_has ls 4 [(0, .ref tb), (1, .ref h), (2, .int (nI pid))] := hl
  refine lv_aload_n hx hb d_Tables_useOrder_0 rfl (lv_at hl 0 rfl) ?_
  refine lv_iload_n hx hb d_Tables_useOrder_1 rfl (lv_at hl 2 rfl) ?_
  have hT9 := tok_isT (X := [(h, .inr (0, [.ref a, .int (nI n)])), (a, .inl (cB, 1024, .inl f))]) (e0 := e0) (tb := tb) (pr := pr) (lv := lv) (pmo := pmo) htk
  obtain ⟨q0, hq0⟩ : ∃ q0 : Nat, ([(h, .inr (0, [.ref a, .int (nI n)])), (a, .inl (cB, 1024, .inl f))] ++ (tplr cO e0 tb lv pr P.length pmo pst P ++ Q))[q0]? = some (tb, .inr (8, [.int lv, .ref pr])) := ⟨2, rfl⟩
  have hPc : va_P D classes ([] ++ ([(h, .inr (0, [.ref a, .int (nI n)])), (a, .inl (cB, 1024, .inl f))] ++ (tplr cO e0 tb lv pr P.length pmo pst P ++ Q))) s.heap := hP
  have hKc := hK.sub (tys' := [(cO, .object "java/lang/Object")]) [1] rfl
  refine z_cq (va_runV (As := [.int (nI pid)]) (rest := []) ⟨hx, hb, hml, hown, hts⟩ (c_Tables_ownerOf l D cO ([(h, .inr (0, [.ref a, .int (nI n)])), (a, .inl (cB, 1024, .inl f))] ++ (tplr cO e0 tb lv pr P.length pmo pst P ++ Q)) tb pr lv (pvw P) pid hT9 hpid) (z_cV hN wd_324 wd_63 wd_321 hd_Tables_ownerOf rfl rfl ⟨Nat.le_of_ble_eq_true rfl, Nat.le_of_ble_eq_true rfl⟩ wd_323 wd_3) (z_preV (va_recv (ci := 8) (q0 := q0) hK hP rfl hq0) hPc hKc hN) rfl rfl hl.1 rfl (lv_room (Nat.le_of_ble_eq_true rfl)) d_Tables_useOrder_2 ⟨Nat.le_of_ble_eq_true rfl, Nat.le_of_ble_eq_true rfl⟩) (fun r2 e2 => ?_)
  refine z_astoreq_n (lv' := [(3, va_rf r2), (0, .ref tb), (1, .ref h), (2, .int (nI pid))]) hx hb d_Tables_useOrder_5 rfl hl (by decide) rfl (fun ls hl => ?_)
  refine z_aloadq_n hx hb d_Tables_useOrder_6 rfl (lv_at hl 0 rfl) ?_
  cases h7 : r2 with
  | none =>
    rw [h7] at hl
    have hl : lv_has ls 4 [(3, .null), (0, .ref tb), (1, .ref h), (2, .int (nI pid))] := hl
    try rw [h7]
    refine lv_ifnullN (tgt := 17) hx hb d_Tables_useOrder_7 rfl ?_
    have hP9 := hP.part (cx := [(h, .inr (0, [.ref a, .int (nI n)])), (a, .inl (cB, 1024, .inl f))]) [0, 1] rfl
    have hD9 := hD.part (cx := [(h, .inr (0, [.ref a, .int (nI n)])), (a, .inl (cB, 1024, .inl f))]) [0, 1] (by decide) rfl
    have hK9 := hK.sub (tys' := [(cB, .byte), (cO, .object "java/lang/Object")]) [0, 1] rfl
    refine W.widen (k := 3) (n := 18) (by omega) (by omega) ?_
    exact W.vret hx hb hr (fun t ht hW => ⟨⟨(P, []), rfl, ⟨Or.inl ⟨by first | exact Or.inr h14 | exact Or.inl (fun i hi => by have z9 := ow_none (h7 ▸ e2) i (by rw [pvw_len]; exact hi); rw [pvw_get hi] at z9; exact z9), rfl, rfl⟩, htk⟩, ⟨by rw [ht]; exact hP9, va_K.moved hW.alike hK9, hD9⟩⟩, hS.F ht⟩) hS.2.2 d_Tables_useOrder_17
  | some x7 =>
    rw [h7] at hl
    have hl : lv_has ls 4 [(3, .ref x7), (0, .ref tb), (1, .ref h), (2, .int (nI pid))] := hl
    try rw [h7]
    refine lv_ifnull (x := x7) hx hb d_Tables_useOrder_7 ?_
    rcases e2 with ⟨e2, -⟩ | ⟨j, hj, hh, hf, he⟩
    · rw [h7] at e2; cases e2
    rw [h7] at he
    rw [pvw_len] at hj
    rw [pvw_get hj] at hh he
    obtain ⟨x, hxe⟩ : ∃ x : PR9, x = P.getD j pr9 := ⟨_, rfl⟩
    rw [← hxe] at hh he
    have hpk := htk.2.2 _ (p_mem hj)
    rw [← hxe] at hpk
    have hsp := p_split hj
    rw [← hxe] at hsp
    obtain ⟨L1, hL1⟩ : ∃ L1, L1 = P.take j := ⟨_, rfl⟩
    obtain ⟨L2, hL2⟩ : ∃ L2, L2 = P.drop (j + 1) := ⟨_, rfl⟩
    rw [← hL1, ← hL2] at hsp
    obtain ⟨z, S, Wl, mo, wst⟩ := x
    obtain rfl : x7 = z.1 := Option.some.inj he
    have hf9 : ∀ i, i < j → ¬ hasP (P.getD i pr9).2.1 pid := fun i hi => by have z9 := hf i hi; rw [pvw_get (by omega)] at z9; exact z9
    refine lv_aload_n hx hb d_Tables_useOrder_10 rfl (lv_at hl 2 rfl) ?_
    have hPc := hP.sub (ws' := [(h, .inr (0, [.ref a, .int (nI n)])), (a, .inl (cB, 1024, .inl f))]) [0, 1] rfl
    have hKc := hK.sub (tys' := [(cB, .byte)]) [0] rfl
    refine z_ci (va_runS (As := [.ref h]) (rest := []) ⟨hx, hb, hml, hown, hts⟩ (c_Tables_isOrder l D cB h a n 1024 f (by omega) hn) (z_cS hN wd_654 wd_63 wd_652 hd_Tables_isOrder rfl rfl ⟨Nat.le_of_ble_eq_true rfl, Nat.le_of_ble_eq_true rfl⟩ wd_653) (z_preS hPc hKc hN) rfl rfl hl.1 rfl (lv_room (Nat.le_of_ble_eq_true rfl)) d_Tables_useOrder_11 ⟨Nat.le_of_ble_eq_true rfl, Nat.le_of_ble_eq_true rfl⟩) (fun r11 e11 => ?_)
    refine z_topi (w := if rw_at f n 1024 0 = 252 ∧ rw_at f n 1024 3 = 0 ∧ ¬ rw_bit f n 1024 32 = 1 ∧ rw_at f n 1024 13 = 5 ∧ 19 ≤ n then 1 else 0) e11 ?_
    refine lv_if_ne (tgt := 18) hx hb d_Tables_useOrder_14 rfl (fun h14 => ?_) (fun h14 => ?_)
    · have h14 : ioP f n := b_1 h14
      have hP := z_Pp (tp_foc (X := [(h, .inr (0, [.ref a, .int (nI n)])), (a, .inl (cB, 1024, .inl f))]) (A := L1) (B := L2) (x := (z, S, Wl, mo, wst))) (by rw [← hsp]; exact hP)
      have hD := z_Dp (tp_foc (X := [(h, .inr (0, [.ref a, .int (nI n)])), (a, .inl (cB, 1024, .inl f))]) (A := L1) (B := L2) (x := (z, S, Wl, mo, wst))) (by rw [← hsp]; exact hD)
      have hP : va_P D classes ([(h, .inr (0, [.ref a, .int (nI n)])), (a, .inl (cB, 1024, .inl f)), (z.1, .inr (7, [.int z.2.1, .int (nI z.2.2.1), .int z.2.2.2.1, .int z.2.2.2.2.1, .ref z.2.2.2.2.2.1, .int z.2.2.2.2.2.2.1, .long z.2.2.2.2.2.2.2.1, .ref z.2.2.2.2.2.2.2.2]))] ++ (wlc cO e0 z.2.2.2.2.2.2.2.2 Wl.length mo wst ++ (tplr cO e0 tb lv pr P.length pmo pst (L1 ++ L2) ++ Q))) s.heap := hP
      have hD : va_D A ([(h, .inr (0, [.ref a, .int (nI n)])), (a, .inl (cB, 1024, .inl f)), (z.1, .inr (7, [.int z.2.1, .int (nI z.2.2.1), .int z.2.2.2.1, .int z.2.2.2.2.1, .ref z.2.2.2.2.2.1, .int z.2.2.2.2.2.2.1, .long z.2.2.2.2.2.2.2.1, .ref z.2.2.2.2.2.2.2.2]))] ++ (wlc cO e0 z.2.2.2.2.2.2.2.2 Wl.length mo wst ++ (tplr cO e0 tb lv pr P.length pmo pst (L1 ++ L2) ++ Q))) := hD
      refine lv_aload_n hx hb d_Tables_useOrder_18 rfl (lv_at hl 2 rfl) ?_
      refine lv_sipush (v := 144) hx hb d_Tables_useOrder_19 (by decide) ?_
      have hPc := hP.sub (ws' := [(h, .inr (0, [.ref a, .int (nI n)])), (a, .inl (cB, 1024, .inl f))]) [0, 1] rfl
      have hKc := hK.sub (tys' := [(cB, .byte)]) [0] rfl
      refine z_ci (va_runV (As := [.int (nI 144)]) (rest := []) ⟨hx, hb, hml, hown, hts⟩ (c_Row_bit l D cB h a n 1024 f 144 (by omega) (by omega)) (z_cV hN wd_563 wd_61 wd_560 hd_Row_bit rfl rfl ⟨Nat.le_of_ble_eq_true rfl, Nat.le_of_ble_eq_true rfl⟩ wd_561 wd_562) (z_preV (va_recv (ci := 0) (q0 := 0) hK hP rfl rfl) hPc hKc hN) rfl rfl hl.1 rfl (lv_room (Nat.le_of_ble_eq_true rfl)) d_Tables_useOrder_22 ⟨Nat.le_of_ble_eq_true rfl, Nat.le_of_ble_eq_true rfl⟩) (fun r22 e22 => ?_)
      refine z_topi (w := if rw_bit f n 1024 144 = 1 then 1 else 0) e22 ?_
      refine lv_if_eq (tgt := 44) hx hb d_Tables_useOrder_25 rfl (fun h25 => ?_) (fun h25 => ?_)
      · have h25 := b_0 h25
        refine lv_aload_n hx hb d_Tables_useOrder_44 rfl (lv_at hl 2 rfl) ?_
        refine lv_aload_n hx hb d_Tables_useOrder_45 rfl (lv_at hl 0 rfl) ?_
        have hPc := hP.part (cx := [(h, .inr (0, [.ref a, .int (nI n)])), (a, .inl (cB, 1024, .inl f)), (z.1, .inr (7, [.int z.2.1, .int (nI z.2.2.1), .int z.2.2.2.1, .int z.2.2.2.2.1, .ref z.2.2.2.2.2.1, .int z.2.2.2.2.2.2.1, .long z.2.2.2.2.2.2.2.1, .ref z.2.2.2.2.2.2.2.2]))]) [0, 1, 2] rfl
        have hKc := hK.sub (tys' := [(cB, .byte), (cO, .object "java/lang/Object")]) [0, 1] rfl
        have hDc := hD.part (cx := [(h, .inr (0, [.ref a, .int (nI n)])), (a, .inl (cB, 1024, .inl f)), (z.1, .inr (7, [.int z.2.1, .int (nI z.2.2.1), .int z.2.2.2.1, .int z.2.2.2.2.1, .ref z.2.2.2.2.2.1, .int z.2.2.2.2.2.2.1, .long z.2.2.2.2.2.2.2.1, .ref z.2.2.2.2.2.2.2.2]))]) [0, 1, 2] (by decide) rfl
        have hFc := va_freeP (cx := [(h, .inr (0, [.ref a, .int (nI n)])), (a, .inl (cB, 1024, .inl f)), (z.1, .inr (7, [.int z.2.1, .int (nI z.2.2.1), .int z.2.2.2.1, .int z.2.2.2.2.1, .ref z.2.2.2.2.2.1, .int z.2.2.2.2.2.2.1, .long z.2.2.2.2.2.2.2.1, .ref z.2.2.2.2.2.2.2.2]))]) hD hS hA [0, 1, 2] rfl
        refine va_callv (va_runS (As := [.ref h, .ref z.1]) (rest := []) ⟨hx, hb, hml, hown, hts⟩ (c_Tables_useSwitch l D B0 hG s.heap.size cB h a n f cO e0 z mo wst Wl (tplr cO e0 tb lv pr P.length pmo pst (L1 ++ L2) ++ Q) hn he0 (wk_mono hpk.2.2.1 (fun y hy => List.mem_append_right _ hy)) hpk.2.2.2.1 hpk.2.2.2.2) (z_cS hN wd_661 wd_63 wd_659 hd_Tables_useSwitch rfl rfl ⟨Nat.le_of_ble_eq_true rfl, Nat.le_of_ble_eq_true rfl⟩ wd_660) (z_preSo hPc hKc hN hDc hO hS hAO) rfl rfl hl.1 rfl (lv_room (Nat.le_of_ble_eq_true rfl)) d_Tables_useOrder_46 ⟨Nat.le_of_ble_eq_true rfl, Nat.le_of_ble_eq_true rfl⟩) hS (fun q _ h => hFc q h) hFc (fun c9 t H locs ht hvm e46 hB hz1 hk1 hS => ?_)
        obtain ⟨hP1, hK1, hD1⟩ := hB
        rw [ht] at hP1
        obtain ⟨hP, hD⟩ := va_joinP (wr := []) (rx := [(h, .inr (0, [.ref a, .int (nI n)])), (a, .inl (cB, 1024, .inl f)), (z.1, .inr (7, [.int z.2.1, .int (nI z.2.2.1), .int z.2.2.2.1, .int z.2.2.2.2.1, .ref z.2.2.2.2.2.1, .int c9.1, .long z.2.2.2.2.2.2.2.1, .ref z.2.2.2.2.2.2.2.2]))]) hP hD [0, 1, 2] [] rfl rfl (by decide) (by decide) hk1 hFc hP1 hD1
        clear hk1 hP1 hD1 hFc hPc hDc hz1
        have hP : va_P D classes ([(h, .inr (0, [.ref a, .int (nI n)])), (a, .inl (cB, 1024, .inl f)), (z.1, .inr (7, [.int z.2.1, .int (nI z.2.2.1), .int z.2.2.2.1, .int z.2.2.2.2.1, .ref z.2.2.2.2.2.1, .int c9.1, .long z.2.2.2.2.2.2.2.1, .ref z.2.2.2.2.2.2.2.2]))] ++ (wlc cO e0 z.2.2.2.2.2.2.2.2 c9.2.1.1.length c9.2.1.2.1 c9.2.1.2.2 ++ (c9.2.2 ++ (tplr cO e0 tb lv pr P.length pmo pst (L1 ++ L2) ++ Q)))) H := hP
        have hD : va_D A ([(h, .inr (0, [.ref a, .int (nI n)])), (a, .inl (cB, 1024, .inl f)), (z.1, .inr (7, [.int z.2.1, .int (nI z.2.2.1), .int z.2.2.2.1, .int z.2.2.2.2.1, .ref z.2.2.2.2.2.1, .int c9.1, .long z.2.2.2.2.2.2.2.1, .ref z.2.2.2.2.2.2.2.2]))] ++ (wlc cO e0 z.2.2.2.2.2.2.2.2 c9.2.1.1.length c9.2.1.2.1 c9.2.1.2.2 ++ (c9.2.2 ++ (tplr cO e0 tb lv pr P.length pmo pst (L1 ++ L2) ++ Q)))) := hD
        have hP := z_Pp (uo_perm (X := [(h, .inr (0, [.ref a, .int (nI n)])), (a, .inl (cB, 1024, .inl f))]) (ex := c9.2.2) (A := L1) (B := L2) (x := (pzA z c9.1, S, c9.2.1.1, c9.2.1.2.1, c9.2.1.2.2))) (show va_P D classes ([(h, .inr (0, [.ref a, .int (nI n)])), (a, .inl (cB, 1024, .inl f))] ++ (pgc cO e0 (pzA z c9.1, S, c9.2.1.1, c9.2.1.2.1, c9.2.1.2.2) ++ (c9.2.2 ++ (tplr cO e0 tb lv pr P.length pmo pst (L1 ++ L2) ++ Q)))) H from hP)
        have hD := z_Dp (uo_perm (X := [(h, .inr (0, [.ref a, .int (nI n)])), (a, .inl (cB, 1024, .inl f))]) (ex := c9.2.2) (A := L1) (B := L2) (x := (pzA z c9.1, S, c9.2.1.1, c9.2.1.2.1, c9.2.1.2.2))) (show va_D A ([(h, .inr (0, [.ref a, .int (nI n)])), (a, .inl (cB, 1024, .inl f))] ++ (pgc cO e0 (pzA z c9.1, S, c9.2.1.1, c9.2.1.2.1, c9.2.1.2.2) ++ (c9.2.2 ++ (tplr cO e0 tb lv pr P.length pmo pst (L1 ++ L2) ++ Q)))) from hD)
        have hP : va_P D classes ([(h, .inr (0, [.ref a, .int (nI n)])), (a, .inl (cB, 1024, .inl f))] ++ (tplr cO e0 tb lv pr P.length pmo pst (L1 ++ (pzA z c9.1, S, c9.2.1.1, c9.2.1.2.1, c9.2.1.2.2) :: L2) ++ (c9.2.2 ++ Q))) H := hP
        have hD : va_D A ([(h, .inr (0, [.ref a, .int (nI n)])), (a, .inl (cB, 1024, .inl f))] ++ (tplr cO e0 tb lv pr P.length pmo pst (L1 ++ (pzA z c9.1, S, c9.2.1.1, c9.2.1.2.1, c9.2.1.2.2) :: L2) ++ (c9.2.2 ++ Q))) := hD
        have hset : P.set j (pzA z c9.1, S, c9.2.1.1, c9.2.1.2.1, c9.2.1.2.2) = (L1 ++ (pzA z c9.1, S, c9.2.1.1, c9.2.1.2.1, c9.2.1.2.2) :: L2) := by rw [hsp, hL1, hL2]; exact p_set hj
        have hP9 := hP.part (cx := [(h, .inr (0, [.ref a, .int (nI n)])), (a, .inl (cB, 1024, .inl f))]) [0, 1] rfl
        have hD9 := hD.part (cx := [(h, .inr (0, [.ref a, .int (nI n)])), (a, .inl (cB, 1024, .inl f))]) [0, 1] (by decide) rfl
        have hK9 := hK.sub (tys' := [(cB, .byte), (cO, .object "java/lang/Object")]) [0, 1] rfl
        refine W.widen (k := 3) (n := 18) (by omega) (by omega) ?_
        exact W.vret hx hb hr (fun t ht hW => ⟨⟨((L1 ++ (pzA z c9.1, S, c9.2.1.1, c9.2.1.2.1, c9.2.1.2.2) :: L2), c9.2.2), rfl, uo_sw htk hj hxe hh hf9 h14 h25 e46 hset, ⟨by rw [ht]; exact hP9, va_K.moved hW.alike hK9, hD9⟩⟩, hS.F ht⟩) hS.2.2 d_Tables_useOrder_49
      · have h25 := b_1 h25
        refine lv_aload_n hx hb d_Tables_useOrder_28 rfl (lv_at hl 0 rfl) ?_
        refine lv_aload_n hx hb d_Tables_useOrder_29 rfl (lv_at hl 2 rfl) ?_
        refine lv_bipush (v := 112) hx hb d_Tables_useOrder_30 (by decide) ?_
        refine lv_bipush (v := 32) hx hb d_Tables_useOrder_32 (by decide) ?_
        have hPc := hP.sub (ws' := [(h, .inr (0, [.ref a, .int (nI n)])), (a, .inl (cB, 1024, .inl f))]) [0, 1] rfl
        have hKc := hK.sub (tys' := [(cB, .byte)]) [0] rfl
        refine z_cl (va_runV (As := [.int (nI 112), .int (nI 32)]) (rest := [.ref z.1]) ⟨hx, hb, hml, hown, hts⟩ (c_Row_bits l D cB h a n 1024 f 112 32 (by omega) (by omega)) (z_cV hN wd_280 wd_61 wd_564 hd_Row_bits rfl rfl ⟨Nat.le_of_ble_eq_true rfl, Nat.le_of_ble_eq_true rfl⟩ wd_278 wd_279) (z_preV (va_recv (ci := 0) (q0 := 0) hK hP rfl rfl) hPc hKc hN) rfl rfl hl.1 rfl (lv_room (Nat.le_of_ble_eq_true rfl)) d_Tables_useOrder_34 ⟨Nat.le_of_ble_eq_true rfl, Nat.le_of_ble_eq_true rfl⟩) (fun r34 e34 => ?_)
        refine z_topl (w := rw_bits f n 1024 112 32) e34 ?_
        refine lv_l2i (v := (rw_bits f n 1024 112 32).toInt32) hx hb d_Tables_useOrder_37 rfl ?_
        have hPc := hP.part (cx := [(z.1, .inr (7, [.int z.2.1, .int (nI z.2.2.1), .int z.2.2.2.1, .int z.2.2.2.2.1, .ref z.2.2.2.2.2.1, .int z.2.2.2.2.2.2.1, .long z.2.2.2.2.2.2.2.1, .ref z.2.2.2.2.2.2.2.2]))]) [2] rfl
        have hKc := hK.sub (tys' := [(cO, .object "java/lang/Object")]) [1] rfl
        have hDc := hD.part (cx := [(z.1, .inr (7, [.int z.2.1, .int (nI z.2.2.1), .int z.2.2.2.1, .int z.2.2.2.2.1, .ref z.2.2.2.2.2.1, .int z.2.2.2.2.2.2.1, .long z.2.2.2.2.2.2.2.1, .ref z.2.2.2.2.2.2.2.2]))]) [2] (by decide) rfl
        have hFc := va_freeP (cx := [(z.1, .inr (7, [.int z.2.1, .int (nI z.2.2.1), .int z.2.2.2.1, .int z.2.2.2.2.1, .ref z.2.2.2.2.2.1, .int z.2.2.2.2.2.2.1, .long z.2.2.2.2.2.2.2.1, .ref z.2.2.2.2.2.2.2.2]))]) hD hS hA [2] rfl
        refine va_callv (va_runV (As := [.int ((rw_bits f n 1024 112 32).toInt32)]) (rest := []) ⟨hx, hb, hml, hown, hts⟩ (c_Programme_cancel l D B0 hG s.heap.size cO e0 z mo wst Wl (tplr cO e0 tb lv pr P.length pmo pst (L1 ++ L2) ++ Q) ((rw_bits f n 1024 112 32).toInt32) he0 (wk_mono hpk.2.2.1 (fun y hy => List.mem_append_right _ hy)) hpk.2.2.2.1) (z_cV hN wd_658 wd_82 wd_655 hd_Programme_cancel rfl rfl ⟨Nat.le_of_ble_eq_true rfl, Nat.le_of_ble_eq_true rfl⟩ wd_656 wd_657) (z_preVo (va_recv (ci := 7) (q0 := 2) hK hP rfl rfl) hPc hKc hN hDc hO hS hAO) rfl rfl hl.1 rfl (lv_room (Nat.le_of_ble_eq_true rfl)) d_Tables_useOrder_38 ⟨Nat.le_of_ble_eq_true rfl, Nat.le_of_ble_eq_true rfl⟩) hS (fun q _ h => hFc q h) hFc (fun c9 t H locs ht hvm e38 hB hz1 hk1 hS => ?_)
        obtain ⟨hP1, hK1, hD1⟩ := hB
        rw [ht] at hP1
        obtain ⟨hP, hD⟩ := va_joinP (wr := [(h, .inr (0, [.ref a, .int (nI n)])), (a, .inl (cB, 1024, .inl f))]) (rx := [(z.1, .inr (7, [.int z.2.1, .int (nI z.2.2.1), .int z.2.2.2.1, .int z.2.2.2.2.1, .ref z.2.2.2.2.2.1, .int z.2.2.2.2.2.2.1, .long z.2.2.2.2.2.2.2.1, .ref z.2.2.2.2.2.2.2.2]))]) hP hD [2] [0, 1] rfl rfl (by decide) (by decide) hk1 hFc hP1 hD1
        clear hk1 hP1 hD1 hFc hPc hDc hz1
        have hP : va_P D classes ([(h, .inr (0, [.ref a, .int (nI n)])), (a, .inl (cB, 1024, .inl f)), (z.1, .inr (7, [.int z.2.1, .int (nI z.2.2.1), .int z.2.2.2.1, .int z.2.2.2.2.1, .ref z.2.2.2.2.2.1, .int z.2.2.2.2.2.2.1, .long z.2.2.2.2.2.2.2.1, .ref z.2.2.2.2.2.2.2.2]))] ++ (wlc cO e0 z.2.2.2.2.2.2.2.2 c9.1.length c9.2.1 c9.2.2 ++ (tplr cO e0 tb lv pr P.length pmo pst (L1 ++ L2) ++ Q))) H := hP
        have hD : va_D A ([(h, .inr (0, [.ref a, .int (nI n)])), (a, .inl (cB, 1024, .inl f)), (z.1, .inr (7, [.int z.2.1, .int (nI z.2.2.1), .int z.2.2.2.1, .int z.2.2.2.2.1, .ref z.2.2.2.2.2.1, .int z.2.2.2.2.2.2.1, .long z.2.2.2.2.2.2.2.1, .ref z.2.2.2.2.2.2.2.2]))] ++ (wlc cO e0 z.2.2.2.2.2.2.2.2 c9.1.length c9.2.1 c9.2.2 ++ (tplr cO e0 tb lv pr P.length pmo pst (L1 ++ L2) ++ Q))) := hD
        refine lv_goto (tgt := 49) hx hb d_Tables_useOrder_41 rfl ?_
        have hP := z_Pp (uo_perm (X := [(h, .inr (0, [.ref a, .int (nI n)])), (a, .inl (cB, 1024, .inl f))]) (ex := []) (A := L1) (B := L2) (x := (pzA z z.2.2.2.2.2.2.1, S, c9.1, c9.2.1, c9.2.2))) (show va_P D classes ([(h, .inr (0, [.ref a, .int (nI n)])), (a, .inl (cB, 1024, .inl f))] ++ (pgc cO e0 (pzA z z.2.2.2.2.2.2.1, S, c9.1, c9.2.1, c9.2.2) ++ ([] ++ (tplr cO e0 tb lv pr P.length pmo pst (L1 ++ L2) ++ Q)))) H from hP)
        have hD := z_Dp (uo_perm (X := [(h, .inr (0, [.ref a, .int (nI n)])), (a, .inl (cB, 1024, .inl f))]) (ex := []) (A := L1) (B := L2) (x := (pzA z z.2.2.2.2.2.2.1, S, c9.1, c9.2.1, c9.2.2))) (show va_D A ([(h, .inr (0, [.ref a, .int (nI n)])), (a, .inl (cB, 1024, .inl f))] ++ (pgc cO e0 (pzA z z.2.2.2.2.2.2.1, S, c9.1, c9.2.1, c9.2.2) ++ ([] ++ (tplr cO e0 tb lv pr P.length pmo pst (L1 ++ L2) ++ Q)))) from hD)
        have hP : va_P D classes ([(h, .inr (0, [.ref a, .int (nI n)])), (a, .inl (cB, 1024, .inl f))] ++ (tplr cO e0 tb lv pr P.length pmo pst (L1 ++ (pzA z z.2.2.2.2.2.2.1, S, c9.1, c9.2.1, c9.2.2) :: L2) ++ ([] ++ Q))) H := hP
        have hD : va_D A ([(h, .inr (0, [.ref a, .int (nI n)])), (a, .inl (cB, 1024, .inl f))] ++ (tplr cO e0 tb lv pr P.length pmo pst (L1 ++ (pzA z z.2.2.2.2.2.2.1, S, c9.1, c9.2.1, c9.2.2) :: L2) ++ ([] ++ Q))) := hD
        have hset : P.set j (pzA z z.2.2.2.2.2.2.1, S, c9.1, c9.2.1, c9.2.2) = (L1 ++ (pzA z z.2.2.2.2.2.2.1, S, c9.1, c9.2.1, c9.2.2) :: L2) := by rw [hsp, hL1, hL2]; exact p_set hj
        have hP9 := hP.part (cx := [(h, .inr (0, [.ref a, .int (nI n)])), (a, .inl (cB, 1024, .inl f))]) [0, 1] rfl
        have hD9 := hD.part (cx := [(h, .inr (0, [.ref a, .int (nI n)])), (a, .inl (cB, 1024, .inl f))]) [0, 1] (by decide) rfl
        have hK9 := hK.sub (tys' := [(cB, .byte), (cO, .object "java/lang/Object")]) [0, 1] rfl
        refine W.widen (k := 3) (n := 18) (by omega) (by omega) ?_
        exact W.vret hx hb hr (fun t ht hW => ⟨⟨((L1 ++ (pzA z z.2.2.2.2.2.2.1, S, c9.1, c9.2.1, c9.2.2) :: L2), []), rfl, uo_cn htk hj hxe hh hf9 h14 h25 e38 hset, ⟨by rw [ht]; exact hP9, va_K.moved hW.alike hK9, hD9⟩⟩, hS.F ht⟩) hS.2.2 d_Tables_useOrder_49
    · have h14 : ¬ ioP f n := b_0 (by first | exact h14 | exact Classical.not_not.mp h14)
      have hP9 := hP.part (cx := [(h, .inr (0, [.ref a, .int (nI n)])), (a, .inl (cB, 1024, .inl f))]) [0, 1] rfl
      have hD9 := hD.part (cx := [(h, .inr (0, [.ref a, .int (nI n)])), (a, .inl (cB, 1024, .inl f))]) [0, 1] (by decide) rfl
      have hK9 := hK.sub (tys' := [(cB, .byte), (cO, .object "java/lang/Object")]) [0, 1] rfl
      refine W.widen (k := 3) (n := 18) (by omega) (by omega) ?_
      exact W.vret hx hb hr (fun t ht hW => ⟨⟨(P, []), rfl, ⟨Or.inl ⟨by first | exact Or.inr h14 | exact Or.inl (fun i hi => by have z9 := ow_none (h7 ▸ e2) i (by rw [pvw_len]; exact hi); rw [pvw_get hi] at z9; exact z9), rfl, rfl⟩, htk⟩, ⟨by rw [ht]; exact hP9, va_K.moved hW.alike hK9, hD9⟩⟩, hS.F ht⟩) hS.2.2 d_Tables_useOrder_17
