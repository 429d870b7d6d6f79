theorem wd_24 : (Jvm.Cond.selects "StreamSplitter$Writer" ({ cls := "StreamSplitter$Writer", name := "beginPacket", desc := "()V" } : Jvm.MethodName) ({ cls := "StreamSplitter$Writer", name := "beginPacket", desc := "()V" } : Jvm.MethodName)) ∈ lw_ok := List.mem_filter.mpr ⟨List.mem_of_getElem? (i := 24) (by decide +kernel), rfl⟩
theorem wd_85 : (Jvm.Cond.initialized "StreamSplitter$Writer") ∈ lw_ok := List.mem_filter.mpr ⟨List.mem_of_getElem? (i := 85) (by decide +kernel), rfl⟩
theorem wd_989 : (Jvm.Cond.methodLink "StreamSplitter$Writer" (26 : Nat) ({ cls := "StreamSplitter$Writer", name := "beginPacket", desc := "()V" } : Jvm.MethodName)) ∈ lw_ok := List.mem_filter.mpr ⟨List.mem_of_getElem? (i := 989) (by decide +kernel), rfl⟩
theorem wd_991 : (Jvm.Cond.instanceMethod ({ cls := "StreamSplitter$Writer", name := "beginPacket", desc := "()V" } : Jvm.MethodName)) ∈ lw_ok := List.mem_filter.mpr ⟨List.mem_of_getElem? (i := 991) (by decide +kernel), rfl⟩
set_option maxRecDepth 100000 in
theorem wd_992 : (Jvm.Cond.code ({ cls := "StreamSplitter$Writer", name := "beginPacket", desc := "()V" } : Jvm.MethodName) prog_12_method_3_code (3 : Nat) (Option.none : Option Jvm.ClassFile.FieldType)) ∈ lw_ok := List.mem_filter.mpr ⟨List.mem_of_getElem? (i := 992) (by rfl), rfl⟩
theorem hd_Writer_beginPacket : y_Writer_beginPacket.cls ≠ "java/lang/invoke/MethodHandle" ∧ y_Writer_beginPacket.cls ≠ "java/lang/invoke/VarHandle" ∧ (parseMethodDescriptor y_Writer_beginPacket.desc).map (fun d => d.parameters.length) = some 0 := by decide +kernel
theorem d_Writer_putNumber_0 : decode b_Writer_putNumber 0 = .ok (.iload_n 3, 1) := by decide +kernel
theorem d_Writer_putNumber_1 : decode b_Writer_putNumber 1 = .ok (.iconst 1, 1) := by decide +kernel
theorem d_Writer_putNumber_2 : decode b_Writer_putNumber 2 = .ok (.isub, 1) := by decide +kernel
theorem d_Writer_putNumber_3 : decode b_Writer_putNumber 3 = .ok (.istore 4, 2) := by decide +kernel
theorem d_Writer_putNumber_5 : decode b_Writer_putNumber 5 = .ok (.iload 4, 2) := by decide +kernel
theorem d_Writer_putNumber_7 : decode b_Writer_putNumber 7 = .ok (.ifCond .lt 55, 3) := by decide +kernel
theorem d_Writer_putNumber_10 : decode b_Writer_putNumber 10 = .ok (.aload_n 0, 1) := by decide +kernel
theorem d_Writer_putNumber_11 : decode b_Writer_putNumber 11 = .ok (.getfield 23, 3) := by decide +kernel
theorem d_Writer_putNumber_14 : decode b_Writer_putNumber 14 = .ok (.ifCond .ne 7, 3) := by decide +kernel
theorem d_Writer_putNumber_17 : decode b_Writer_putNumber 17 = .ok (.aload_n 0, 1) := by decide +kernel
theorem d_Writer_putNumber_18 : decode b_Writer_putNumber 18 = .ok (.invokevirtual 26, 3) := by decide +kernel
theorem d_Writer_putNumber_21 : decode b_Writer_putNumber 21 = .ok (.aload_n 0, 1) := by decide +kernel
theorem d_Writer_putNumber_22 : decode b_Writer_putNumber 22 = .ok (.getfield 9, 3) := by decide +kernel
theorem d_Writer_putNumber_25 : decode b_Writer_putNumber 25 = .ok (.lload_n 1, 1) := by decide +kernel
theorem d_Writer_putNumber_26 : decode b_Writer_putNumber 26 = .ok (.bipush 8, 2) := by decide +kernel
theorem d_Writer_putNumber_28 : decode b_Writer_putNumber 28 = .ok (.iload 4, 2) := by decide +kernel
theorem d_Writer_putNumber_30 : decode b_Writer_putNumber 30 = .ok (.imul, 1) := by decide +kernel
theorem d_Writer_putNumber_31 : decode b_Writer_putNumber 31 = .ok (.lushr, 1) := by decide +kernel
theorem d_Writer_putNumber_32 : decode b_Writer_putNumber 32 = .ok (.l2i, 1) := by decide +kernel
theorem d_Writer_putNumber_33 : decode b_Writer_putNumber 33 = .ok (.invokevirtual 29, 3) := by decide +kernel
theorem d_Writer_putNumber_36 : decode b_Writer_putNumber 36 = .ok (.aload_n 0, 1) := by decide +kernel
theorem d_Writer_putNumber_37 : decode b_Writer_putNumber 37 = .ok (.dup, 1) := by decide +kernel
theorem d_Writer_putNumber_38 : decode b_Writer_putNumber 38 = .ok (.getfield 23, 3) := by decide +kernel
theorem d_Writer_putNumber_41 : decode b_Writer_putNumber 41 = .ok (.iconst 1, 1) := by decide +kernel
theorem d_Writer_putNumber_42 : decode b_Writer_putNumber 42 = .ok (.isub, 1) := by decide +kernel
theorem d_Writer_putNumber_43 : decode b_Writer_putNumber 43 = .ok (.putfield 23, 3) := by decide +kernel
theorem d_Writer_putNumber_46 : decode b_Writer_putNumber 46 = .ok (.aload_n 0, 1) := by decide +kernel
theorem d_Writer_putNumber_47 : decode b_Writer_putNumber 47 = .ok (.dup, 1) := by decide +kernel
theorem d_Writer_putNumber_48 : decode b_Writer_putNumber 48 = .ok (.getfield 19, 3) := by decide +kernel
theorem d_Writer_putNumber_51 : decode b_Writer_putNumber 51 = .ok (.iconst 1, 1) := by decide +kernel
theorem d_Writer_putNumber_52 : decode b_Writer_putNumber 52 = .ok (.isub, 1) := by decide +kernel
theorem d_Writer_putNumber_53 : decode b_Writer_putNumber 53 = .ok (.putfield 19, 3) := by decide +kernel
theorem d_Writer_putNumber_56 : decode b_Writer_putNumber 56 = .ok (.iinc 4 (-1), 3) := by decide +kernel
theorem d_Writer_putNumber_59 : decode b_Writer_putNumber 59 = .ok (.goto (-54), 3) := by decide +kernel
theorem d_Writer_putNumber_62 : decode b_Writer_putNumber 62 = .ok (.return_, 1) := by decide +kernel
theorem pn_bg {x : Int32} {n : Nat} (h : x = bgO n) : x = 0 ∨ x = 1 := by
  rw [h]
  unfold bgO
  by_cases c : n = 0
  · rw [if_pos c]; exact Or.inl rfl
  · rw [if_neg c]; exact Or.inr rfl
theorem pn_lt {pid w0 tot w1 : Nat} {T0 X : List Int32} {b : Bool} (hX : X.length < tot) (hT : T0.length + 188 * ((tot + 183) / 184) ≤ 9400) (c : X.length % 184 = 0) : ((T0 ++ ppL pid w0 tot 0 X) ++ hdL pid b w1 (min 184 (tot - X.length))).length < 9400 := by
  have h := pn_room (pid := pid) (w0 := w0) hX hT c
  rw [List.length_append, hd_len]
  omega

set_option maxHeartbeats 4000000 in
set_option maxRecDepth 100000 in
theorem c_Writer_putNumber (l : Launch) (D : va_G) (sz : Nat) (cB : ClassId) (w tp a : Nat) (q0 : WQ) (ss : Int32) (la : Nat) (nx se pi : Option Nat) (ct tw : Int32) (ck : Int64) (pid w0 tot : Nat) (T0 B : List Int32) (v : Int64) (c : Nat) (hq0 : WS pid w0 tot T0 B q0) (htot : tot ≤ 4100) (hT : T0.length + 188 * ((tot + 183) / 184) ≤ 9400) (hpid : pid < 8192) (hw0 : w0 < 2 ^ 29) (hB : B.length + c ≤ tot) (hc1 : 1 ≤ c) (hc : c ≤ 8) : Met l y_Writer_putNumber [Cond.code y_Writer_putNumber b_Writer_putNumber 5 none] ({ frames := 2, cells := 0, slots := 0, locals := 43 }) (zM [.ref w, .long v, .int (nI c)] D [(w, .inr (10, [.ref tp, .ref la, .int q0.2.2.1, .int q0.2.2.2.1, .int q0.2.2.2.2.1, .int ss])), (la, .inr (1, [.int (nI pid), va_rf nx, .int ct, .int tw, .long ck, .int q0.2.2.2.2.2, va_rf se, va_rf pi])), (tp, .inr (0, [.ref a, .int q0.2.1])), (a, .inl (cB, 9400, .inl q0.1))] [(cB, .byte)] sz) (va_Qv (fun (u : WQ) => WS pid w0 tot T0 (B ++ bsL v c) u) (fun (u : WQ) t => zW D (va_A [(w, .inr (10, [.ref tp, .ref la, .int q0.2.2.1, .int q0.2.2.2.1, .int q0.2.2.2.2.1, .int ss])), (la, .inr (1, [.int (nI pid), va_rf nx, .int ct, .int tw, .long ck, .int q0.2.2.2.2.2, va_rf se, va_rf pi])), (tp, .inr (0, [.ref a, .int q0.2.1])), (a, .inl (cB, 9400, .inl q0.1))] sz) [(w, .inr (10, [.ref tp, .ref la, .int u.2.2.1, .int u.2.2.2.1, .int u.2.2.2.2.1, .int ss])), (la, .inr (1, [.int (nI pid), va_rf nx, .int ct, .int tw, .long ck, .int u.2.2.2.2.2, va_rf se, va_rf pi])), (tp, .inr (0, [.ref a, .int u.2.1])), (a, .inl (cB, 9400, .inl u.1))] [(cB, .byte)] t) (va_A [(w, .inr (10, [.ref tp, .ref la, .int q0.2.2.1, .int q0.2.2.2.1, .int q0.2.2.2.2.1, .int ss])), (la, .inr (1, [.int (nI pid), va_rf nx, .int ct, .int tw, .long ck, .int q0.2.2.2.2.2, va_rf se, va_rf pi])), (tp, .inr (0, [.ref a, .int q0.2.1])), (a, .inl (cB, 9400, .inl q0.1))] sz)) 0 0 (va_A [(w, .inr (10, [.ref tp, .ref la, .int q0.2.2.1, .int q0.2.2.2.1, .int q0.2.2.2.2.1, .int ss])), (la, .inr (1, [.int (nI pid), va_rf nx, .int ct, .int tw, .long ck, .int q0.2.2.2.2.2, va_rf se, va_rf pi])), (tp, .inr (0, [.ref a, .int q0.2.1])), (a, .inl (cB, 9400, .inl q0.1))] sz) := by
  refine Met.ofW (cc := b_Writer_putNumber) (maxL := 5) (ret := none) (by decide) rfl ?_
  intro p e s m args below meth cd s₁ Bd hml hv
  obtain ⟨rfl, hsz, hP, hK, hN, hD0⟩ := hv
  have hx := Bd.exec
  have hb := Bd.bytes
  have hr := Bd.returns
  have hts := hN.use (a := ([.ref w, .long v, .int (nI c)]).toArray)
  have hown : s.vm.findClass R_Writer = some m.cls := findClass_of_methodNamed Bd.named
  have hlocks := Bd.notSynchronized
  subst hsz
  have hD := hD0.self (sz := s.heap.size)
  clear hD0
  have hA : ∀ q : Nat, s.heap.size ≤ q → va_A [(w, .inr (10, [.ref tp, .ref la, .int q0.2.2.1, .int q0.2.2.2.1, .int q0.2.2.2.2.1, .int ss])), (la, .inr (1, [.int (nI pid), va_rf nx, .int ct, .int tw, .long ck, .int q0.2.2.2.2.2, va_rf se, va_rf pi])), (tp, .inr (0, [.ref a, .int q0.2.1])), (a, .inl (cB, 9400, .inl q0.1))] s.heap.size q := fun q h => Or.inr h
  have hS : va_S (va_A [(w, .inr (10, [.ref tp, .ref la, .int q0.2.2.1, .int q0.2.2.2.1, .int q0.2.2.2.2.1, .int ss])), (la, .inr (1, [.int (nI pid), va_rf nx, .int ct, .int tw, .long ck, .int q0.2.2.2.2.2, va_rf se, va_rf pi])), (tp, .inr (0, [.ref a, .int q0.2.1])), (a, .inl (cB, 9400, .inl q0.1))] s.heap.size) s.heap s.heap [] := va_S.rf
  generalize hAe : va_A [(w, .inr (10, [.ref tp, .ref la, .int q0.2.2.1, .int q0.2.2.2.1, .int q0.2.2.2.2.1, .int ss])), (la, .inr (1, [.int (nI pid), va_rf nx, .int ct, .int tw, .long ck, .int q0.2.2.2.2.2, va_rf se, va_rf pi])), (tp, .inr (0, [.ref a, .int q0.2.1])), (a, .inl (cB, 9400, .inl q0.1))] s.heap.size = A at hD hA hS ⊢
  have hP : va_P D classes [(w, .inr (10, [.ref tp, .ref la, .int q0.2.2.1, .int q0.2.2.2.1, .int q0.2.2.2.2.1, .int ss])), (la, .inr (1, [.int (nI pid), va_rf nx, .int ct, .int tw, .long ck, .int q0.2.2.2.2.2, va_rf se, va_rf pi])), (tp, .inr (0, [.ref a, .int q0.2.1])), (a, .inl (cB, 9400, .inl q0.1))] s.heap := hP
  have hl := lv_entry ([.ref w, .long v, .int (nI c)]) (n := 5) (Nat.le_of_ble_eq_true rfl)
  rw [lg_entry_eq]
  generalize (lg_sl ([.ref w, .long v, .int (nI c)]) ++ List.replicate (5 - (lg_sl ([.ref w, .long v, .int (nI c)])).length) Slot.unset).toArray = ls at hl ⊢
  have hl : lv_has ls 5 [(0, .ref w), (1, .long v), (3, .int (nI c))] := hl
  refine lv_iload_n hx hb d_Writer_putNumber_0 rfl (lv_at hl 2 rfl) ?_
  refine lv_iconst (v := 1) hx hb d_Writer_putNumber_1 (by decide) ?_
  refine lv_isub hx hb d_Writer_putNumber_2 ?_
  refine z_topi (w := nI c - 1) rfl ?_
  refine lv_istore (lv' := [(4, .int (nI c - 1)), (0, .ref w), (1, .long v), (3, .int (nI c))]) hx hb d_Writer_putNumber_3 hl (by decide) rfl (fun ls hl => ?_)
  have loop5 : ∀ (N : Nat) (m9 : Nat) (X : List Int32) (q : WQ) (H : Heap) (locs : List Loc) (ls : Array Slot) (hm : m9 < N) (hm9 : m9 ≤ c) (hX : X = B ++ (bsL v c).take (c - m9)) (hq : WS pid w0 tot T0 X q) (hl : lv_has ls 5 [(0, .ref w), (1, .long v), (4, .int (nI m9 - 1))]) (hP : va_P D classes [(w, .inr (10, [.ref tp, .ref la, .int q.2.2.1, .int q.2.2.2.1, .int q.2.2.2.2.1, .int ss])), (la, .inr (1, [.int (nI pid), va_rf nx, .int ct, .int tw, .long ck, .int q.2.2.2.2.2, va_rf se, va_rf pi])), (tp, .inr (0, [.ref a, .int q.2.1])), (a, .inl (cB, 9400, .inl q.1))] H) (hD : va_D A [(w, .inr (10, [.ref tp, .ref la, .int q.2.2.1, .int q.2.2.2.1, .int q.2.2.2.2.1, .int ss])), (la, .inr (1, [.int (nI pid), va_rf nx, .int ct, .int tw, .long ck, .int q.2.2.2.2.2, va_rf se, va_rf pi])), (tp, .inr (0, [.ref a, .int q.2.1])), (a, .inl (cB, 9400, .inl q.1))]) (hS : va_S A s.heap H locs), W p l e ({ frames := 2, cells := 0, slots := 0, locals := 43 }) s m ([.ref w, .long v, .int (nI c)]).toArray below meth cd H locs 0 0 (MQ below (va_Qv (fun (u : WQ) => WS pid w0 tot T0 (B ++ bsL v c) u) (fun (u : WQ) t => zW D (A) [(w, .inr (10, [.ref tp, .ref la, .int u.2.2.1, .int u.2.2.2.1, .int u.2.2.2.2.1, .int ss])), (la, .inr (1, [.int (nI pid), va_rf nx, .int ct, .int tw, .long ck, .int u.2.2.2.2.2, va_rf se, va_rf pi])), (tp, .inr (0, [.ref a, .int u.2.1])), (a, .inl (cB, 9400, .inl u.1))] [(cB, .byte)] t) (A)) ([.ref w, .long v, .int (nI c)]).toArray s 0 0 (A)) (F0 m 5 ls []) := by
    intro N5
    induction N5 with
    | zero => intro m9 X q H locs ls hm hm9 hX hq hl hP hD hS; exact absurd hm (Nat.not_lt_zero _)
    | succ N5 ih5 =>
      intro m9 X q H locs ls hm hm9 hX hq hl hP hD hS
      refine lv_iload hx hb d_Writer_putNumber_5 (lv_at hl 2 rfl) ?_
      refine lv_if_lt (tgt := 62) hx hb d_Writer_putNumber_7 rfl (fun h7 => ?_) (fun h7 => ?_)
      · obtain rfl : m9 = 0 := pm_out (by omega) h7
        have hP9 := hP.sub (ws' := [(w, .inr (10, [.ref tp, .ref la, .int q.2.2.1, .int q.2.2.2.1, .int q.2.2.2.2.1, .int ss])), (la, .inr (1, [.int (nI pid), va_rf nx, .int ct, .int tw, .long ck, .int q.2.2.2.2.2, va_rf se, va_rf pi])), (tp, .inr (0, [.ref a, .int q.2.1])), (a, .inl (cB, 9400, .inl q.1))]) [0, 1, 2, 3] rfl
        have hD9 := hD.sub (ws' := [(w, .inr (10, [.ref tp, .ref la, .int q.2.2.1, .int q.2.2.2.1, .int q.2.2.2.2.1, .int ss])), (la, .inr (1, [.int (nI pid), va_rf nx, .int ct, .int tw, .long ck, .int q.2.2.2.2.2, va_rf se, va_rf pi])), (tp, .inr (0, [.ref a, .int q.2.1])), (a, .inl (cB, 9400, .inl q.1))]) [0, 1, 2, 3] (by decide) rfl
        have hK9 := hK.sub (tys' := [(cB, .byte)]) [0] rfl
        exact W.vret hx hb hr (fun t ht hW => ⟨⟨q, rfl, (by dsimp only; rw [hX, Nat.sub_zero, show (bsL v c).take c = bsL v c from List.take_of_length_le (by rw [bs_len]; exact Nat.le_refl _)] at hq; exact hq), ⟨by rw [ht]; exact hP9, va_K.moved hW.alike hK9, hD9⟩⟩, hS.F ht⟩) hS.2.2 d_Writer_putNumber_62
      · obtain ⟨k, hk⟩ := pm_in (by omega) h7
        subst hk
        have hlX : X.length < tot := by rw [hX, List.length_append, List.length_take, bs_len]; omega
        have hqn := hq.2.1
        have hql := hq.2.2.1
        have hqr := hq.2.2.2.1
        have hqw := hq.2.2.2.2.2
        refine lv_aload_n hx hb d_Writer_putNumber_10 rfl (lv_at hl 0 rfl) ?_
        refine va_get (D := D) (ci := 10) (v := .int q.2.2.2.1) (C := R_Writer) (T := F_Writer) (N := 6) hx hb hts i_Writer hown hK hP 0 rfl rfl 3 (by decide) (hts _ wd_955) (fun _ h9 => h9) rfl d_Writer_putNumber_11 ?_
        refine lv_if_ne (tgt := 21) hx hb d_Writer_putNumber_14 rfl (fun h14 => ?_) (fun h14 => ?_)
        · have h14 := rm_n (by rw [← hqr]; exact h14)
          refine lv_aload_n hx hb d_Writer_putNumber_21 rfl (lv_at hl 0 rfl) ?_
          refine va_get (D := D) (ci := 10) (v := .ref tp) (C := R_Writer) (T := F_Writer) (N := 6) hx hb hts i_Writer hown hK hP 0 rfl rfl 0 (by decide) (hts _ wd_952) (fun _ h9 => h9) rfl d_Writer_putNumber_22 ?_
          refine lv_lload_n hx hb d_Writer_putNumber_25 rfl (lv_at hl 1 rfl) ?_
          refine lv_bipush (v := 8) hx hb d_Writer_putNumber_26 (by decide) ?_
          refine lv_iload hx hb d_Writer_putNumber_28 (lv_at hl 2 rfl) ?_
          refine z_topi (w := nI k) (nI_pred k) ?_
          refine lv_imul hx hb d_Writer_putNumber_30 ?_
          refine lv_lushr (v := (v.toUInt64 >>> ((8 * (nI k)).toInt64.toUInt64 &&& Int64.toUInt64 63)).toInt64) hx hb d_Writer_putNumber_31 rfl ?_
          refine lv_l2i (v := ((v.toUInt64 >>> ((8 * (nI k)).toInt64.toUInt64 &&& Int64.toUInt64 63)).toInt64).toInt32) hx hb d_Writer_putNumber_32 rfl ?_
          refine z_topi (w := nb v k) rfl ?_
          rw [hqn] at hP hD
          have hPc := hP.sub (ws' := [(tp, .inr (0, [.ref a, .int (nI ((T0 ++ ppL pid w0 tot 0 X)).length)])), (a, .inl (cB, 9400, .inl q.1))]) [2, 3] rfl
          have hKc := hK.sub (tys' := [(cB, .byte)]) [0] rfl
          have hDc := hD.sub (ws' := [(tp, .inr (0, [.ref a, .int (nI ((T0 ++ ppL pid w0 tot 0 X)).length)])), (a, .inl (cB, 9400, .inl q.1))]) [2, 3] (by decide) rfl
          have hFc := va_free (wc := [(tp, .inr (0, [.ref a, .int (nI ((T0 ++ ppL pid w0 tot 0 X)).length)])), (a, .inl (cB, 9400, .inl q.1))]) hD hS hA [2, 3] rfl
          refine va_callv (va_runV (As := [.int (nb v k)]) (rest := []) ⟨hx, hb, hml, hown, hts⟩ (c_Row_addL l D H.size cB tp a 9400 (T0 ++ ppL pid w0 tot 0 X) q.1 (nb v k) (by omega) (pn_room2 hlX hT h14) hq.1) (z_cV hN wd_538 wd_61 wd_994 hd_Row_add rfl rfl ⟨Nat.le_of_ble_eq_true rfl, Nat.le_of_ble_eq_true rfl⟩ wd_536 wd_537) (z_preVm (va_recv (ci := 0) (q0 := 2) hK hP rfl rfl) hPc hKc hN hDc) rfl rfl hl.1 rfl (lv_room (Nat.le_of_ble_eq_true rfl)) d_Writer_putNumber_33 ⟨Nat.le_of_ble_eq_true rfl, Nat.le_of_ble_eq_true rfl⟩) hS (fun q _ h => hFc q h) hFc (fun f33 t H locs ht hvm e33 hB hz1 hk1 hS => ?_)
          obtain ⟨hP1, hK1, hD1⟩ := hB
          rw [ht] at hP1
          obtain ⟨hP, hD⟩ := va_join (wr := [(w, .inr (10, [.ref tp, .ref la, .int q.2.2.1, .int q.2.2.2.1, .int q.2.2.2.2.1, .int ss])), (la, .inr (1, [.int (nI pid), va_rf nx, .int ct, .int tw, .long ck, .int q.2.2.2.2.2, va_rf se, va_rf pi]))]) (w1 := [(tp, .inr (0, [.ref a, .int (nI ((T0 ++ ppL pid w0 tot 0 X) ++ [(nb v k) &&& 255]).length)])), (a, .inl (cB, 9400, .inl f33))]) hP hD [2, 3] [0, 1] rfl rfl (by decide) (by decide) hk1 hFc hP1 hD1
          clear hk1 hP1 hD1 hFc hPc hDc hz1
          have hP : va_P D classes [(w, .inr (10, [.ref tp, .ref la, .int q.2.2.1, .int q.2.2.2.1, .int q.2.2.2.2.1, .int ss])), (la, .inr (1, [.int (nI pid), va_rf nx, .int ct, .int tw, .long ck, .int q.2.2.2.2.2, va_rf se, va_rf pi])), (tp, .inr (0, [.ref a, .int (nI ((T0 ++ ppL pid w0 tot 0 X) ++ [(nb v k) &&& 255]).length)])), (a, .inl (cB, 9400, .inl f33))] H := hP
          have hD : va_D A [(w, .inr (10, [.ref tp, .ref la, .int q.2.2.1, .int q.2.2.2.1, .int q.2.2.2.2.1, .int ss])), (la, .inr (1, [.int (nI pid), va_rf nx, .int ct, .int tw, .long ck, .int q.2.2.2.2.2, va_rf se, va_rf pi])), (tp, .inr (0, [.ref a, .int (nI ((T0 ++ ppL pid w0 tot 0 X) ++ [(nb v k) &&& 255]).length)])), (a, .inl (cB, 9400, .inl f33))] := hD
          refine lv_aload_n hx hb d_Writer_putNumber_36 rfl (lv_at hl 0 rfl) ?_
          refine lv_dup hx hb d_Writer_putNumber_37 rfl ?_
          refine va_get (D := D) (ci := 10) (v := .int q.2.2.2.1) (C := R_Writer) (T := F_Writer) (N := 6) hx hb hts i_Writer hown hK hP 0 rfl rfl 3 (by decide) (hts _ wd_955) (fun _ h9 => h9) rfl d_Writer_putNumber_38 ?_
          refine lv_iconst (v := 1) hx hb d_Writer_putNumber_41 (by decide) ?_
          refine lv_isub hx hb d_Writer_putNumber_42 ?_
          refine va_put (D := D) (ci := 10) (v := .int (q.2.2.2.1 - 1)) (ty := .int) (C := R_Writer) (T := F_Writer) (N := 6) hx hb hts i_Writer t_Writer t_Writer_ok n_Writer hown hK hP hD hS 0 rfl rfl 3 (by decide) (hts _ wd_955) (fun _ h9 => h9) rfl (by decide +kernel) rfl rfl (Nat.le_of_ble_eq_true rfl) d_Writer_putNumber_43 (fun H locs hP hD hS => ?_)
          have hP : va_P D classes [(w, .inr (10, [.ref tp, .ref la, .int q.2.2.1, .int (q.2.2.2.1 - 1), .int q.2.2.2.2.1, .int ss])), (la, .inr (1, [.int (nI pid), va_rf nx, .int ct, .int tw, .long ck, .int q.2.2.2.2.2, va_rf se, va_rf pi])), (tp, .inr (0, [.ref a, .int (nI ((T0 ++ ppL pid w0 tot 0 X) ++ [(nb v k) &&& 255]).length)])), (a, .inl (cB, 9400, .inl f33))] H := hP
          have hD : va_D A [(w, .inr (10, [.ref tp, .ref la, .int q.2.2.1, .int (q.2.2.2.1 - 1), .int q.2.2.2.2.1, .int ss])), (la, .inr (1, [.int (nI pid), va_rf nx, .int ct, .int tw, .long ck, .int q.2.2.2.2.2, va_rf se, va_rf pi])), (tp, .inr (0, [.ref a, .int (nI ((T0 ++ ppL pid w0 tot 0 X) ++ [(nb v k) &&& 255]).length)])), (a, .inl (cB, 9400, .inl f33))] := hD
          refine lv_aload_n hx hb d_Writer_putNumber_46 rfl (lv_at hl 0 rfl) ?_
          refine lv_dup hx hb d_Writer_putNumber_47 rfl ?_
          refine va_get (D := D) (ci := 10) (v := .int q.2.2.1) (C := R_Writer) (T := F_Writer) (N := 6) hx hb hts i_Writer hown hK hP 0 rfl rfl 2 (by decide) (hts _ wd_954) (fun _ h9 => h9) rfl d_Writer_putNumber_48 ?_
          refine lv_iconst (v := 1) hx hb d_Writer_putNumber_51 (by decide) ?_
          refine lv_isub hx hb d_Writer_putNumber_52 ?_
          refine va_put (D := D) (ci := 10) (v := .int (q.2.2.1 - 1)) (ty := .int) (C := R_Writer) (T := F_Writer) (N := 6) hx hb hts i_Writer t_Writer t_Writer_ok n_Writer hown hK hP hD hS 0 rfl rfl 2 (by decide) (hts _ wd_954) (fun _ h9 => h9) rfl (by decide +kernel) rfl rfl (Nat.le_of_ble_eq_true rfl) d_Writer_putNumber_53 (fun H locs hP hD hS => ?_)
          have hP : va_P D classes [(w, .inr (10, [.ref tp, .ref la, .int (q.2.2.1 - 1), .int (q.2.2.2.1 - 1), .int q.2.2.2.2.1, .int ss])), (la, .inr (1, [.int (nI pid), va_rf nx, .int ct, .int tw, .long ck, .int q.2.2.2.2.2, va_rf se, va_rf pi])), (tp, .inr (0, [.ref a, .int (nI ((T0 ++ ppL pid w0 tot 0 X) ++ [(nb v k) &&& 255]).length)])), (a, .inl (cB, 9400, .inl f33))] H := hP
          have hD : va_D A [(w, .inr (10, [.ref tp, .ref la, .int (q.2.2.1 - 1), .int (q.2.2.2.1 - 1), .int q.2.2.2.2.1, .int ss])), (la, .inr (1, [.int (nI pid), va_rf nx, .int ct, .int tw, .long ck, .int q.2.2.2.2.2, va_rf se, va_rf pi])), (tp, .inr (0, [.ref a, .int (nI ((T0 ++ ppL pid w0 tot 0 X) ++ [(nb v k) &&& 255]).length)])), (a, .inl (cB, 9400, .inl f33))] := hD
          refine lv_iinc (k := 2) (v := nI k - 1) (lv' := [(4, .int (nI k - 1)), (0, .ref w), (1, .long v)]) hx hb d_Writer_putNumber_56 hl rfl (pm_dec k) (by decide) rfl (fun ls hl => ?_)
          refine lv_goto (tgt := 5) hx hb d_Writer_putNumber_59 rfl ?_
          rw [nb_pb v (by omega)] at hP hD e33
          exact ih5 k (X ++ [pb v k]) (f33, nI ((T0 ++ ppL pid w0 tot 0 X) ++ [pb v k]).length, q.2.2.1 - 1, q.2.2.2.1 - 1, q.2.2.2.2.1, q.2.2.2.2.2) H locs ls (by omega) (by omega) (by rw [hX, bs_take v (show k < c by omega), List.append_assoc]) (pn_1 hq hlX h14 e33) (lv_sub hl [1, 2, 0] rfl) hP hD hS
        · have h14 := rm_0 hlX (by rw [← hqr]; exact h14)
          refine lv_aload_n hx hb d_Writer_putNumber_17 rfl (lv_at hl 0 rfl) ?_
          rw [hqn, hql, hqw] at hP hD
          have hPc := hP.sub (ws' := [(w, .inr (10, [.ref tp, .ref la, .int (nI (tot - X.length)), .int q.2.2.2.1, .int q.2.2.2.2.1, .int ss])), (la, .inr (1, [.int (nI pid), va_rf nx, .int ct, .int tw, .long ck, .int (nI (w0 + (X.length + 183) / 184)), va_rf se, va_rf pi])), (tp, .inr (0, [.ref a, .int (nI ((T0 ++ ppL pid w0 tot 0 X)).length)])), (a, .inl (cB, 9400, .inl q.1))]) [0, 1, 2, 3] rfl
          have hKc := hK.sub (tys' := [(cB, .byte)]) [0] rfl
          have hDc := hD.sub (ws' := [(w, .inr (10, [.ref tp, .ref la, .int (nI (tot - X.length)), .int q.2.2.2.1, .int q.2.2.2.2.1, .int ss])), (la, .inr (1, [.int (nI pid), va_rf nx, .int ct, .int tw, .long ck, .int (nI (w0 + (X.length + 183) / 184)), va_rf se, va_rf pi])), (tp, .inr (0, [.ref a, .int (nI ((T0 ++ ppL pid w0 tot 0 X)).length)])), (a, .inl (cB, 9400, .inl q.1))]) [0, 1, 2, 3] (by decide) rfl
          have hFc := va_free (wc := [(w, .inr (10, [.ref tp, .ref la, .int (nI (tot - X.length)), .int q.2.2.2.1, .int q.2.2.2.2.1, .int ss])), (la, .inr (1, [.int (nI pid), va_rf nx, .int ct, .int tw, .long ck, .int (nI (w0 + (X.length + 183) / 184)), va_rf se, va_rf pi])), (tp, .inr (0, [.ref a, .int (nI ((T0 ++ ppL pid w0 tot 0 X)).length)])), (a, .inl (cB, 9400, .inl q.1))]) hD hS hA [0, 1, 2, 3] rfl
          refine va_callv (va_runV (As := []) (rest := []) ⟨hx, hb, hml, hown, hts⟩ (c_Writer_beginPacket l D H.size cB w tp a (T0 ++ ppL pid w0 tot 0 X) q.1 (tot - X.length) (min 184 (tot - X.length)) q.2.2.2.1 q.2.2.2.2.1 ss la pid (w0 + (X.length + 183) / 184) nx se pi ct tw ck hq.1 (by omega) (by omega) rfl hpid (by omega) (pn_room hlX hT h14) (pn_bg hq.2.2.2.2.1)) (z_cV hN wd_992 wd_85 wd_989 hd_Writer_beginPacket rfl rfl ⟨Nat.le_of_ble_eq_true rfl, Nat.le_of_ble_eq_true rfl⟩ wd_991 wd_24) (z_preVm (va_recv (ci := 10) (q0 := 0) hK hP rfl rfl) hPc hKc hN hDc) rfl rfl hl.1 rfl (lv_room (Nat.le_of_ble_eq_true rfl)) d_Writer_putNumber_18 ⟨Nat.le_of_ble_eq_true rfl, Nat.le_of_ble_eq_true rfl⟩) hS (fun q _ h => hFc q h) hFc (fun f18 t H locs ht hvm e18 hB hz1 hk1 hS => ?_)
          obtain ⟨hP1, hK1, hD1⟩ := hB
          rw [ht] at hP1
          obtain ⟨hP, hD⟩ := va_join (wr := []) (w1 := [(w, .inr (10, [.ref tp, .ref la, .int (nI (tot - X.length)), .int (nI (min 184 (tot - X.length))), .int 1, .int ss])), (la, .inr (1, [.int (nI pid), va_rf nx, .int ct, .int tw, .long ck, .int (nI ((w0 + (X.length + 183) / 184) + 1)), va_rf se, va_rf pi])), (tp, .inr (0, [.ref a, .int (nI ((T0 ++ ppL pid w0 tot 0 X) ++ hdL pid (decide (q.2.2.2.2.1 = 0)) (w0 + (X.length + 183) / 184) (min 184 (tot - X.length))).length)])), (a, .inl (cB, 9400, .inl f18))]) hP hD [0, 1, 2, 3] [] rfl rfl (by decide) (by decide) hk1 hFc hP1 hD1
          clear hk1 hP1 hD1 hFc hPc hDc hz1
          have hP : va_P D classes [(w, .inr (10, [.ref tp, .ref la, .int (nI (tot - X.length)), .int (nI (min 184 (tot - X.length))), .int 1, .int ss])), (la, .inr (1, [.int (nI pid), va_rf nx, .int ct, .int tw, .long ck, .int (nI ((w0 + (X.length + 183) / 184) + 1)), va_rf se, va_rf pi])), (tp, .inr (0, [.ref a, .int (nI ((T0 ++ ppL pid w0 tot 0 X) ++ hdL pid (decide (q.2.2.2.2.1 = 0)) (w0 + (X.length + 183) / 184) (min 184 (tot - X.length))).length)])), (a, .inl (cB, 9400, .inl f18))] H := hP
          have hD : va_D A [(w, .inr (10, [.ref tp, .ref la, .int (nI (tot - X.length)), .int (nI (min 184 (tot - X.length))), .int 1, .int ss])), (la, .inr (1, [.int (nI pid), va_rf nx, .int ct, .int tw, .long ck, .int (nI ((w0 + (X.length + 183) / 184) + 1)), va_rf se, va_rf pi])), (tp, .inr (0, [.ref a, .int (nI ((T0 ++ ppL pid w0 tot 0 X) ++ hdL pid (decide (q.2.2.2.2.1 = 0)) (w0 + (X.length + 183) / 184) (min 184 (tot - X.length))).length)])), (a, .inl (cB, 9400, .inl f18))] := hD
          refine lv_aload_n hx hb d_Writer_putNumber_21 rfl (lv_at hl 0 rfl) ?_
          refine va_get (D := D) (ci := 10) (v := .ref tp) (C := R_Writer) (T := F_Writer) (N := 6) hx hb hts i_Writer hown hK hP 0 rfl rfl 0 (by decide) (hts _ wd_952) (fun _ h9 => h9) rfl d_Writer_putNumber_22 ?_
          refine lv_lload_n hx hb d_Writer_putNumber_25 rfl (lv_at hl 1 rfl) ?_
          refine lv_bipush (v := 8) hx hb d_Writer_putNumber_26 (by decide) ?_
          refine lv_iload hx hb d_Writer_putNumber_28 (lv_at hl 2 rfl) ?_
          refine z_topi (w := nI k) (nI_pred k) ?_
          refine lv_imul hx hb d_Writer_putNumber_30 ?_
          refine lv_lushr (v := (v.toUInt64 >>> ((8 * (nI k)).toInt64.toUInt64 &&& Int64.toUInt64 63)).toInt64) hx hb d_Writer_putNumber_31 rfl ?_
          refine lv_l2i (v := ((v.toUInt64 >>> ((8 * (nI k)).toInt64.toUInt64 &&& Int64.toUInt64 63)).toInt64).toInt32) hx hb d_Writer_putNumber_32 rfl ?_
          refine z_topi (w := nb v k) rfl ?_
          have hPc := hP.sub (ws' := [(tp, .inr (0, [.ref a, .int (nI (((T0 ++ ppL pid w0 tot 0 X) ++ hdL pid (decide (q.2.2.2.2.1 = 0)) (w0 + (X.length + 183) / 184) (min 184 (tot - X.length)))).length)])), (a, .inl (cB, 9400, .inl f18))]) [2, 3] rfl
          have hKc := hK.sub (tys' := [(cB, .byte)]) [0] rfl
          have hDc := hD.sub (ws' := [(tp, .inr (0, [.ref a, .int (nI (((T0 ++ ppL pid w0 tot 0 X) ++ hdL pid (decide (q.2.2.2.2.1 = 0)) (w0 + (X.length + 183) / 184) (min 184 (tot - X.length)))).length)])), (a, .inl (cB, 9400, .inl f18))]) [2, 3] (by decide) rfl
          have hFc := va_free (wc := [(tp, .inr (0, [.ref a, .int (nI (((T0 ++ ppL pid w0 tot 0 X) ++ hdL pid (decide (q.2.2.2.2.1 = 0)) (w0 + (X.length + 183) / 184) (min 184 (tot - X.length)))).length)])), (a, .inl (cB, 9400, .inl f18))]) hD hS hA [2, 3] rfl
          refine va_callv (va_runV (As := [.int (nb v k)]) (rest := []) ⟨hx, hb, hml, hown, hts⟩ (c_Row_addL l D H.size cB tp a 9400 ((T0 ++ ppL pid w0 tot 0 X) ++ hdL pid (decide (q.2.2.2.2.1 = 0)) (w0 + (X.length + 183) / 184) (min 184 (tot - X.length))) f18 (nb v k) (by omega) (pn_lt hlX hT h14) e18) (z_cV hN wd_538 wd_61 wd_994 hd_Row_add rfl rfl ⟨Nat.le_of_ble_eq_true rfl, Nat.le_of_ble_eq_true rfl⟩ wd_536 wd_537) (z_preVm (va_recv (ci := 0) (q0 := 2) hK hP rfl rfl) hPc hKc hN hDc) rfl rfl hl.1 rfl (lv_room (Nat.le_of_ble_eq_true rfl)) d_Writer_putNumber_33 ⟨Nat.le_of_ble_eq_true rfl, Nat.le_of_ble_eq_true rfl⟩) hS (fun q _ h => hFc q h) hFc (fun f33 t H locs ht hvm e33 hB hz1 hk1 hS => ?_)
          obtain ⟨hP1, hK1, hD1⟩ := hB
          rw [ht] at hP1
          obtain ⟨hP, hD⟩ := va_join (wr := [(w, .inr (10, [.ref tp, .ref la, .int (nI (tot - X.length)), .int (nI (min 184 (tot - X.length))), .int 1, .int ss])), (la, .inr (1, [.int (nI pid), va_rf nx, .int ct, .int tw, .long ck, .int (nI ((w0 + (X.length + 183) / 184) + 1)), va_rf se, va_rf pi]))]) (w1 := [(tp, .inr (0, [.ref a, .int (nI (((T0 ++ ppL pid w0 tot 0 X) ++ hdL pid (decide (q.2.2.2.2.1 = 0)) (w0 + (X.length + 183) / 184) (min 184 (tot - X.length))) ++ [(nb v k) &&& 255]).length)])), (a, .inl (cB, 9400, .inl f33))]) hP hD [2, 3] [0, 1] rfl rfl (by decide) (by decide) hk1 hFc hP1 hD1
          clear hk1 hP1 hD1 hFc hPc hDc hz1
          have hP : va_P D classes [(w, .inr (10, [.ref tp, .ref la, .int (nI (tot - X.length)), .int (nI (min 184 (tot - X.length))), .int 1, .int ss])), (la, .inr (1, [.int (nI pid), va_rf nx, .int ct, .int tw, .long ck, .int (nI ((w0 + (X.length + 183) / 184) + 1)), va_rf se, va_rf pi])), (tp, .inr (0, [.ref a, .int (nI (((T0 ++ ppL pid w0 tot 0 X) ++ hdL pid (decide (q.2.2.2.2.1 = 0)) (w0 + (X.length + 183) / 184) (min 184 (tot - X.length))) ++ [(nb v k) &&& 255]).length)])), (a, .inl (cB, 9400, .inl f33))] H := hP
          have hD : va_D A [(w, .inr (10, [.ref tp, .ref la, .int (nI (tot - X.length)), .int (nI (min 184 (tot - X.length))), .int 1, .int ss])), (la, .inr (1, [.int (nI pid), va_rf nx, .int ct, .int tw, .long ck, .int (nI ((w0 + (X.length + 183) / 184) + 1)), va_rf se, va_rf pi])), (tp, .inr (0, [.ref a, .int (nI (((T0 ++ ppL pid w0 tot 0 X) ++ hdL pid (decide (q.2.2.2.2.1 = 0)) (w0 + (X.length + 183) / 184) (min 184 (tot - X.length))) ++ [(nb v k) &&& 255]).length)])), (a, .inl (cB, 9400, .inl f33))] := hD
          refine lv_aload_n hx hb d_Writer_putNumber_36 rfl (lv_at hl 0 rfl) ?_
          refine lv_dup hx hb d_Writer_putNumber_37 rfl ?_
          refine va_get (D := D) (ci := 10) (v := .int (nI (min 184 (tot - X.length)))) (C := R_Writer) (T := F_Writer) (N := 6) hx hb hts i_Writer hown hK hP 0 rfl rfl 3 (by decide) (hts _ wd_955) (fun _ h9 => h9) rfl d_Writer_putNumber_38 ?_
          refine lv_iconst (v := 1) hx hb d_Writer_putNumber_41 (by decide) ?_
          refine lv_isub hx hb d_Writer_putNumber_42 ?_
          refine va_put (D := D) (ci := 10) (v := .int ((nI (min 184 (tot - X.length))) - 1)) (ty := .int) (C := R_Writer) (T := F_Writer) (N := 6) hx hb hts i_Writer t_Writer t_Writer_ok n_Writer hown hK hP hD hS 0 rfl rfl 3 (by decide) (hts _ wd_955) (fun _ h9 => h9) rfl (by decide +kernel) rfl rfl (Nat.le_of_ble_eq_true rfl) d_Writer_putNumber_43 (fun H locs hP hD hS => ?_)
          have hP : va_P D classes [(w, .inr (10, [.ref tp, .ref la, .int (nI (tot - X.length)), .int ((nI (min 184 (tot - X.length))) - 1), .int 1, .int ss])), (la, .inr (1, [.int (nI pid), va_rf nx, .int ct, .int tw, .long ck, .int (nI ((w0 + (X.length + 183) / 184) + 1)), va_rf se, va_rf pi])), (tp, .inr (0, [.ref a, .int (nI (((T0 ++ ppL pid w0 tot 0 X) ++ hdL pid (decide (q.2.2.2.2.1 = 0)) (w0 + (X.length + 183) / 184) (min 184 (tot - X.length))) ++ [(nb v k) &&& 255]).length)])), (a, .inl (cB, 9400, .inl f33))] H := hP
          have hD : va_D A [(w, .inr (10, [.ref tp, .ref la, .int (nI (tot - X.length)), .int ((nI (min 184 (tot - X.length))) - 1), .int 1, .int ss])), (la, .inr (1, [.int (nI pid), va_rf nx, .int ct, .int tw, .long ck, .int (nI ((w0 + (X.length + 183) / 184) + 1)), va_rf se, va_rf pi])), (tp, .inr (0, [.ref a, .int (nI (((T0 ++ ppL pid w0 tot 0 X) ++ hdL pid (decide (q.2.2.2.2.1 = 0)) (w0 + (X.length + 183) / 184) (min 184 (tot - X.length))) ++ [(nb v k) &&& 255]).length)])), (a, .inl (cB, 9400, .inl f33))] := hD
          refine lv_aload_n hx hb d_Writer_putNumber_46 rfl (lv_at hl 0 rfl) ?_
          refine lv_dup hx hb d_Writer_putNumber_47 rfl ?_
          refine va_get (D := D) (ci := 10) (v := .int (nI (tot - X.length))) (C := R_Writer) (T := F_Writer) (N := 6) hx hb hts i_Writer hown hK hP 0 rfl rfl 2 (by decide) (hts _ wd_954) (fun _ h9 => h9) rfl d_Writer_putNumber_48 ?_
          refine lv_iconst (v := 1) hx hb d_Writer_putNumber_51 (by decide) ?_
          refine lv_isub hx hb d_Writer_putNumber_52 ?_
          refine va_put (D := D) (ci := 10) (v := .int ((nI (tot - X.length)) - 1)) (ty := .int) (C := R_Writer) (T := F_Writer) (N := 6) hx hb hts i_Writer t_Writer t_Writer_ok n_Writer hown hK hP hD hS 0 rfl rfl 2 (by decide) (hts _ wd_954) (fun _ h9 => h9) rfl (by decide +kernel) rfl rfl (Nat.le_of_ble_eq_true rfl) d_Writer_putNumber_53 (fun H locs hP hD hS => ?_)
          have hP : va_P D classes [(w, .inr (10, [.ref tp, .ref la, .int ((nI (tot - X.length)) - 1), .int ((nI (min 184 (tot - X.length))) - 1), .int 1, .int ss])), (la, .inr (1, [.int (nI pid), va_rf nx, .int ct, .int tw, .long ck, .int (nI ((w0 + (X.length + 183) / 184) + 1)), va_rf se, va_rf pi])), (tp, .inr (0, [.ref a, .int (nI (((T0 ++ ppL pid w0 tot 0 X) ++ hdL pid (decide (q.2.2.2.2.1 = 0)) (w0 + (X.length + 183) / 184) (min 184 (tot - X.length))) ++ [(nb v k) &&& 255]).length)])), (a, .inl (cB, 9400, .inl f33))] H := hP
          have hD : va_D A [(w, .inr (10, [.ref tp, .ref la, .int ((nI (tot - X.length)) - 1), .int ((nI (min 184 (tot - X.length))) - 1), .int 1, .int ss])), (la, .inr (1, [.int (nI pid), va_rf nx, .int ct, .int tw, .long ck, .int (nI ((w0 + (X.length + 183) / 184) + 1)), va_rf se, va_rf pi])), (tp, .inr (0, [.ref a, .int (nI (((T0 ++ ppL pid w0 tot 0 X) ++ hdL pid (decide (q.2.2.2.2.1 = 0)) (w0 + (X.length + 183) / 184) (min 184 (tot - X.length))) ++ [(nb v k) &&& 255]).length)])), (a, .inl (cB, 9400, .inl f33))] := hD
          refine lv_iinc (k := 2) (v := nI k - 1) (lv' := [(4, .int (nI k - 1)), (0, .ref w), (1, .long v)]) hx hb d_Writer_putNumber_56 hl rfl (pm_dec k) (by decide) rfl (fun ls hl => ?_)
          refine lv_goto (tgt := 5) hx hb d_Writer_putNumber_59 rfl ?_
          rw [nb_pb v (by omega)] at hP hD e33
          exact ih5 k (X ++ [pb v k]) (f33, nI (((T0 ++ ppL pid w0 tot 0 X) ++ hdL pid (decide (q.2.2.2.2.1 = 0)) (w0 + (X.length + 183) / 184) (min 184 (tot - X.length))) ++ [pb v k]).length, (nI (tot - X.length)) - 1, (nI (min 184 (tot - X.length))) - 1, 1, nI ((w0 + (X.length + 183) / 184) + 1)) H locs ls (by omega) (by omega) (by rw [hX, bs_take v (show k < c by omega), List.append_assoc]) (pn_2 hq hlX h14 e33) (lv_sub hl [1, 2, 0] rfl) hP hD hS
  exact loop5 _ c B q0 s.heap [] ls (Nat.lt_succ_self _) (Nat.le_refl _) (by rw [Nat.sub_self, List.take_zero, List.append_nil]) hq0 (lv_sub hl [1, 2, 0] rfl) hP hD hS
