theorem wd_445 : (Jvm.Cond.fieldLinkNest "StreamSplitter$Programme" (64 : Nat) "StreamSplitter$Order" "name" "I" "StreamSplitter") ∈ lw_ok := List.mem_filter.mpr ⟨List.mem_of_getElem? (i := 445) (by decide +kernel), rfl⟩
theorem wd_462 : (Jvm.Cond.methodLink "StreamSplitter$Programme" (57 : Nat) ({ cls := "java/util/ArrayList", name := "add", desc := "(Ljava/lang/Object;)Z" } : Jvm.MethodName)) ∈ lw_ok := List.mem_filter.mpr ⟨List.mem_of_getElem? (i := 462) (by decide +kernel), rfl⟩
theorem wd_670 : (Jvm.Cond.methodLink "StreamSplitter$Programme" (70 : Nat) ({ cls := "java/util/ArrayList", name := "set", desc := "(ILjava/lang/Object;)Ljava/lang/Object;" } : Jvm.MethodName)) ∈ lw_ok := List.mem_filter.mpr ⟨List.mem_of_getElem? (i := 670) (by decide +kernel), rfl⟩
theorem wd_671 : (Jvm.Cond.instanceMethod ({ cls := "java/util/ArrayList", name := "set", desc := "(ILjava/lang/Object;)Ljava/lang/Object;" } : Jvm.MethodName)) ∈ lw_ok := List.mem_filter.mpr ⟨List.mem_of_getElem? (i := 671) (by decide +kernel), rfl⟩
theorem wd_672 : (Jvm.Cond.selects "java/util/ArrayList" ({ cls := "java/util/ArrayList", name := "set", desc := "(ILjava/lang/Object;)Ljava/lang/Object;" } : Jvm.MethodName) ({ cls := "java/util/ArrayList", name := "set", desc := "(ILjava/lang/Object;)Ljava/lang/Object;" } : Jvm.MethodName)) ∈ lw_ok := List.mem_filter.mpr ⟨List.mem_of_getElem? (i := 672) (by decide +kernel), rfl⟩
set_option maxRecDepth 100000 in
theorem wd_673 : (Jvm.Cond.code ({ cls := "java/util/ArrayList", name := "set", desc := "(ILjava/lang/Object;)Ljava/lang/Object;" } : Jvm.MethodName) prog_28_method_23_code (4 : Nat) (Option.some (Jvm.ClassFile.FieldType.object "java/lang/Object"))) ∈ lw_ok := List.mem_filter.mpr ⟨List.mem_of_getElem? (i := 673) (by rfl), rfl⟩
theorem hd_AL_set : y_AL_set.cls ≠ "java/lang/invoke/MethodHandle" ∧ y_AL_set.cls ≠ "java/lang/invoke/VarHandle" ∧ (parseMethodDescriptor y_AL_set.desc).map (fun d => d.parameters.length) = some 2 := by decide +kernel
theorem d_Programme_keep_0 : decode b_Programme_keep 0 = .ok (.iconst 0, 1) := by decide +kernel
theorem d_Programme_keep_1 : decode b_Programme_keep 1 = .ok (.istore_n 2, 1) := by decide +kernel
theorem d_Programme_keep_2 : decode b_Programme_keep 2 = .ok (.iload_n 2, 1) := by decide +kernel
theorem d_Programme_keep_3 : decode b_Programme_keep 3 = .ok (.aload_n 0, 1) := by decide +kernel
theorem d_Programme_keep_4 : decode b_Programme_keep 4 = .ok (.getfield 31, 3) := by decide +kernel
theorem d_Programme_keep_7 : decode b_Programme_keep 7 = .ok (.invokevirtual 47, 3) := by decide +kernel
theorem d_Programme_keep_10 : decode b_Programme_keep 10 = .ok (.if_icmp .ge 41, 3) := by decide +kernel
theorem d_Programme_keep_13 : decode b_Programme_keep 13 = .ok (.aload_n 0, 1) := by decide +kernel
theorem d_Programme_keep_14 : decode b_Programme_keep 14 = .ok (.getfield 31, 3) := by decide +kernel
theorem d_Programme_keep_17 : decode b_Programme_keep 17 = .ok (.iload_n 2, 1) := by decide +kernel
theorem d_Programme_keep_18 : decode b_Programme_keep 18 = .ok (.invokevirtual 51, 3) := by decide +kernel
theorem d_Programme_keep_21 : decode b_Programme_keep 21 = .ok (.checkcast 55, 3) := by decide +kernel
theorem d_Programme_keep_24 : decode b_Programme_keep 24 = .ok (.getfield 64, 3) := by decide +kernel
theorem d_Programme_keep_27 : decode b_Programme_keep 27 = .ok (.aload_n 1, 1) := by decide +kernel
theorem d_Programme_keep_28 : decode b_Programme_keep 28 = .ok (.getfield 64, 3) := by decide +kernel
theorem d_Programme_keep_31 : decode b_Programme_keep 31 = .ok (.if_icmp .ne 14, 3) := by decide +kernel
theorem d_Programme_keep_34 : decode b_Programme_keep 34 = .ok (.aload_n 0, 1) := by decide +kernel
theorem d_Programme_keep_35 : decode b_Programme_keep 35 = .ok (.getfield 31, 3) := by decide +kernel
theorem d_Programme_keep_38 : decode b_Programme_keep 38 = .ok (.iload_n 2, 1) := by decide +kernel
theorem d_Programme_keep_39 : decode b_Programme_keep 39 = .ok (.aload_n 1, 1) := by decide +kernel
theorem d_Programme_keep_40 : decode b_Programme_keep 40 = .ok (.invokevirtual 70, 3) := by decide +kernel
theorem d_Programme_keep_43 : decode b_Programme_keep 43 = .ok (.pop, 1) := by decide +kernel
theorem d_Programme_keep_44 : decode b_Programme_keep 44 = .ok (.return_, 1) := by decide +kernel
theorem d_Programme_keep_45 : decode b_Programme_keep 45 = .ok (.iinc 2 1, 3) := by decide +kernel
theorem d_Programme_keep_48 : decode b_Programme_keep 48 = .ok (.goto (-46), 3) := by decide +kernel
theorem d_Programme_keep_51 : decode b_Programme_keep 51 = .ok (.aload_n 0, 1) := by decide +kernel
theorem d_Programme_keep_52 : decode b_Programme_keep 52 = .ok (.getfield 31, 3) := by decide +kernel
theorem d_Programme_keep_55 : decode b_Programme_keep 55 = .ok (.invokevirtual 47, 3) := by decide +kernel
theorem d_Programme_keep_58 : decode b_Programme_keep 58 = .ok (.bipush 6, 2) := by decide +kernel
theorem d_Programme_keep_60 : decode b_Programme_keep 60 = .ok (.if_icmp .ge 12, 3) := by decide +kernel
theorem d_Programme_keep_63 : decode b_Programme_keep 63 = .ok (.aload_n 0, 1) := by decide +kernel
theorem d_Programme_keep_64 : decode b_Programme_keep 64 = .ok (.getfield 31, 3) := by decide +kernel
theorem d_Programme_keep_67 : decode b_Programme_keep 67 = .ok (.aload_n 1, 1) := by decide +kernel
theorem d_Programme_keep_68 : decode b_Programme_keep 68 = .ok (.invokevirtual 57, 3) := by decide +kernel
theorem d_Programme_keep_71 : decode b_Programme_keep 71 = .ok (.pop, 1) := by decide +kernel
theorem d_Programme_keep_72 : decode b_Programme_keep 72 = .ok (.return_, 1) := by decide +kernel
set_option maxHeartbeats 4000000 in
set_option maxRecDepth 100000 in
theorem c_Programme_keep (l : Launch) (D : va_G) (B0 : State) (hG : zG B0) (sz : Nat) (cO : ClassId) (e0 : Nat) (z : PZ) (mo : Int32) (wst : Option (Nat × (Nat → Option Nat))) (Wl : List (Nat × Int64 × Int32 × Int32 × Int64)) (Q : va_W) (oa : Nat) (o : Int64 × Int32 × Int32 × Int64) (he0 : zE0 B0 e0) (hwk : wok Q wst Wl) (hW6 : Wl.length ≤ 6) : Met l y_Programme_keep [Cond.code y_Programme_keep b_Programme_keep 3 none] ({ frames := 5, cells := 1, slots := 10, locals := 101 }) (zMo [.ref z.1, .ref oa] D ([(z.1, .inr (7, [.int z.2.1, .int (nI z.2.2.1), .int z.2.2.2.1, .int z.2.2.2.2.1, .ref z.2.2.2.2.2.1, .int z.2.2.2.2.2.2.1, .long z.2.2.2.2.2.2.2.1, .ref z.2.2.2.2.2.2.2.2])), (oa, .inr (6, [.long o.1, .int o.2.1, .int o.2.2.1, .long o.2.2.2]))] ++ (wlc cO e0 z.2.2.2.2.2.2.2.2 Wl.length mo wst ++ Q)) [(cO, .object "java/lang/Object")] sz B0) (va_Qv (fun (u : WU9) => keP Wl (oa, o) u.1 ∧ wok ((oa, orE o) :: Q) u.2.2 u.1 ∧ u.1.length ≤ 6) (fun (u : WU9) t => zW D (va_A ([(z.1, .inr (7, [.int z.2.1, .int (nI z.2.2.1), .int z.2.2.2.1, .int z.2.2.2.2.1, .ref z.2.2.2.2.2.1, .int z.2.2.2.2.2.2.1, .long z.2.2.2.2.2.2.2.1, .ref z.2.2.2.2.2.2.2.2])), (oa, .inr (6, [.long o.1, .int o.2.1, .int o.2.2.1, .long o.2.2.2]))] ++ (wlc cO e0 z.2.2.2.2.2.2.2.2 Wl.length mo wst ++ Q)) sz) ([(z.1, .inr (7, [.int z.2.1, .int (nI z.2.2.1), .int z.2.2.2.1, .int z.2.2.2.2.1, .ref z.2.2.2.2.2.1, .int z.2.2.2.2.2.2.1, .long z.2.2.2.2.2.2.2.1, .ref z.2.2.2.2.2.2.2.2])), (oa, .inr (6, [.long o.1, .int o.2.1, .int o.2.2.1, .long o.2.2.2]))] ++ (wlc cO e0 z.2.2.2.2.2.2.2.2 u.1.length u.2.1 u.2.2 ++ Q)) [(cO, .object "java/lang/Object")] t) (va_A ([(z.1, .inr (7, [.int z.2.1, .int (nI z.2.2.1), .int z.2.2.2.1, .int z.2.2.2.2.1, .ref z.2.2.2.2.2.1, .int z.2.2.2.2.2.2.1, .long z.2.2.2.2.2.2.2.1, .ref z.2.2.2.2.2.2.2.2])), (oa, .inr (6, [.long o.1, .int o.2.1, .int o.2.2.1, .long o.2.2.2]))] ++ (wlc cO e0 z.2.2.2.2.2.2.2.2 Wl.length mo wst ++ Q)) sz)) 1 10 (va_A ([(z.1, .inr (7, [.int z.2.1, .int (nI z.2.2.1), .int z.2.2.2.1, .int z.2.2.2.2.1, .ref z.2.2.2.2.2.1, .int z.2.2.2.2.2.2.1, .long z.2.2.2.2.2.2.2.1, .ref z.2.2.2.2.2.2.2.2])), (oa, .inr (6, [.long o.1, .int o.2.1, .int o.2.2.1, .long o.2.2.2]))] ++ (wlc cO e0 z.2.2.2.2.2.2.2.2 Wl.length mo wst ++ Q)) sz) := by
  refine Met.ofW (cc := b_Programme_keep) (maxL := 3) (ret := none) (by decide) rfl ?_
  intro p e s m args below meth cd s₁ Bd hml hv
  obtain ⟨rfl, hsz, hP, hK, hN, hD0, hO⟩ := hv
  have hx := Bd.exec
  have hb := Bd.bytes
  have hr := Bd.returns
  have hts := hN.use (a := ([.ref z.1, .ref oa]).toArray)
  have hown : s.vm.findClass R_Programme = some m.cls := findClass_of_methodNamed Bd.named
  have hlocks := Bd.notSynchronized
  subst hsz
  have hD := hD0.self (sz := s.heap.size)
  have hAO := z_AO hD0 hO
  clear hD0
  have hA : ∀ q : Nat, s.heap.size ≤ q → va_A ([(z.1, .inr (7, [.int z.2.1, .int (nI z.2.2.1), .int z.2.2.2.1, .int z.2.2.2.2.1, .ref z.2.2.2.2.2.1, .int z.2.2.2.2.2.2.1, .long z.2.2.2.2.2.2.2.1, .ref z.2.2.2.2.2.2.2.2])), (oa, .inr (6, [.long o.1, .int o.2.1, .int o.2.2.1, .long o.2.2.2]))] ++ (wlc cO e0 z.2.2.2.2.2.2.2.2 Wl.length mo wst ++ Q)) s.heap.size q := fun q h => Or.inr h
  have hS : va_S (va_A ([(z.1, .inr (7, [.int z.2.1, .int (nI z.2.2.1), .int z.2.2.2.1, .int z.2.2.2.2.1, .ref z.2.2.2.2.2.1, .int z.2.2.2.2.2.2.1, .long z.2.2.2.2.2.2.2.1, .ref z.2.2.2.2.2.2.2.2])), (oa, .inr (6, [.long o.1, .int o.2.1, .int o.2.2.1, .long o.2.2.2]))] ++ (wlc cO e0 z.2.2.2.2.2.2.2.2 Wl.length mo wst ++ Q)) s.heap.size) s.heap s.heap [] := va_S.rf
  generalize hAe : va_A ([(z.1, .inr (7, [.int z.2.1, .int (nI z.2.2.1), .int z.2.2.2.1, .int z.2.2.2.2.1, .ref z.2.2.2.2.2.1, .int z.2.2.2.2.2.2.1, .long z.2.2.2.2.2.2.2.1, .ref z.2.2.2.2.2.2.2.2])), (oa, .inr (6, [.long o.1, .int o.2.1, .int o.2.2.1, .long o.2.2.2]))] ++ (wlc cO e0 z.2.2.2.2.2.2.2.2 Wl.length mo wst ++ Q)) s.heap.size = A at hD hA hS hAO ⊢
  have hP : va_P D classes ([(z.1, .inr (7, [.int z.2.1, .int (nI z.2.2.1), .int z.2.2.2.1, .int z.2.2.2.2.1, .ref z.2.2.2.2.2.1, .int z.2.2.2.2.2.2.1, .long z.2.2.2.2.2.2.2.1, .ref z.2.2.2.2.2.2.2.2])), (oa, .inr (6, [.long o.1, .int o.2.1, .int o.2.2.1, .long o.2.2.2]))] ++ (wlc cO e0 z.2.2.2.2.2.2.2.2 Wl.length mo wst ++ Q)) s.heap := hP
  have hl := lv_entry ([.ref z.1, .ref oa]) (n := 3) (Nat.le_of_ble_eq_true rfl)
  rw [lg_entry_eq]
  generalize (lg_sl ([.ref z.1, .ref oa]) ++ List.replicate (3 - (lg_sl ([.ref z.1, .ref oa])).length) Slot.unset).toArray = ls at hl ⊢
  have hl : lv_has ls 3 [(0, .ref z.1), (1, .ref oa)] := hl
  cases wst with
  | none =>
    obtain rfl : Wl = [] := hwk
    have hP : va_P D classes ([(z.1, .inr (7, [.int z.2.1, .int (nI z.2.2.1), .int z.2.2.2.1, .int z.2.2.2.2.1, .ref z.2.2.2.2.2.1, .int z.2.2.2.2.2.2.1, .long z.2.2.2.2.2.2.2.1, .ref z.2.2.2.2.2.2.2.2])), (oa, .inr (6, [.long o.1, .int o.2.1, .int o.2.2.1, .long o.2.2.2])), (z.2.2.2.2.2.2.2.2, .inr (12, [.ref e0, .int 0, .int mo]))] ++ Q) s.heap := hP
    have hD : va_D A ([(z.1, .inr (7, [.int z.2.1, .int (nI z.2.2.1), .int z.2.2.2.1, .int z.2.2.2.2.1, .ref z.2.2.2.2.2.1, .int z.2.2.2.2.2.2.1, .long z.2.2.2.2.2.2.2.1, .ref z.2.2.2.2.2.2.2.2])), (oa, .inr (6, [.long o.1, .int o.2.1, .int o.2.2.1, .long o.2.2.2])), (z.2.2.2.2.2.2.2.2, .inr (12, [.ref e0, .int 0, .int mo]))] ++ Q) := hD
    refine lv_iconst (v := 0) hx hb d_Programme_keep_0 (by decide) ?_
    refine lv_istore_n (lv' := [(2, .int 0), (0, .ref z.1), (1, .ref oa)]) hx hb d_Programme_keep_1 rfl hl (by decide) rfl (fun ls hl => ?_)
    refine lv_iload_n hx hb d_Programme_keep_2 rfl (lv_at hl 0 rfl) ?_
    refine lv_aload_n hx hb d_Programme_keep_3 rfl (lv_at hl 1 rfl) ?_
    refine va_get (D := D) (ci := 7) (v := .ref z.2.2.2.2.2.2.2.2) (C := R_Programme) (T := F_Programme) (N := 8) hx hb hts i_Programme hown hK hP 0 rfl rfl 7 (by decide) (hts _ wd_595) (fun _ h9 => h9) rfl d_Programme_keep_4 ?_
    have hPc := hP.sub (ws' := [(z.2.2.2.2.2.2.2.2, .inr (12, [.ref e0, .int 0, .int mo]))]) [2] rfl
    have hKc := hK.sub (tys' := []) [] rfl
    refine z_ci (va_runV (As := []) (rest := [.int 0]) ⟨hx, hb, hml, hown, hts⟩ (c_AL_size l D z.2.2.2.2.2.2.2.2 e0 0 mo ) (z_cV hN wd_305 wd_66 wd_329 hd_AL_size rfl rfl ⟨Nat.le_of_ble_eq_true rfl, Nat.le_of_ble_eq_true rfl⟩ wd_303 wd_304) (z_preV (va_recv (ci := 12) (q0 := 2) hK hP rfl rfl) hPc hKc hN) rfl rfl hl.1 rfl (lv_room (Nat.le_of_ble_eq_true rfl)) d_Programme_keep_7 ⟨Nat.le_of_ble_eq_true rfl, Nat.le_of_ble_eq_true rfl⟩) (fun r7 e7 => ?_)
    refine z_topi (w := 0) e7 ?_
    refine lv_icmp_ge (tgt := 51) hx hb d_Programme_keep_10 rfl (fun h10 => ?_) (fun h9 => absurd h9 (by decide))
    refine lv_aload_n hx hb d_Programme_keep_51 rfl (lv_at hl 1 rfl) ?_
    refine va_get (D := D) (ci := 7) (v := .ref z.2.2.2.2.2.2.2.2) (C := R_Programme) (T := F_Programme) (N := 8) hx hb hts i_Programme hown hK hP 0 rfl rfl 7 (by decide) (hts _ wd_595) (fun _ h9 => h9) rfl d_Programme_keep_52 ?_
    have hPc := hP.sub (ws' := [(z.2.2.2.2.2.2.2.2, .inr (12, [.ref e0, .int 0, .int mo]))]) [2] rfl
    have hKc := hK.sub (tys' := []) [] rfl
    refine z_ci (va_runV (As := []) (rest := []) ⟨hx, hb, hml, hown, hts⟩ (c_AL_size l D z.2.2.2.2.2.2.2.2 e0 0 mo ) (z_cV hN wd_305 wd_66 wd_329 hd_AL_size rfl rfl ⟨Nat.le_of_ble_eq_true rfl, Nat.le_of_ble_eq_true rfl⟩ wd_303 wd_304) (z_preV (va_recv (ci := 12) (q0 := 2) hK hP rfl rfl) hPc hKc hN) rfl rfl hl.1 rfl (lv_room (Nat.le_of_ble_eq_true rfl)) d_Programme_keep_55 ⟨Nat.le_of_ble_eq_true rfl, Nat.le_of_ble_eq_true rfl⟩) (fun r55 e55 => ?_)
    refine z_topi (w := 0) e55 ?_
    refine lv_bipush (v := 6) hx hb d_Programme_keep_58 (by decide) ?_
    refine lv_icmp_ge (tgt := 72) hx hb d_Programme_keep_60 rfl (fun h9 => absurd h9 (by decide)) (fun h60 => ?_)
    refine lv_aload_n hx hb d_Programme_keep_63 rfl (lv_at hl 1 rfl) ?_
    refine va_get (D := D) (ci := 7) (v := .ref z.2.2.2.2.2.2.2.2) (C := R_Programme) (T := F_Programme) (N := 8) hx hb hts i_Programme hown hK hP 0 rfl rfl 7 (by decide) (hts _ wd_595) (fun _ h9 => h9) rfl d_Programme_keep_64 ?_
    refine lv_aload_n hx hb d_Programme_keep_67 rfl (lv_at hl 2 rfl) ?_
    have hPc := hP.sub (ws' := [(z.2.2.2.2.2.2.2.2, .inr (12, [.ref e0, .int 0, .int mo])), (oa, .inr (6, [.long o.1, .int o.2.1, .int o.2.2.1, .long o.2.2.2]))]) [2, 1] rfl
    have hKc := hK.sub (tys' := [(cO, .object "java/lang/Object")]) [0] rfl
    have hDc := hD.sub (ws' := [(z.2.2.2.2.2.2.2.2, .inr (12, [.ref e0, .int 0, .int mo])), (oa, .inr (6, [.long o.1, .int o.2.1, .int o.2.2.1, .long o.2.2.2]))]) [2, 1] (by decide) rfl
    have hFc := va_free (wc := [(z.2.2.2.2.2.2.2.2, .inr (12, [.ref e0, .int 0, .int mo])), (oa, .inr (6, [.long o.1, .int o.2.1, .int o.2.2.1, .long o.2.2.2]))]) hD hS hA [2, 1] rfl
    refine va_calli (va_runV (As := [.ref oa]) (rest := []) ⟨hx, hb, hml, hown, hts⟩ (c_AL_add0e l D B0 hG s.heap.size cO z.2.2.2.2.2.2.2.2 e0 mo oa 6 [.long o.1, .int o.2.1, .int o.2.2.1, .long o.2.2.2] (R_Order, F_Order, 4) he0 rfl wd_1500) (z_cV hN wd_465 wd_66 wd_462 hd_AL_add0 rfl rfl ⟨Nat.le_of_ble_eq_true rfl, Nat.le_of_ble_eq_true rfl⟩ wd_463 wd_464) (z_preVo (va_recv (ci := 12) (q0 := 2) hK hP rfl rfl) hPc hKc hN hDc hO hS hAO) rfl rfl hl.1 rfl (lv_room (Nat.le_of_ble_eq_true rfl)) d_Programme_keep_68 ⟨Nat.le_of_ble_eq_true rfl, Nat.le_of_ble_eq_true rfl⟩) hS (fun q _ h => hFc q h) hFc (fun r68 q9 t H locs ht hvm e68 hB hz1 hk1 hS => ?_)
    obtain ⟨hP1, hK1, hD1⟩ := hB
    rw [ht] at hP1
    obtain ⟨hP, hD⟩ := va_joinQ (cx := [(z.2.2.2.2.2.2.2.2, .inr (12, [.ref e0, .int 0, .int mo])), (oa, .inr (6, [.long o.1, .int o.2.1, .int o.2.2.1, .long o.2.2.2]))]) (wr := [(z.1, .inr (7, [.int z.2.1, .int (nI z.2.2.1), .int z.2.2.2.1, .int z.2.2.2.2.1, .ref z.2.2.2.2.2.1, .int z.2.2.2.2.2.2.1, .long z.2.2.2.2.2.2.2.1, .ref z.2.2.2.2.2.2.2.2]))]) (w1 := [(z.2.2.2.2.2.2.2.2, .inr (12, [.ref q9, .int 1, .int (mo + 1)])), (q9, .inl (cO, 10, .inr (.inr (.inr (.inr (va_up (fun _ => none) 0 (some oa))))))), (oa, .inr (6, [.long o.1, .int o.2.1, .int o.2.2.1, .long o.2.2.2]))]) hP hD [2, 1] [0] rfl rfl (by decide) (by decide) hk1 hFc hP1 hD1
    clear hk1 hP1 hD1 hFc hPc hDc hz1
    have hP : va_P D classes ([(z.1, .inr (7, [.int z.2.1, .int (nI z.2.2.1), .int z.2.2.2.1, .int z.2.2.2.2.1, .ref z.2.2.2.2.2.1, .int z.2.2.2.2.2.2.1, .long z.2.2.2.2.2.2.2.1, .ref z.2.2.2.2.2.2.2.2])), (z.2.2.2.2.2.2.2.2, .inr (12, [.ref q9, .int 1, .int (mo + 1)])), (q9, .inl (cO, 10, .inr (.inr (.inr (.inr (va_up (fun _ => none) 0 (some oa))))))), (oa, .inr (6, [.long o.1, .int o.2.1, .int o.2.2.1, .long o.2.2.2]))] ++ Q) H := hP
    have hD : va_D A ([(z.1, .inr (7, [.int z.2.1, .int (nI z.2.2.1), .int z.2.2.2.1, .int z.2.2.2.2.1, .ref z.2.2.2.2.2.1, .int z.2.2.2.2.2.2.1, .long z.2.2.2.2.2.2.2.1, .ref z.2.2.2.2.2.2.2.2])), (z.2.2.2.2.2.2.2.2, .inr (12, [.ref q9, .int 1, .int (mo + 1)])), (q9, .inl (cO, 10, .inr (.inr (.inr (.inr (va_up (fun _ => none) 0 (some oa))))))), (oa, .inr (6, [.long o.1, .int o.2.1, .int o.2.2.1, .long o.2.2.2]))] ++ Q) := hD
    refine lv_pop hx hb d_Programme_keep_71 rfl ?_
    have hP := hP.part (cx := [(z.1, .inr (7, [.int z.2.1, .int (nI z.2.2.1), .int z.2.2.2.1, .int z.2.2.2.2.1, .ref z.2.2.2.2.2.1, .int z.2.2.2.2.2.2.1, .long z.2.2.2.2.2.2.2.1, .ref z.2.2.2.2.2.2.2.2])), (oa, .inr (6, [.long o.1, .int o.2.1, .int o.2.2.1, .long o.2.2.2])), (z.2.2.2.2.2.2.2.2, .inr (12, [.ref q9, .int 1, .int (mo + 1)])), (q9, .inl (cO, 10, .inr (.inr (.inr (.inr (va_up (fun _ => none) 0 (some oa)))))))]) [0, 3, 1, 2] rfl
    have hD := hD.part (cx := [(z.1, .inr (7, [.int z.2.1, .int (nI z.2.2.1), .int z.2.2.2.1, .int z.2.2.2.2.1, .ref z.2.2.2.2.2.1, .int z.2.2.2.2.2.2.1, .long z.2.2.2.2.2.2.2.1, .ref z.2.2.2.2.2.2.2.2])), (oa, .inr (6, [.long o.1, .int o.2.1, .int o.2.2.1, .long o.2.2.2])), (z.2.2.2.2.2.2.2.2, .inr (12, [.ref q9, .int 1, .int (mo + 1)])), (q9, .inl (cO, 10, .inr (.inr (.inr (.inr (va_up (fun _ => none) 0 (some oa)))))))]) [0, 3, 1, 2] (by decide) rfl
    have hP : va_P D classes ([(z.1, .inr (7, [.int z.2.1, .int (nI z.2.2.1), .int z.2.2.2.1, .int z.2.2.2.2.1, .ref z.2.2.2.2.2.1, .int z.2.2.2.2.2.2.1, .long z.2.2.2.2.2.2.2.1, .ref z.2.2.2.2.2.2.2.2])), (oa, .inr (6, [.long o.1, .int o.2.1, .int o.2.2.1, .long o.2.2.2]))] ++ (wlc cO e0 z.2.2.2.2.2.2.2.2 ([(oa, o)].length) (mo + 1) (some (q9, va_up (fun _ => none) 0 (some oa))) ++ Q)) H := hP
    have hD : va_D A ([(z.1, .inr (7, [.int z.2.1, .int (nI z.2.2.1), .int z.2.2.2.1, .int z.2.2.2.2.1, .ref z.2.2.2.2.2.1, .int z.2.2.2.2.2.2.1, .long z.2.2.2.2.2.2.2.1, .ref z.2.2.2.2.2.2.2.2])), (oa, .inr (6, [.long o.1, .int o.2.1, .int o.2.2.1, .long o.2.2.2]))] ++ (wlc cO e0 z.2.2.2.2.2.2.2.2 ([(oa, o)].length) (mo + 1) (some (q9, va_up (fun _ => none) 0 (some oa))) ++ Q)) := hD
    have hP9 := hP.part (cx := [(z.1, .inr (7, [.int z.2.1, .int (nI z.2.2.1), .int z.2.2.2.1, .int z.2.2.2.2.1, .ref z.2.2.2.2.2.1, .int z.2.2.2.2.2.2.1, .long z.2.2.2.2.2.2.2.1, .ref z.2.2.2.2.2.2.2.2])), (oa, .inr (6, [.long o.1, .int o.2.1, .int o.2.2.1, .long o.2.2.2]))]) [0, 1] rfl
    have hD9 := hD.part (cx := [(z.1, .inr (7, [.int z.2.1, .int (nI z.2.2.1), .int z.2.2.2.1, .int z.2.2.2.2.1, .ref z.2.2.2.2.2.1, .int z.2.2.2.2.2.2.1, .long z.2.2.2.2.2.2.2.1, .ref z.2.2.2.2.2.2.2.2])), (oa, .inr (6, [.long o.1, .int o.2.1, .int o.2.2.1, .long o.2.2.2]))]) [0, 1] (by decide) rfl
    have hK9 := hK.sub (tys' := [(cO, .object "java/lang/Object")]) [0] rfl
    refine W.widen (k := 1) (n := 10) (by omega) (by omega) ?_
    exact W.vret hx hb hr (fun t ht hW => ⟨⟨([(oa, o)], mo + 1, some (q9, va_up (fun _ => none) 0 (some oa))), rfl, ⟨Or.inr ⟨fun i hi => absurd hi (Nat.not_lt_zero i), rfl⟩, el_one (o := (oa, o)), by show 1 ≤ 6; omega⟩, ⟨by rw [ht]; exact hP9, va_K.moved hW.alike hK9, hD9⟩⟩, hS.F ht⟩) hS.2.2 d_Programme_keep_72
  | some wq =>
    have hel : elO Q wq.2 Wl := hwk
    have hP : va_P D classes ([(z.1, .inr (7, [.int z.2.1, .int (nI z.2.2.1), .int z.2.2.2.1, .int z.2.2.2.2.1, .ref z.2.2.2.2.2.1, .int z.2.2.2.2.2.2.1, .long z.2.2.2.2.2.2.2.1, .ref z.2.2.2.2.2.2.2.2])), (oa, .inr (6, [.long o.1, .int o.2.1, .int o.2.2.1, .long o.2.2.2])), (z.2.2.2.2.2.2.2.2, .inr (12, [.ref wq.1, .int (nI Wl.length), .int mo])), (wq.1, .inl (cO, 10, .inr (.inr (.inr (.inr wq.2)))))] ++ Q) s.heap := hP
    have hD : va_D A ([(z.1, .inr (7, [.int z.2.1, .int (nI z.2.2.1), .int z.2.2.2.1, .int z.2.2.2.2.1, .ref z.2.2.2.2.2.1, .int z.2.2.2.2.2.2.1, .long z.2.2.2.2.2.2.2.1, .ref z.2.2.2.2.2.2.2.2])), (oa, .inr (6, [.long o.1, .int o.2.1, .int o.2.2.1, .long o.2.2.2])), (z.2.2.2.2.2.2.2.2, .inr (12, [.ref wq.1, .int (nI Wl.length), .int mo])), (wq.1, .inl (cO, 10, .inr (.inr (.inr (.inr wq.2)))))] ++ Q) := hD
    refine lv_iconst (v := 0) hx hb d_Programme_keep_0 (by decide) ?_
    refine lv_istore_n (lv' := [(2, .int 0), (0, .ref z.1), (1, .ref oa)]) hx hb d_Programme_keep_1 rfl hl (by decide) rfl (fun ls hl => ?_)
    have loop2 : ∀ (N : Nat) (j : Nat) (H : Heap) (locs : List Loc) (ls : Array Slot) (hm : Wl.length - j < N) (hj : j ≤ Wl.length) (hne : ∀ i, i < j → ¬ (Wl.getD i (0, oz0)).2.2.1 = o.2.1) (hl : lv_has ls 3 [(0, .ref z.1), (1, .ref oa), (2, .int (nI j))]) (hP : va_P D classes ([(z.1, .inr (7, [.int z.2.1, .int (nI z.2.2.1), .int z.2.2.2.1, .int z.2.2.2.2.1, .ref z.2.2.2.2.2.1, .int z.2.2.2.2.2.2.1, .long z.2.2.2.2.2.2.2.1, .ref z.2.2.2.2.2.2.2.2])), (oa, .inr (6, [.long o.1, .int o.2.1, .int o.2.2.1, .long o.2.2.2])), (z.2.2.2.2.2.2.2.2, .inr (12, [.ref wq.1, .int (nI Wl.length), .int mo])), (wq.1, .inl (cO, 10, .inr (.inr (.inr (.inr wq.2)))))] ++ Q) H) (hD : va_D A ([(z.1, .inr (7, [.int z.2.1, .int (nI z.2.2.1), .int z.2.2.2.1, .int z.2.2.2.2.1, .ref z.2.2.2.2.2.1, .int z.2.2.2.2.2.2.1, .long z.2.2.2.2.2.2.2.1, .ref z.2.2.2.2.2.2.2.2])), (oa, .inr (6, [.long o.1, .int o.2.1, .int o.2.2.1, .long o.2.2.2])), (z.2.2.2.2.2.2.2.2, .inr (12, [.ref wq.1, .int (nI Wl.length), .int mo])), (wq.1, .inl (cO, 10, .inr (.inr (.inr (.inr wq.2)))))] ++ Q)) (hS : va_S A s.heap H locs), W p l e ({ frames := 5, cells := 1, slots := 10, locals := 101 }) s m ([.ref z.1, .ref oa]).toArray below meth cd H locs 0 0 (MQ below (va_Qv (fun (u : WU9) => keP Wl (oa, o) u.1 ∧ wok ((oa, orE o) :: Q) u.2.2 u.1 ∧ u.1.length ≤ 6) (fun (u : WU9) t => zW D (A) ([(z.1, .inr (7, [.int z.2.1, .int (nI z.2.2.1), .int z.2.2.2.1, .int z.2.2.2.2.1, .ref z.2.2.2.2.2.1, .int z.2.2.2.2.2.2.1, .long z.2.2.2.2.2.2.2.1, .ref z.2.2.2.2.2.2.2.2])), (oa, .inr (6, [.long o.1, .int o.2.1, .int o.2.2.1, .long o.2.2.2]))] ++ (wlc cO e0 z.2.2.2.2.2.2.2.2 u.1.length u.2.1 u.2.2 ++ Q)) [(cO, .object "java/lang/Object")] t) (A)) ([.ref z.1, .ref oa]).toArray s 1 10 (A)) (F0 m 2 ls []) := by
      intro N2
      induction N2 with
      | zero => intro j H locs ls hm hj hne hl hP hD hS; exact absurd hm (Nat.not_lt_zero _)
      | succ N2 ih2 =>
        intro j H locs ls hm hj hne hl hP hD hS
        refine lv_iload_n hx hb d_Programme_keep_2 rfl (lv_at hl 2 rfl) ?_
        refine lv_aload_n hx hb d_Programme_keep_3 rfl (lv_at hl 0 rfl) ?_
        refine va_get (D := D) (ci := 7) (v := .ref z.2.2.2.2.2.2.2.2) (C := R_Programme) (T := F_Programme) (N := 8) hx hb hts i_Programme hown hK hP 0 rfl rfl 7 (by decide) (hts _ wd_595) (fun _ h9 => h9) rfl d_Programme_keep_4 ?_
        have hPc := hP.sub (ws' := [(z.2.2.2.2.2.2.2.2, .inr (12, [.ref wq.1, .int (nI Wl.length), .int mo]))]) [2] rfl
        have hKc := hK.sub (tys' := []) [] rfl
        refine z_ci (va_runV (As := []) (rest := [.int (nI j)]) ⟨hx, hb, hml, hown, hts⟩ (c_AL_size l D z.2.2.2.2.2.2.2.2 wq.1 (nI Wl.length) mo ) (z_cV hN wd_305 wd_66 wd_329 hd_AL_size rfl rfl ⟨Nat.le_of_ble_eq_true rfl, Nat.le_of_ble_eq_true rfl⟩ wd_303 wd_304) (z_preV (va_recv (ci := 12) (q0 := 2) hK hP rfl rfl) hPc hKc hN) rfl rfl hl.1 rfl (lv_room (Nat.le_of_ble_eq_true rfl)) d_Programme_keep_7 ⟨Nat.le_of_ble_eq_true rfl, Nat.le_of_ble_eq_true rfl⟩) (fun r7 e7 => ?_)
        refine z_topi (w := (nI Wl.length)) e7 ?_
        refine lv_icmp_ge (tgt := 51) hx hb d_Programme_keep_10 rfl (fun h10 => ?_) (fun h10 => ?_)
        · have h10 := (nI_leI (by omega) (by omega)).mp h10
          have hnn : ∀ i, i < Wl.length → ¬ (Wl.getD i (0, oz0)).2.2.1 = o.2.1 := fun i hi => hne i (by omega)
          refine lv_aload_n hx hb d_Programme_keep_51 rfl (lv_at hl 0 rfl) ?_
          refine va_get (D := D) (ci := 7) (v := .ref z.2.2.2.2.2.2.2.2) (C := R_Programme) (T := F_Programme) (N := 8) hx hb hts i_Programme hown hK hP 0 rfl rfl 7 (by decide) (hts _ wd_595) (fun _ h9 => h9) rfl d_Programme_keep_52 ?_
          have hPc := hP.sub (ws' := [(z.2.2.2.2.2.2.2.2, .inr (12, [.ref wq.1, .int (nI Wl.length), .int mo]))]) [2] rfl
          have hKc := hK.sub (tys' := []) [] rfl
          refine z_ci (va_runV (As := []) (rest := []) ⟨hx, hb, hml, hown, hts⟩ (c_AL_size l D z.2.2.2.2.2.2.2.2 wq.1 (nI Wl.length) mo ) (z_cV hN wd_305 wd_66 wd_329 hd_AL_size rfl rfl ⟨Nat.le_of_ble_eq_true rfl, Nat.le_of_ble_eq_true rfl⟩ wd_303 wd_304) (z_preV (va_recv (ci := 12) (q0 := 2) hK hP rfl rfl) hPc hKc hN) rfl rfl hl.1 rfl (lv_room (Nat.le_of_ble_eq_true rfl)) d_Programme_keep_55 ⟨Nat.le_of_ble_eq_true rfl, Nat.le_of_ble_eq_true rfl⟩) (fun r55 e55 => ?_)
          refine z_topi (w := (nI Wl.length)) e55 ?_
          refine lv_bipush (v := 6) hx hb d_Programme_keep_58 (by decide) ?_
          refine lv_icmp_ge (tgt := 72) hx hb d_Programme_keep_60 rfl (fun h60 => ?_) (fun h60 => ?_)
          · have h60 := (nI_leI (a := 6) (by omega) (by omega)).mp h60
            have hP : va_P D classes ([(z.1, .inr (7, [.int z.2.1, .int (nI z.2.2.1), .int z.2.2.2.1, .int z.2.2.2.2.1, .ref z.2.2.2.2.2.1, .int z.2.2.2.2.2.2.1, .long z.2.2.2.2.2.2.2.1, .ref z.2.2.2.2.2.2.2.2])), (oa, .inr (6, [.long o.1, .int o.2.1, .int o.2.2.1, .long o.2.2.2]))] ++ (wlc cO e0 z.2.2.2.2.2.2.2.2 Wl.length mo (some (wq.1, wq.2)) ++ Q)) H := hP
            have hD : va_D A ([(z.1, .inr (7, [.int z.2.1, .int (nI z.2.2.1), .int z.2.2.2.1, .int z.2.2.2.2.1, .ref z.2.2.2.2.2.1, .int z.2.2.2.2.2.2.1, .long z.2.2.2.2.2.2.2.1, .ref z.2.2.2.2.2.2.2.2])), (oa, .inr (6, [.long o.1, .int o.2.1, .int o.2.2.1, .long o.2.2.2]))] ++ (wlc cO e0 z.2.2.2.2.2.2.2.2 Wl.length mo (some (wq.1, wq.2)) ++ Q)) := hD
            have hP9 := hP.part (cx := [(z.1, .inr (7, [.int z.2.1, .int (nI z.2.2.1), .int z.2.2.2.1, .int z.2.2.2.2.1, .ref z.2.2.2.2.2.1, .int z.2.2.2.2.2.2.1, .long z.2.2.2.2.2.2.2.1, .ref z.2.2.2.2.2.2.2.2])), (oa, .inr (6, [.long o.1, .int o.2.1, .int o.2.2.1, .long o.2.2.2]))]) [0, 1] rfl
            have hD9 := hD.part (cx := [(z.1, .inr (7, [.int z.2.1, .int (nI z.2.2.1), .int z.2.2.2.1, .int z.2.2.2.2.1, .ref z.2.2.2.2.2.1, .int z.2.2.2.2.2.2.1, .long z.2.2.2.2.2.2.2.1, .ref z.2.2.2.2.2.2.2.2])), (oa, .inr (6, [.long o.1, .int o.2.1, .int o.2.2.1, .long o.2.2.2]))]) [0, 1] (by decide) rfl
            have hK9 := hK.sub (tys' := [(cO, .object "java/lang/Object")]) [0] rfl
            refine W.widen (k := 1) (n := 10) (by omega) (by omega) ?_
            exact W.vret hx hb hr (fun t ht hW => ⟨⟨(Wl, mo, some (wq.1, wq.2)), rfl, ⟨Or.inr ⟨hnn, (if_neg (by omega)).symm⟩, el_mono hel (fun x hx => List.mem_cons_of_mem _ hx), hW6⟩, ⟨by rw [ht]; exact hP9, va_K.moved hW.alike hK9, hD9⟩⟩, hS.F ht⟩) hS.2.2 d_Programme_keep_72
          · have h60 := mt (nI_leI (a := 6) (by omega) (by omega)).mpr h60
            refine lv_aload_n hx hb d_Programme_keep_63 rfl (lv_at hl 0 rfl) ?_
            refine va_get (D := D) (ci := 7) (v := .ref z.2.2.2.2.2.2.2.2) (C := R_Programme) (T := F_Programme) (N := 8) hx hb hts i_Programme hown hK hP 0 rfl rfl 7 (by decide) (hts _ wd_595) (fun _ h9 => h9) rfl d_Programme_keep_64 ?_
            refine lv_aload_n hx hb d_Programme_keep_67 rfl (lv_at hl 1 rfl) ?_
            have hPc := hP.sub (ws' := [(z.2.2.2.2.2.2.2.2, .inr (12, [.ref wq.1, .int (nI Wl.length), .int mo])), (wq.1, .inl (cO, 10, .inr (.inr (.inr (.inr wq.2))))), (oa, .inr (6, [.long o.1, .int o.2.1, .int o.2.2.1, .long o.2.2.2]))]) [2, 3, 1] rfl
            have hKc := hK.sub (tys' := [(cO, .object "java/lang/Object")]) [0] rfl
            have hDc := hD.sub (ws' := [(z.2.2.2.2.2.2.2.2, .inr (12, [.ref wq.1, .int (nI Wl.length), .int mo])), (wq.1, .inl (cO, 10, .inr (.inr (.inr (.inr wq.2))))), (oa, .inr (6, [.long o.1, .int o.2.1, .int o.2.2.1, .long o.2.2.2]))]) [2, 3, 1] (by decide) rfl
            have hFc := va_free (wc := [(z.2.2.2.2.2.2.2.2, .inr (12, [.ref wq.1, .int (nI Wl.length), .int mo])), (wq.1, .inl (cO, 10, .inr (.inr (.inr (.inr wq.2))))), (oa, .inr (6, [.long o.1, .int o.2.1, .int o.2.2.1, .long o.2.2.2]))]) hD hS hA [2, 3, 1] rfl
            refine va_calli (va_runV (As := [.ref oa]) (rest := []) ⟨hx, hb, hml, hown, hts⟩ (c_AL_add0 l D H.size cO z.2.2.2.2.2.2.2.2 wq.1 Wl.length mo wq.2 oa 6 [.long o.1, .int o.2.1, .int o.2.2.1, .long o.2.2.2] (R_Order, F_Order, 4) (by omega) rfl wd_1500) (z_cV hN wd_465 wd_66 wd_462 hd_AL_add0 rfl rfl ⟨Nat.le_of_ble_eq_true rfl, Nat.le_of_ble_eq_true rfl⟩ wd_463 wd_464) (z_preVm (va_recv (ci := 12) (q0 := 2) hK hP rfl rfl) hPc hKc hN hDc) rfl rfl hl.1 rfl (lv_room (Nat.le_of_ble_eq_true rfl)) d_Programme_keep_68 ⟨Nat.le_of_ble_eq_true rfl, Nat.le_of_ble_eq_true rfl⟩) hS (fun q _ h => hFc q h) hFc (fun r68 u68 t H locs ht hvm e68 hB hz1 hk1 hS => ?_)
            obtain ⟨hP1, hK1, hD1⟩ := hB
            rw [ht] at hP1
            obtain ⟨hP, hD⟩ := va_joinQ (cx := [(z.2.2.2.2.2.2.2.2, .inr (12, [.ref wq.1, .int (nI Wl.length), .int mo])), (wq.1, .inl (cO, 10, .inr (.inr (.inr (.inr wq.2))))), (oa, .inr (6, [.long o.1, .int o.2.1, .int o.2.2.1, .long o.2.2.2]))]) (wr := [(z.1, .inr (7, [.int z.2.1, .int (nI z.2.2.1), .int z.2.2.2.1, .int z.2.2.2.2.1, .ref z.2.2.2.2.2.1, .int z.2.2.2.2.2.2.1, .long z.2.2.2.2.2.2.2.1, .ref z.2.2.2.2.2.2.2.2]))]) (w1 := [(z.2.2.2.2.2.2.2.2, .inr (12, [.ref wq.1, .int (nI (Wl.length + 1)), .int (mo + 1)])), (wq.1, .inl (cO, 10, .inr (.inr (.inr (.inr (va_up wq.2 Wl.length (some oa))))))), (oa, .inr (6, [.long o.1, .int o.2.1, .int o.2.2.1, .long o.2.2.2]))]) hP hD [2, 3, 1] [0] rfl rfl (by decide) (by decide) hk1 hFc hP1 hD1
            clear hk1 hP1 hD1 hFc hPc hDc hz1
            have hP : va_P D classes ([(z.1, .inr (7, [.int z.2.1, .int (nI z.2.2.1), .int z.2.2.2.1, .int z.2.2.2.2.1, .ref z.2.2.2.2.2.1, .int z.2.2.2.2.2.2.1, .long z.2.2.2.2.2.2.2.1, .ref z.2.2.2.2.2.2.2.2])), (z.2.2.2.2.2.2.2.2, .inr (12, [.ref wq.1, .int (nI (Wl.length + 1)), .int (mo + 1)])), (wq.1, .inl (cO, 10, .inr (.inr (.inr (.inr (va_up wq.2 Wl.length (some oa))))))), (oa, .inr (6, [.long o.1, .int o.2.1, .int o.2.2.1, .long o.2.2.2]))] ++ Q) H := hP
            have hD : va_D A ([(z.1, .inr (7, [.int z.2.1, .int (nI z.2.2.1), .int z.2.2.2.1, .int z.2.2.2.2.1, .ref z.2.2.2.2.2.1, .int z.2.2.2.2.2.2.1, .long z.2.2.2.2.2.2.2.1, .ref z.2.2.2.2.2.2.2.2])), (z.2.2.2.2.2.2.2.2, .inr (12, [.ref wq.1, .int (nI (Wl.length + 1)), .int (mo + 1)])), (wq.1, .inl (cO, 10, .inr (.inr (.inr (.inr (va_up wq.2 Wl.length (some oa))))))), (oa, .inr (6, [.long o.1, .int o.2.1, .int o.2.2.1, .long o.2.2.2]))] ++ Q) := hD
            refine lv_pop hx hb d_Programme_keep_71 rfl ?_
            have hn9 : Wl.length + 1 = (Wl ++ [(oa, o)]).length := by rw [List.length_append, List.length_singleton]
            rw [hn9] at hP hD
            have hP := hP.part (cx := [(z.1, .inr (7, [.int z.2.1, .int (nI z.2.2.1), .int z.2.2.2.1, .int z.2.2.2.2.1, .ref z.2.2.2.2.2.1, .int z.2.2.2.2.2.2.1, .long z.2.2.2.2.2.2.2.1, .ref z.2.2.2.2.2.2.2.2])), (oa, .inr (6, [.long o.1, .int o.2.1, .int o.2.2.1, .long o.2.2.2])), (z.2.2.2.2.2.2.2.2, .inr (12, [.ref wq.1, .int (nI (Wl ++ [(oa, o)]).length), .int (mo + 1)])), (wq.1, .inl (cO, 10, .inr (.inr (.inr (.inr (va_up wq.2 Wl.length (some oa)))))))]) [0, 3, 1, 2] rfl
            have hD := hD.part (cx := [(z.1, .inr (7, [.int z.2.1, .int (nI z.2.2.1), .int z.2.2.2.1, .int z.2.2.2.2.1, .ref z.2.2.2.2.2.1, .int z.2.2.2.2.2.2.1, .long z.2.2.2.2.2.2.2.1, .ref z.2.2.2.2.2.2.2.2])), (oa, .inr (6, [.long o.1, .int o.2.1, .int o.2.2.1, .long o.2.2.2])), (z.2.2.2.2.2.2.2.2, .inr (12, [.ref wq.1, .int (nI (Wl ++ [(oa, o)]).length), .int (mo + 1)])), (wq.1, .inl (cO, 10, .inr (.inr (.inr (.inr (va_up wq.2 Wl.length (some oa)))))))]) [0, 3, 1, 2] (by decide) rfl
            have hP : va_P D classes ([(z.1, .inr (7, [.int z.2.1, .int (nI z.2.2.1), .int z.2.2.2.1, .int z.2.2.2.2.1, .ref z.2.2.2.2.2.1, .int z.2.2.2.2.2.2.1, .long z.2.2.2.2.2.2.2.1, .ref z.2.2.2.2.2.2.2.2])), (oa, .inr (6, [.long o.1, .int o.2.1, .int o.2.2.1, .long o.2.2.2]))] ++ (wlc cO e0 z.2.2.2.2.2.2.2.2 ((Wl ++ [(oa, o)]).length) (mo + 1) (some (wq.1, va_up wq.2 Wl.length (some oa))) ++ Q)) H := hP
            have hD : va_D A ([(z.1, .inr (7, [.int z.2.1, .int (nI z.2.2.1), .int z.2.2.2.1, .int z.2.2.2.2.1, .ref z.2.2.2.2.2.1, .int z.2.2.2.2.2.2.1, .long z.2.2.2.2.2.2.2.1, .ref z.2.2.2.2.2.2.2.2])), (oa, .inr (6, [.long o.1, .int o.2.1, .int o.2.2.1, .long o.2.2.2]))] ++ (wlc cO e0 z.2.2.2.2.2.2.2.2 ((Wl ++ [(oa, o)]).length) (mo + 1) (some (wq.1, va_up wq.2 Wl.length (some oa))) ++ Q)) := hD
            have hP9 := hP.part (cx := [(z.1, .inr (7, [.int z.2.1, .int (nI z.2.2.1), .int z.2.2.2.1, .int z.2.2.2.2.1, .ref z.2.2.2.2.2.1, .int z.2.2.2.2.2.2.1, .long z.2.2.2.2.2.2.2.1, .ref z.2.2.2.2.2.2.2.2])), (oa, .inr (6, [.long o.1, .int o.2.1, .int o.2.2.1, .long o.2.2.2]))]) [0, 1] rfl
            have hD9 := hD.part (cx := [(z.1, .inr (7, [.int z.2.1, .int (nI z.2.2.1), .int z.2.2.2.1, .int z.2.2.2.2.1, .ref z.2.2.2.2.2.1, .int z.2.2.2.2.2.2.1, .long z.2.2.2.2.2.2.2.1, .ref z.2.2.2.2.2.2.2.2])), (oa, .inr (6, [.long o.1, .int o.2.1, .int o.2.2.1, .long o.2.2.2]))]) [0, 1] (by decide) rfl
            have hK9 := hK.sub (tys' := [(cO, .object "java/lang/Object")]) [0] rfl
            refine W.widen (k := 1) (n := 10) (by omega) (by omega) ?_
            exact W.vret hx hb hr (fun t ht hW => ⟨⟨(Wl ++ [(oa, o)], mo + 1, some (wq.1, va_up wq.2 Wl.length (some oa))), rfl, ⟨Or.inr ⟨hnn, (if_pos (by omega)).symm⟩, el_add (o := (oa, o)) hel, by rw [List.length_append, List.length_singleton]; omega⟩, ⟨by rw [ht]; exact hP9, va_K.moved hW.alike hK9, hD9⟩⟩, hS.F ht⟩) hS.2.2 d_Programme_keep_72
        · have h10 := mt (nI_leI (by omega) (by omega)).mpr h10
          refine lv_aload_n hx hb d_Programme_keep_13 rfl (lv_at hl 0 rfl) ?_
          refine va_get (D := D) (ci := 7) (v := .ref z.2.2.2.2.2.2.2.2) (C := R_Programme) (T := F_Programme) (N := 8) hx hb hts i_Programme hown hK hP 0 rfl rfl 7 (by decide) (hts _ wd_595) (fun _ h9 => h9) rfl d_Programme_keep_14 ?_
          refine lv_iload_n hx hb d_Programme_keep_17 rfl (lv_at hl 2 rfl) ?_
          obtain ⟨hga, ham⟩ := hel j (by omega)
          obtain ⟨q2, hq2⟩ := List.getElem?_of_mem (List.mem_append_right [(z.1, .inr (7, [.int z.2.1, .int (nI z.2.2.1), .int z.2.2.2.1, .int z.2.2.2.2.1, .ref z.2.2.2.2.2.1, .int z.2.2.2.2.2.2.1, .long z.2.2.2.2.2.2.2.1, .ref z.2.2.2.2.2.2.2.2])), (oa, .inr (6, [.long o.1, .int o.2.1, .int o.2.2.1, .long o.2.2.2])), (z.2.2.2.2.2.2.2.2, .inr (12, [.ref wq.1, .int (nI Wl.length), .int mo])), (wq.1, .inl (cO, 10, .inr (.inr (.inr (.inr wq.2)))))] ham)
          have hPc := hP.sub (ws' := [(z.2.2.2.2.2.2.2.2, .inr (12, [.ref wq.1, .int (nI Wl.length), .int mo])), (wq.1, .inl (cO, 10, .inr (.inr (.inr (.inr wq.2)))))]) [2, 3] rfl
          have hKc := hK.sub (tys' := [(cO, .object "java/lang/Object")]) [0] rfl
          refine z_cq (va_runV (As := [.int (nI j)]) (rest := []) ⟨hx, hb, hml, hown, hts⟩ (c_AL_get l D cO z.2.2.2.2.2.2.2.2 wq.1 Wl.length mo wq.2 j (by omega) (by omega)) (z_cV hN wd_309 wd_66 wd_330 hd_AL_get rfl rfl ⟨Nat.le_of_ble_eq_true rfl, Nat.le_of_ble_eq_true rfl⟩ wd_307 wd_308) (z_preV (va_recv (ci := 12) (q0 := 2) hK hP rfl rfl) hPc hKc hN) rfl rfl hl.1 rfl (lv_room (Nat.le_of_ble_eq_true rfl)) d_Programme_keep_18 ⟨Nat.le_of_ble_eq_true rfl, Nat.le_of_ble_eq_true rfl⟩) (fun r18 e18 => ?_)
          subst e18
          refine z_topq (w := some ((Wl.getD j (0, oz0)).1)) hga ?_
          refine va_castY hx hb hown (hts _ wd_417) (hN _ wd_1487) (va_recv (ci := 6) (q0 := q2) hK hP rfl hq2) d_Programme_keep_21 ?_
          refine va_getN (D := D) (ci := 6) (v := .int ((Wl.getD j (0, oz0)).2.2.1)) (C := R_Order) (T := F_Order) (N := 4) hx hb hts i_Order hown hK hP q2 hq2 rfl 1 (by decide) (hts _ wd_445) (fun _ h9 => h9) rfl d_Programme_keep_24 ?_
          refine lv_aload_n hx hb d_Programme_keep_27 rfl (lv_at hl 1 rfl) ?_
          refine va_getN (D := D) (ci := 6) (v := .int o.2.1) (C := R_Order) (T := F_Order) (N := 4) hx hb hts i_Order hown hK hP 1 rfl rfl 1 (by decide) (hts _ wd_445) (fun _ h9 => h9) rfl d_Programme_keep_28 ?_
          refine lv_icmp_ne (tgt := 45) hx hb d_Programme_keep_31 rfl (fun h31 => ?_) (fun h31 => ?_)
          · have h31 : ¬ (Wl.getD j (0, oz0)).2.2.1 = o.2.1 := h31
            refine lv_iinc (k := 2) (v := nI (j + 1)) (lv' := [(2, .int (nI (j + 1))), (0, .ref z.1), (1, .ref oa)]) hx hb d_Programme_keep_45 hl rfl (nI_1 j) (by decide) rfl (fun ls hl => ?_)
            refine lv_goto (tgt := 2) hx hb d_Programme_keep_48 rfl ?_
            exact ih2 (j + 1) H locs ls (by omega) (by omega) (fun i hi => by by_cases c9 : i = j; rw [c9]; exact h31; exact hne i (by omega)) (lv_sub hl [1, 2, 0] rfl) hP hD hS
          · have h31 : (Wl.getD j (0, oz0)).2.2.1 = o.2.1 := by first | exact h31 | exact Classical.not_not.mp h31
            refine lv_aload_n hx hb d_Programme_keep_34 rfl (lv_at hl 0 rfl) ?_
            refine va_get (D := D) (ci := 7) (v := .ref z.2.2.2.2.2.2.2.2) (C := R_Programme) (T := F_Programme) (N := 8) hx hb hts i_Programme hown hK hP 0 rfl rfl 7 (by decide) (hts _ wd_595) (fun _ h9 => h9) rfl d_Programme_keep_35 ?_
            refine lv_iload_n hx hb d_Programme_keep_38 rfl (lv_at hl 2 rfl) ?_
            refine lv_aload_n hx hb d_Programme_keep_39 rfl (lv_at hl 1 rfl) ?_
            have hPc := hP.part (cx := [(z.2.2.2.2.2.2.2.2, .inr (12, [.ref wq.1, .int (nI Wl.length), .int mo])), (wq.1, .inl (cO, 10, .inr (.inr (.inr (.inr wq.2))))), (oa, .inr (6, [.long o.1, .int o.2.1, .int o.2.2.1, .long o.2.2.2]))]) [2, 3, 1] rfl
            have hKc := hK.sub (tys' := [(cO, .object "java/lang/Object")]) [0] rfl
            have hDc := hD.part (cx := [(z.2.2.2.2.2.2.2.2, .inr (12, [.ref wq.1, .int (nI Wl.length), .int mo])), (wq.1, .inl (cO, 10, .inr (.inr (.inr (.inr wq.2))))), (oa, .inr (6, [.long o.1, .int o.2.1, .int o.2.2.1, .long o.2.2.2]))]) [2, 3, 1] (by decide) rfl
            have hFc := va_freeP (cx := [(z.2.2.2.2.2.2.2.2, .inr (12, [.ref wq.1, .int (nI Wl.length), .int mo])), (wq.1, .inl (cO, 10, .inr (.inr (.inr (.inr wq.2))))), (oa, .inr (6, [.long o.1, .int o.2.1, .int o.2.2.1, .long o.2.2.2]))]) hD hS hA [2, 3, 1] rfl
            refine va_callq (va_runV (As := [.int (nI j), .ref oa]) (rest := []) ⟨hx, hb, hml, hown, hts⟩ (c_AL_set l D H.size cO z.2.2.2.2.2.2.2.2 wq.1 mo wq.2 Wl Q oa o j hel hW6 (by omega)) (z_cV hN wd_673 wd_66 wd_670 hd_AL_set rfl rfl ⟨Nat.le_of_ble_eq_true rfl, Nat.le_of_ble_eq_true rfl⟩ wd_671 wd_672) (z_preVm (va_recv (ci := 12) (q0 := 2) hK hP rfl rfl) hPc hKc hN hDc) rfl rfl hl.1 rfl (lv_room (Nat.le_of_ble_eq_true rfl)) d_Programme_keep_40 ⟨Nat.le_of_ble_eq_true rfl, Nat.le_of_ble_eq_true rfl⟩) hS (fun q _ h => hFc q h) hFc (fun r40 u40 t H locs ht hvm e40 hB hz1 hk1 hS => ?_)
            obtain ⟨hP1, hK1, hD1⟩ := hB
            rw [ht] at hP1
            obtain ⟨hP, hD⟩ := va_joinP (wr := [(z.1, .inr (7, [.int z.2.1, .int (nI z.2.2.1), .int z.2.2.2.1, .int z.2.2.2.2.1, .ref z.2.2.2.2.2.1, .int z.2.2.2.2.2.2.1, .long z.2.2.2.2.2.2.2.1, .ref z.2.2.2.2.2.2.2.2]))]) (rx := [(z.2.2.2.2.2.2.2.2, .inr (12, [.ref wq.1, .int (nI Wl.length), .int mo])), (wq.1, .inl (cO, 10, .inr (.inr (.inr (.inr (va_up wq.2 j (some oa))))))), (oa, .inr (6, [.long o.1, .int o.2.1, .int o.2.2.1, .long o.2.2.2]))]) hP hD [2, 3, 1] [0] rfl rfl (by decide) (by decide) hk1 hFc hP1 hD1
            clear hk1 hP1 hD1 hFc hPc hDc hz1
            have hP : va_P D classes ([(z.1, .inr (7, [.int z.2.1, .int (nI z.2.2.1), .int z.2.2.2.1, .int z.2.2.2.2.1, .ref z.2.2.2.2.2.1, .int z.2.2.2.2.2.2.1, .long z.2.2.2.2.2.2.2.1, .ref z.2.2.2.2.2.2.2.2])), (z.2.2.2.2.2.2.2.2, .inr (12, [.ref wq.1, .int (nI Wl.length), .int mo])), (wq.1, .inl (cO, 10, .inr (.inr (.inr (.inr (va_up wq.2 j (some oa))))))), (oa, .inr (6, [.long o.1, .int o.2.1, .int o.2.2.1, .long o.2.2.2]))] ++ Q) H := hP
            have hD : va_D A ([(z.1, .inr (7, [.int z.2.1, .int (nI z.2.2.1), .int z.2.2.2.1, .int z.2.2.2.2.1, .ref z.2.2.2.2.2.1, .int z.2.2.2.2.2.2.1, .long z.2.2.2.2.2.2.2.1, .ref z.2.2.2.2.2.2.2.2])), (z.2.2.2.2.2.2.2.2, .inr (12, [.ref wq.1, .int (nI Wl.length), .int mo])), (wq.1, .inl (cO, 10, .inr (.inr (.inr (.inr (va_up wq.2 j (some oa))))))), (oa, .inr (6, [.long o.1, .int o.2.1, .int o.2.2.1, .long o.2.2.2]))] ++ Q) := hD
            refine z_popq hx hb d_Programme_keep_43 ?_
            have hn9 : Wl.length = (Wl.set j (oa, o)).length := by rw [List.length_set]
            rw [hn9] at hP hD
            have hP := hP.part (cx := [(z.1, .inr (7, [.int z.2.1, .int (nI z.2.2.1), .int z.2.2.2.1, .int z.2.2.2.2.1, .ref z.2.2.2.2.2.1, .int z.2.2.2.2.2.2.1, .long z.2.2.2.2.2.2.2.1, .ref z.2.2.2.2.2.2.2.2])), (oa, .inr (6, [.long o.1, .int o.2.1, .int o.2.2.1, .long o.2.2.2])), (z.2.2.2.2.2.2.2.2, .inr (12, [.ref wq.1, .int (nI (Wl.set j (oa, o)).length), .int mo])), (wq.1, .inl (cO, 10, .inr (.inr (.inr (.inr (va_up wq.2 j (some oa)))))))]) [0, 3, 1, 2] rfl
            have hD := hD.part (cx := [(z.1, .inr (7, [.int z.2.1, .int (nI z.2.2.1), .int z.2.2.2.1, .int z.2.2.2.2.1, .ref z.2.2.2.2.2.1, .int z.2.2.2.2.2.2.1, .long z.2.2.2.2.2.2.2.1, .ref z.2.2.2.2.2.2.2.2])), (oa, .inr (6, [.long o.1, .int o.2.1, .int o.2.2.1, .long o.2.2.2])), (z.2.2.2.2.2.2.2.2, .inr (12, [.ref wq.1, .int (nI (Wl.set j (oa, o)).length), .int mo])), (wq.1, .inl (cO, 10, .inr (.inr (.inr (.inr (va_up wq.2 j (some oa)))))))]) [0, 3, 1, 2] (by decide) rfl
            have hP : va_P D classes ([(z.1, .inr (7, [.int z.2.1, .int (nI z.2.2.1), .int z.2.2.2.1, .int z.2.2.2.2.1, .ref z.2.2.2.2.2.1, .int z.2.2.2.2.2.2.1, .long z.2.2.2.2.2.2.2.1, .ref z.2.2.2.2.2.2.2.2])), (oa, .inr (6, [.long o.1, .int o.2.1, .int o.2.2.1, .long o.2.2.2]))] ++ (wlc cO e0 z.2.2.2.2.2.2.2.2 ((Wl.set j (oa, o)).length) mo (some (wq.1, va_up wq.2 j (some oa))) ++ Q)) H := hP
            have hD : va_D A ([(z.1, .inr (7, [.int z.2.1, .int (nI z.2.2.1), .int z.2.2.2.1, .int z.2.2.2.2.1, .ref z.2.2.2.2.2.1, .int z.2.2.2.2.2.2.1, .long z.2.2.2.2.2.2.2.1, .ref z.2.2.2.2.2.2.2.2])), (oa, .inr (6, [.long o.1, .int o.2.1, .int o.2.2.1, .long o.2.2.2]))] ++ (wlc cO e0 z.2.2.2.2.2.2.2.2 ((Wl.set j (oa, o)).length) mo (some (wq.1, va_up wq.2 j (some oa))) ++ Q)) := hD
            have hP9 := hP.part (cx := [(z.1, .inr (7, [.int z.2.1, .int (nI z.2.2.1), .int z.2.2.2.1, .int z.2.2.2.2.1, .ref z.2.2.2.2.2.1, .int z.2.2.2.2.2.2.1, .long z.2.2.2.2.2.2.2.1, .ref z.2.2.2.2.2.2.2.2])), (oa, .inr (6, [.long o.1, .int o.2.1, .int o.2.2.1, .long o.2.2.2]))]) [0, 1] rfl
            have hD9 := hD.part (cx := [(z.1, .inr (7, [.int z.2.1, .int (nI z.2.2.1), .int z.2.2.2.1, .int z.2.2.2.2.1, .ref z.2.2.2.2.2.1, .int z.2.2.2.2.2.2.1, .long z.2.2.2.2.2.2.2.1, .ref z.2.2.2.2.2.2.2.2])), (oa, .inr (6, [.long o.1, .int o.2.1, .int o.2.2.1, .long o.2.2.2]))]) [0, 1] (by decide) rfl
            have hK9 := hK.sub (tys' := [(cO, .object "java/lang/Object")]) [0] rfl
            refine W.widen (k := 1) (n := 10) (by omega) (by omega) ?_
            exact W.vret hx hb hr (fun t ht hW => ⟨⟨(Wl.set j (oa, o), mo, some (wq.1, va_up wq.2 j (some oa))), rfl, ⟨Or.inl ⟨j, by omega, h31, hne, rfl⟩, el_set (o := (oa, o)) hel, by rw [List.length_set]; exact hW6⟩, ⟨by rw [ht]; exact hP9, va_K.moved hW.alike hK9, hD9⟩⟩, hS.F ht⟩) hS.2.2 d_Programme_keep_44
    exact loop2 _ 0 s.heap [] ls (Nat.lt_succ_self _) (Nat.zero_le _) (fun i hi => absurd hi (Nat.not_lt_zero i)) (lv_sub hl [1, 2, 0] rfl) hP hD hS
