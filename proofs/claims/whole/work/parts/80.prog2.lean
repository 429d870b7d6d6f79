theorem wd_420 : (Jvm.Cond.methodLink "StreamSplitter$Programme" (67 : Nat) ({ cls := "java/util/ArrayList", name := "remove", desc := "(I)Ljava/lang/Object;" } : Jvm.MethodName)) ∈ lw_ok := List.mem_filter.mpr ⟨List.mem_of_getElem? (i := 420) (by decide +kernel), rfl⟩
theorem wd_421 : (Jvm.Cond.instanceMethod ({ cls := "java/util/ArrayList", name := "remove", desc := "(I)Ljava/lang/Object;" } : Jvm.MethodName)) ∈ lw_ok := List.mem_filter.mpr ⟨List.mem_of_getElem? (i := 421) (by decide +kernel), rfl⟩
theorem wd_422 : (Jvm.Cond.selects "java/util/ArrayList" ({ cls := "java/util/ArrayList", name := "remove", desc := "(I)Ljava/lang/Object;" } : Jvm.MethodName) ({ cls := "java/util/ArrayList", name := "remove", desc := "(I)Ljava/lang/Object;" } : Jvm.MethodName)) ∈ lw_ok := List.mem_filter.mpr ⟨List.mem_of_getElem? (i := 422) (by decide +kernel), rfl⟩
set_option maxRecDepth 100000 in
theorem wd_423 : (Jvm.Cond.code ({ cls := "java/util/ArrayList", name := "remove", desc := "(I)Ljava/lang/Object;" } : Jvm.MethodName) prog_28_method_29_code (4 : Nat) (Option.some (Jvm.ClassFile.FieldType.object "java/lang/Object"))) ∈ lw_ok := List.mem_filter.mpr ⟨List.mem_of_getElem? (i := 423) (by rfl), rfl⟩
theorem hd_AL_remove : y_AL_remove.cls ≠ "java/lang/invoke/MethodHandle" ∧ y_AL_remove.cls ≠ "java/lang/invoke/VarHandle" ∧ (parseMethodDescriptor y_AL_remove.desc).map (fun d => d.parameters.length) = some 1 := by decide +kernel
theorem d_Programme_cancel_0 : decode b_Programme_cancel 0 = .ok (.aload_n 0, 1) := by decide +kernel
theorem d_Programme_cancel_1 : decode b_Programme_cancel 1 = .ok (.getfield 31, 3) := by decide +kernel
theorem d_Programme_cancel_4 : decode b_Programme_cancel 4 = .ok (.invokevirtual 47, 3) := by decide +kernel
theorem d_Programme_cancel_7 : decode b_Programme_cancel 7 = .ok (.iconst 1, 1) := by decide +kernel
theorem d_Programme_cancel_8 : decode b_Programme_cancel 8 = .ok (.isub, 1) := by decide +kernel
theorem d_Programme_cancel_9 : decode b_Programme_cancel 9 = .ok (.istore_n 2, 1) := by decide +kernel
theorem d_Programme_cancel_10 : decode b_Programme_cancel 10 = .ok (.iload_n 2, 1) := by decide +kernel
theorem d_Programme_cancel_11 : decode b_Programme_cancel 11 = .ok (.ifCond .lt 36, 3) := by decide +kernel
theorem d_Programme_cancel_14 : decode b_Programme_cancel 14 = .ok (.aload_n 0, 1) := by decide +kernel
theorem d_Programme_cancel_15 : decode b_Programme_cancel 15 = .ok (.getfield 31, 3) := by decide +kernel
theorem d_Programme_cancel_18 : decode b_Programme_cancel 18 = .ok (.iload_n 2, 1) := by decide +kernel
theorem d_Programme_cancel_19 : decode b_Programme_cancel 19 = .ok (.invokevirtual 51, 3) := by decide +kernel
theorem d_Programme_cancel_22 : decode b_Programme_cancel 22 = .ok (.checkcast 55, 3) := by decide +kernel
theorem d_Programme_cancel_25 : decode b_Programme_cancel 25 = .ok (.getfield 64, 3) := by decide +kernel
theorem d_Programme_cancel_28 : decode b_Programme_cancel 28 = .ok (.iload_n 1, 1) := by decide +kernel
theorem d_Programme_cancel_29 : decode b_Programme_cancel 29 = .ok (.if_icmp .ne 12, 3) := by decide +kernel
theorem d_Programme_cancel_32 : decode b_Programme_cancel 32 = .ok (.aload_n 0, 1) := by decide +kernel
theorem d_Programme_cancel_33 : decode b_Programme_cancel 33 = .ok (.getfield 31, 3) := by decide +kernel
theorem d_Programme_cancel_36 : decode b_Programme_cancel 36 = .ok (.iload_n 2, 1) := by decide +kernel
theorem d_Programme_cancel_37 : decode b_Programme_cancel 37 = .ok (.invokevirtual 67, 3) := by decide +kernel
theorem d_Programme_cancel_40 : decode b_Programme_cancel 40 = .ok (.pop, 1) := by decide +kernel
theorem d_Programme_cancel_41 : decode b_Programme_cancel 41 = .ok (.iinc 2 (-1), 3) := by decide +kernel
theorem d_Programme_cancel_44 : decode b_Programme_cancel 44 = .ok (.goto (-34), 3) := by decide +kernel
theorem d_Programme_cancel_47 : decode b_Programme_cancel 47 = .ok (.return_, 1) := by decide +kernel
set_option maxHeartbeats 4000000 in
set_option maxRecDepth 100000 in
theorem c_Programme_cancel (l : Launch) (D : va_G) (B0 : State) (hG : zG B0) (sz : Nat) (cO : ClassId) (e0 : Nat) (z : PZ) (mo : Int32) (wst : Option (Nat × (Nat → Option Nat))) (Wl : List (Nat × Int64 × Int32 × Int32 × Int64)) (Q : va_W) (nm : Int32) (he0 : zE0 B0 e0) (hwk : wok Q wst Wl) (hW6 : Wl.length ≤ 6) : Met l y_Programme_cancel [Cond.code y_Programme_cancel b_Programme_cancel 3 none] ({ frames := 3, cells := 0, slots := 0, locals := 66 }) (zMo [.ref z.1, .int nm] D ([(z.1, .inr (7, [.int z.2.1, .int (nI z.2.2.1), .int z.2.2.2.1, .int z.2.2.2.2.1, .ref z.2.2.2.2.2.1, .int z.2.2.2.2.2.2.1, .long z.2.2.2.2.2.2.2.1, .ref z.2.2.2.2.2.2.2.2]))] ++ (wlc cO e0 z.2.2.2.2.2.2.2.2 Wl.length mo wst ++ Q)) [(cO, .object "java/lang/Object")] sz B0) (va_Qv (fun (u : WU9) => u.1 = Wl.filter (cnP nm) ∧ wok Q u.2.2 u.1 ∧ u.1.length ≤ 6) (fun (u : WU9) t => zW D (va_A ([(z.1, .inr (7, [.int z.2.1, .int (nI z.2.2.1), .int z.2.2.2.1, .int z.2.2.2.2.1, .ref z.2.2.2.2.2.1, .int z.2.2.2.2.2.2.1, .long z.2.2.2.2.2.2.2.1, .ref z.2.2.2.2.2.2.2.2]))] ++ (wlc cO e0 z.2.2.2.2.2.2.2.2 Wl.length mo wst ++ Q)) sz) ([(z.1, .inr (7, [.int z.2.1, .int (nI z.2.2.1), .int z.2.2.2.1, .int z.2.2.2.2.1, .ref z.2.2.2.2.2.1, .int z.2.2.2.2.2.2.1, .long z.2.2.2.2.2.2.2.1, .ref z.2.2.2.2.2.2.2.2]))] ++ (wlc cO e0 z.2.2.2.2.2.2.2.2 u.1.length u.2.1 u.2.2 ++ Q)) [(cO, .object "java/lang/Object")] t) (va_A ([(z.1, .inr (7, [.int z.2.1, .int (nI z.2.2.1), .int z.2.2.2.1, .int z.2.2.2.2.1, .ref z.2.2.2.2.2.1, .int z.2.2.2.2.2.2.1, .long z.2.2.2.2.2.2.2.1, .ref z.2.2.2.2.2.2.2.2]))] ++ (wlc cO e0 z.2.2.2.2.2.2.2.2 Wl.length mo wst ++ Q)) sz)) 0 0 (va_A ([(z.1, .inr (7, [.int z.2.1, .int (nI z.2.2.1), .int z.2.2.2.1, .int z.2.2.2.2.1, .ref z.2.2.2.2.2.1, .int z.2.2.2.2.2.2.1, .long z.2.2.2.2.2.2.2.1, .ref z.2.2.2.2.2.2.2.2]))] ++ (wlc cO e0 z.2.2.2.2.2.2.2.2 Wl.length mo wst ++ Q)) sz) := by
  refine Met.ofW (cc := b_Programme_cancel) (maxL := 3) (ret := none) (by decide) rfl ?_
  intro p e s m args below meth cd s₁ Bd hml hv
  obtain ⟨rfl, hsz, hP, hK, hN, hD0, hO⟩ := hv
  have hx := Bd.exec
  have hb := Bd.bytes
  have hr := Bd.returns
  have hts := hN.use (a := ([.ref z.1, .int nm]).toArray)
  have hown : s.vm.findClass R_Programme = some m.cls := findClass_of_methodNamed Bd.named
  have hlocks := Bd.notSynchronized
  subst hsz
  have hD := hD0.self (sz := s.heap.size)
  have hAO := z_AO hD0 hO
  clear hD0
  have hA : ∀ q : Nat, s.heap.size ≤ q → va_A ([(z.1, .inr (7, [.int z.2.1, .int (nI z.2.2.1), .int z.2.2.2.1, .int z.2.2.2.2.1, .ref z.2.2.2.2.2.1, .int z.2.2.2.2.2.2.1, .long z.2.2.2.2.2.2.2.1, .ref z.2.2.2.2.2.2.2.2]))] ++ (wlc cO e0 z.2.2.2.2.2.2.2.2 Wl.length mo wst ++ Q)) s.heap.size q := fun q h => Or.inr h
  have hS : va_S (va_A ([(z.1, .inr (7, [.int z.2.1, .int (nI z.2.2.1), .int z.2.2.2.1, .int z.2.2.2.2.1, .ref z.2.2.2.2.2.1, .int z.2.2.2.2.2.2.1, .long z.2.2.2.2.2.2.2.1, .ref z.2.2.2.2.2.2.2.2]))] ++ (wlc cO e0 z.2.2.2.2.2.2.2.2 Wl.length mo wst ++ Q)) s.heap.size) s.heap s.heap [] := va_S.rf
  generalize hAe : va_A ([(z.1, .inr (7, [.int z.2.1, .int (nI z.2.2.1), .int z.2.2.2.1, .int z.2.2.2.2.1, .ref z.2.2.2.2.2.1, .int z.2.2.2.2.2.2.1, .long z.2.2.2.2.2.2.2.1, .ref z.2.2.2.2.2.2.2.2]))] ++ (wlc cO e0 z.2.2.2.2.2.2.2.2 Wl.length mo wst ++ Q)) s.heap.size = A at hD hA hS hAO ⊢
  have hP : va_P D classes ([(z.1, .inr (7, [.int z.2.1, .int (nI z.2.2.1), .int z.2.2.2.1, .int z.2.2.2.2.1, .ref z.2.2.2.2.2.1, .int z.2.2.2.2.2.2.1, .long z.2.2.2.2.2.2.2.1, .ref z.2.2.2.2.2.2.2.2]))] ++ (wlc cO e0 z.2.2.2.2.2.2.2.2 Wl.length mo wst ++ Q)) s.heap := hP
  have hl := lv_entry ([.ref z.1, .int nm]) (n := 3) (Nat.le_of_ble_eq_true rfl)
  rw [lg_entry_eq]
  generalize (lg_sl ([.ref z.1, .int nm]) ++ List.replicate (3 - (lg_sl ([.ref z.1, .int nm])).length) Slot.unset).toArray = ls at hl ⊢
  have hl : lv_has ls 3 [(0, .ref z.1), (1, .int nm)] := hl
  cases wst with
  | none =>
    obtain rfl : Wl = [] := hwk
    have hP : va_P D classes ([(z.1, .inr (7, [.int z.2.1, .int (nI z.2.2.1), .int z.2.2.2.1, .int z.2.2.2.2.1, .ref z.2.2.2.2.2.1, .int z.2.2.2.2.2.2.1, .long z.2.2.2.2.2.2.2.1, .ref z.2.2.2.2.2.2.2.2])), (z.2.2.2.2.2.2.2.2, .inr (12, [.ref e0, .int 0, .int mo]))] ++ Q) s.heap := hP
    have hD : va_D A ([(z.1, .inr (7, [.int z.2.1, .int (nI z.2.2.1), .int z.2.2.2.1, .int z.2.2.2.2.1, .ref z.2.2.2.2.2.1, .int z.2.2.2.2.2.2.1, .long z.2.2.2.2.2.2.2.1, .ref z.2.2.2.2.2.2.2.2])), (z.2.2.2.2.2.2.2.2, .inr (12, [.ref e0, .int 0, .int mo]))] ++ Q) := hD
    refine lv_aload_n hx hb d_Programme_cancel_0 rfl (lv_at hl 0 rfl) ?_
    refine va_get (D := D) (ci := 7) (v := .ref z.2.2.2.2.2.2.2.2) (C := R_Programme) (T := F_Programme) (N := 8) hx hb hts i_Programme hown hK hP 0 rfl rfl 7 (by decide) (hts _ wd_595) (fun _ h9 => h9) rfl d_Programme_cancel_1 ?_
    have hPc := hP.sub (ws' := [(z.2.2.2.2.2.2.2.2, .inr (12, [.ref e0, .int 0, .int mo]))]) [1] rfl
    have hKc := hK.sub (tys' := []) [] rfl
    refine z_ci (va_runV (As := []) (rest := []) ⟨hx, hb, hml, hown, hts⟩ (c_AL_size l D z.2.2.2.2.2.2.2.2 e0 0 mo ) (z_cV hN wd_305 wd_66 wd_329 hd_AL_size rfl rfl ⟨Nat.le_of_ble_eq_true rfl, Nat.le_of_ble_eq_true rfl⟩ wd_303 wd_304) (z_preV (va_recv (ci := 12) (q0 := 1) hK hP rfl rfl) hPc hKc hN) rfl rfl hl.1 rfl (lv_room (Nat.le_of_ble_eq_true rfl)) d_Programme_cancel_4 ⟨Nat.le_of_ble_eq_true rfl, Nat.le_of_ble_eq_true rfl⟩) (fun r4 e4 => ?_)
    refine z_topi (w := 0) e4 ?_
    refine lv_iconst (v := 1) hx hb d_Programme_cancel_7 (by decide) ?_
    refine lv_isub hx hb d_Programme_cancel_8 ?_
    refine z_topi (w := (-1)) (by decide) ?_
    refine lv_istore_n (lv' := [(2, .int (-1)), (0, .ref z.1), (1, .int nm)]) hx hb d_Programme_cancel_9 rfl hl (by decide) rfl (fun ls hl => ?_)
    refine lv_iload_n hx hb d_Programme_cancel_10 rfl (lv_at hl 0 rfl) ?_
    refine lv_if_lt (tgt := 47) hx hb d_Programme_cancel_11 rfl (fun h11 => ?_) (fun h9 => absurd h9 (by decide))
    have hP : va_P D classes ([(z.1, .inr (7, [.int z.2.1, .int (nI z.2.2.1), .int z.2.2.2.1, .int z.2.2.2.2.1, .ref z.2.2.2.2.2.1, .int z.2.2.2.2.2.2.1, .long z.2.2.2.2.2.2.2.1, .ref z.2.2.2.2.2.2.2.2]))] ++ (wlc cO e0 z.2.2.2.2.2.2.2.2 (([] : List (Nat × Int64 × Int32 × Int32 × Int64)).length) mo none ++ Q)) s.heap := hP
    have hD : va_D A ([(z.1, .inr (7, [.int z.2.1, .int (nI z.2.2.1), .int z.2.2.2.1, .int z.2.2.2.2.1, .ref z.2.2.2.2.2.1, .int z.2.2.2.2.2.2.1, .long z.2.2.2.2.2.2.2.1, .ref z.2.2.2.2.2.2.2.2]))] ++ (wlc cO e0 z.2.2.2.2.2.2.2.2 (([] : List (Nat × Int64 × Int32 × Int32 × Int64)).length) mo none ++ Q)) := hD
    have hP9 := hP.part (cx := [(z.1, .inr (7, [.int z.2.1, .int (nI z.2.2.1), .int z.2.2.2.1, .int z.2.2.2.2.1, .ref z.2.2.2.2.2.1, .int z.2.2.2.2.2.2.1, .long z.2.2.2.2.2.2.2.1, .ref z.2.2.2.2.2.2.2.2]))]) [0] rfl
    have hD9 := hD.part (cx := [(z.1, .inr (7, [.int z.2.1, .int (nI z.2.2.1), .int z.2.2.2.1, .int z.2.2.2.2.1, .ref z.2.2.2.2.2.1, .int z.2.2.2.2.2.2.1, .long z.2.2.2.2.2.2.2.1, .ref z.2.2.2.2.2.2.2.2]))]) [0] (by decide) rfl
    have hK9 := hK.sub (tys' := [(cO, .object "java/lang/Object")]) [0] rfl
    exact W.vret hx hb hr (fun t ht hW => ⟨⟨([], mo, none), rfl, ⟨rfl, rfl, Nat.zero_le _⟩, ⟨by rw [ht]; exact hP9, va_K.moved hW.alike hK9, hD9⟩⟩, hS.F ht⟩) hS.2.2 d_Programme_cancel_47
  | some wq =>
    have hel : elO Q wq.2 Wl := hwk
    have hP : va_P D classes ([(z.1, .inr (7, [.int z.2.1, .int (nI z.2.2.1), .int z.2.2.2.1, .int z.2.2.2.2.1, .ref z.2.2.2.2.2.1, .int z.2.2.2.2.2.2.1, .long z.2.2.2.2.2.2.2.1, .ref z.2.2.2.2.2.2.2.2])), (z.2.2.2.2.2.2.2.2, .inr (12, [.ref wq.1, .int (nI Wl.length), .int mo])), (wq.1, .inl (cO, 10, .inr (.inr (.inr (.inr wq.2)))))] ++ Q) s.heap := hP
    have hD : va_D A ([(z.1, .inr (7, [.int z.2.1, .int (nI z.2.2.1), .int z.2.2.2.1, .int z.2.2.2.2.1, .ref z.2.2.2.2.2.1, .int z.2.2.2.2.2.2.1, .long z.2.2.2.2.2.2.2.1, .ref z.2.2.2.2.2.2.2.2])), (z.2.2.2.2.2.2.2.2, .inr (12, [.ref wq.1, .int (nI Wl.length), .int mo])), (wq.1, .inl (cO, 10, .inr (.inr (.inr (.inr wq.2)))))] ++ Q) := hD
    refine lv_aload_n hx hb d_Programme_cancel_0 rfl (lv_at hl 0 rfl) ?_
    refine va_get (D := D) (ci := 7) (v := .ref z.2.2.2.2.2.2.2.2) (C := R_Programme) (T := F_Programme) (N := 8) hx hb hts i_Programme hown hK hP 0 rfl rfl 7 (by decide) (hts _ wd_595) (fun _ h9 => h9) rfl d_Programme_cancel_1 ?_
    have hPc := hP.sub (ws' := [(z.2.2.2.2.2.2.2.2, .inr (12, [.ref wq.1, .int (nI Wl.length), .int mo]))]) [1] rfl
    have hKc := hK.sub (tys' := []) [] rfl
    refine z_ci (va_runV (As := []) (rest := []) ⟨hx, hb, hml, hown, hts⟩ (c_AL_size l D z.2.2.2.2.2.2.2.2 wq.1 (nI Wl.length) mo ) (z_cV hN wd_305 wd_66 wd_329 hd_AL_size rfl rfl ⟨Nat.le_of_ble_eq_true rfl, Nat.le_of_ble_eq_true rfl⟩ wd_303 wd_304) (z_preV (va_recv (ci := 12) (q0 := 1) hK hP rfl rfl) hPc hKc hN) rfl rfl hl.1 rfl (lv_room (Nat.le_of_ble_eq_true rfl)) d_Programme_cancel_4 ⟨Nat.le_of_ble_eq_true rfl, Nat.le_of_ble_eq_true rfl⟩) (fun r4 e4 => ?_)
    refine z_topi (w := (nI Wl.length)) e4 ?_
    refine lv_iconst (v := 1) hx hb d_Programme_cancel_7 (by decide) ?_
    refine lv_isub hx hb d_Programme_cancel_8 ?_
    refine lv_istore_n (lv' := [(2, .int ((nI Wl.length) - 1)), (0, .ref z.1), (1, .int nm)]) hx hb d_Programme_cancel_9 rfl hl (by decide) rfl (fun ls hl => ?_)
    have loop10 : ∀ (N : Nat) (i : Nat) (g : Nat → Option Nat) (mo1 : Int32) (H : Heap) (locs : List Loc) (ls : Array Slot) (hm : i < N) (hi : i ≤ Wl.length) (hg : elO Q g (cnL nm Wl i)) (hl : lv_has ls 3 [(0, .ref z.1), (1, .int nm), (2, .int (nI i - 1))]) (hP : va_P D classes ([(z.1, .inr (7, [.int z.2.1, .int (nI z.2.2.1), .int z.2.2.2.1, .int z.2.2.2.2.1, .ref z.2.2.2.2.2.1, .int z.2.2.2.2.2.2.1, .long z.2.2.2.2.2.2.2.1, .ref z.2.2.2.2.2.2.2.2])), (z.2.2.2.2.2.2.2.2, .inr (12, [.ref wq.1, .int (nI (cnL nm Wl i).length), .int mo1])), (wq.1, .inl (cO, 10, .inr (.inr (.inr (.inr g)))))] ++ Q) H) (hD : va_D A ([(z.1, .inr (7, [.int z.2.1, .int (nI z.2.2.1), .int z.2.2.2.1, .int z.2.2.2.2.1, .ref z.2.2.2.2.2.1, .int z.2.2.2.2.2.2.1, .long z.2.2.2.2.2.2.2.1, .ref z.2.2.2.2.2.2.2.2])), (z.2.2.2.2.2.2.2.2, .inr (12, [.ref wq.1, .int (nI (cnL nm Wl i).length), .int mo1])), (wq.1, .inl (cO, 10, .inr (.inr (.inr (.inr g)))))] ++ Q)) (hS : va_S A s.heap H locs), W p l e ({ frames := 3, cells := 0, slots := 0, locals := 66 }) s m ([.ref z.1, .int nm]).toArray below meth cd H locs 0 0 (MQ below (va_Qv (fun (u : WU9) => u.1 = Wl.filter (cnP nm) ∧ wok Q u.2.2 u.1 ∧ u.1.length ≤ 6) (fun (u : WU9) t => zW D (A) ([(z.1, .inr (7, [.int z.2.1, .int (nI z.2.2.1), .int z.2.2.2.1, .int z.2.2.2.2.1, .ref z.2.2.2.2.2.1, .int z.2.2.2.2.2.2.1, .long z.2.2.2.2.2.2.2.1, .ref z.2.2.2.2.2.2.2.2]))] ++ (wlc cO e0 z.2.2.2.2.2.2.2.2 u.1.length u.2.1 u.2.2 ++ Q)) [(cO, .object "java/lang/Object")] t) (A)) ([.ref z.1, .int nm]).toArray s 0 0 (A)) (F0 m 10 ls []) := by
      intro N10
      induction N10 with
      | zero => intro i g mo1 H locs ls hm hi hg hl hP hD hS; exact absurd hm (Nat.not_lt_zero _)
      | succ N10 ih10 =>
        intro i g mo1 H locs ls hm hi hg hl hP hD hS
        refine lv_iload_n hx hb d_Programme_cancel_10 rfl (lv_at hl 2 rfl) ?_
        refine lv_if_lt (tgt := 47) hx hb d_Programme_cancel_11 rfl (fun h11 => ?_) (fun h11 => ?_)
        · obtain rfl : i = 0 := pm_out (by omega) h11
          have hP : va_P D classes ([(z.1, .inr (7, [.int z.2.1, .int (nI z.2.2.1), .int z.2.2.2.1, .int z.2.2.2.2.1, .ref z.2.2.2.2.2.1, .int z.2.2.2.2.2.2.1, .long z.2.2.2.2.2.2.2.1, .ref z.2.2.2.2.2.2.2.2]))] ++ (wlc cO e0 z.2.2.2.2.2.2.2.2 ((cnL nm Wl 0).length) mo1 (some (wq.1, g)) ++ Q)) H := hP
          have hD : va_D A ([(z.1, .inr (7, [.int z.2.1, .int (nI z.2.2.1), .int z.2.2.2.1, .int z.2.2.2.2.1, .ref z.2.2.2.2.2.1, .int z.2.2.2.2.2.2.1, .long z.2.2.2.2.2.2.2.1, .ref z.2.2.2.2.2.2.2.2]))] ++ (wlc cO e0 z.2.2.2.2.2.2.2.2 ((cnL nm Wl 0).length) mo1 (some (wq.1, g)) ++ Q)) := hD
          have hP9 := hP.part (cx := [(z.1, .inr (7, [.int z.2.1, .int (nI z.2.2.1), .int z.2.2.2.1, .int z.2.2.2.2.1, .ref z.2.2.2.2.2.1, .int z.2.2.2.2.2.2.1, .long z.2.2.2.2.2.2.2.1, .ref z.2.2.2.2.2.2.2.2]))]) [0] rfl
          have hD9 := hD.part (cx := [(z.1, .inr (7, [.int z.2.1, .int (nI z.2.2.1), .int z.2.2.2.1, .int z.2.2.2.2.1, .ref z.2.2.2.2.2.1, .int z.2.2.2.2.2.2.1, .long z.2.2.2.2.2.2.2.1, .ref z.2.2.2.2.2.2.2.2]))]) [0] (by decide) rfl
          have hK9 := hK.sub (tys' := [(cO, .object "java/lang/Object")]) [0] rfl
          exact W.vret hx hb hr (fun t ht hW => ⟨⟨(cnL nm Wl 0, mo1, some (wq.1, g)), rfl, ⟨cn_all.2, hg, Nat.le_trans cn_len hW6⟩, ⟨by rw [ht]; exact hP9, va_K.moved hW.alike hK9, hD9⟩⟩, hS.F ht⟩) hS.2.2 d_Programme_cancel_47
        · obtain ⟨k, hk⟩ := pm_in (by omega) h11
          subst hk
          have hkl : k < Wl.length := by omega
          have hgk := cn_get (nm := nm) hkl
          have hc6 := cn_len (nm := nm) (Wl := Wl) (i := k + 1)
          refine lv_aload_n hx hb d_Programme_cancel_14 rfl (lv_at hl 0 rfl) ?_
          refine va_get (D := D) (ci := 7) (v := .ref z.2.2.2.2.2.2.2.2) (C := R_Programme) (T := F_Programme) (N := 8) hx hb hts i_Programme hown hK hP 0 rfl rfl 7 (by decide) (hts _ wd_595) (fun _ h9 => h9) rfl d_Programme_cancel_15 ?_
          refine lv_iload_n hx hb d_Programme_cancel_18 rfl (lv_at hl 2 rfl) ?_
          obtain ⟨hga, ham⟩ := hg k (by first | exact hgk.1 | omega)
          obtain ⟨q2, hq2⟩ := List.getElem?_of_mem (List.mem_append_right [(z.1, .inr (7, [.int z.2.1, .int (nI z.2.2.1), .int z.2.2.2.1, .int z.2.2.2.2.1, .ref z.2.2.2.2.2.1, .int z.2.2.2.2.2.2.1, .long z.2.2.2.2.2.2.2.1, .ref z.2.2.2.2.2.2.2.2])), (z.2.2.2.2.2.2.2.2, .inr (12, [.ref wq.1, .int (nI (cnL nm Wl (k + 1)).length), .int mo1])), (wq.1, .inl (cO, 10, .inr (.inr (.inr (.inr g)))))] ham)
          refine z_topi (w := nI k) (nI_pred k) ?_
          have hPc := hP.sub (ws' := [(z.2.2.2.2.2.2.2.2, .inr (12, [.ref wq.1, .int (nI ((cnL nm Wl (k + 1)).length)), .int mo1])), (wq.1, .inl (cO, 10, .inr (.inr (.inr (.inr g)))))]) [1, 2] rfl
          have hKc := hK.sub (tys' := [(cO, .object "java/lang/Object")]) [0] rfl
          refine z_cq (va_runV (As := [.int (nI k)]) (rest := []) ⟨hx, hb, hml, hown, hts⟩ (c_AL_get l D cO z.2.2.2.2.2.2.2.2 wq.1 ((cnL nm Wl (k + 1)).length) mo1 g k (by first | exact hgk.1 | omega) (by omega)) (z_cV hN wd_309 wd_66 wd_330 hd_AL_get rfl rfl ⟨Nat.le_of_ble_eq_true rfl, Nat.le_of_ble_eq_true rfl⟩ wd_307 wd_308) (z_preV (va_recv (ci := 12) (q0 := 1) hK hP rfl rfl) hPc hKc hN) rfl rfl hl.1 rfl (lv_room (Nat.le_of_ble_eq_true rfl)) d_Programme_cancel_19 ⟨Nat.le_of_ble_eq_true rfl, Nat.le_of_ble_eq_true rfl⟩) (fun r19 e19 => ?_)
          subst e19
          refine z_topq (w := some (((cnL nm Wl (k + 1)).getD k (0, oz0)).1)) hga ?_
          refine va_castY hx hb hown (hts _ wd_417) (hN _ wd_1487) (va_recv (ci := 6) (q0 := q2) hK hP rfl hq2) d_Programme_cancel_22 ?_
          refine va_getN (D := D) (ci := 6) (v := .int (((cnL nm Wl (k + 1)).getD k (0, oz0)).2.2.1)) (C := R_Order) (T := F_Order) (N := 4) hx hb hts i_Order hown hK hP q2 hq2 rfl 1 (by decide) (hts _ wd_445) (fun _ h9 => h9) rfl d_Programme_cancel_25 ?_
          refine lv_iload_n hx hb d_Programme_cancel_28 rfl (lv_at hl 1 rfl) ?_
          refine lv_icmp_ne (tgt := 41) hx hb d_Programme_cancel_29 rfl (fun h29 => ?_) (fun h29 => ?_)
          · have h29 : ¬ (Wl.getD k (0, oz0)).2.2.1 = nm := by rw [← hgk.2]; exact h29
            have hn9 : (cnL nm Wl (k + 1)).length = (cnL nm Wl k).length := by rw [cn_keep hkl h29]
            have hP : va_P D classes ([(z.1, .inr (7, [.int z.2.1, .int (nI z.2.2.1), .int z.2.2.2.1, .int z.2.2.2.2.1, .ref z.2.2.2.2.2.1, .int z.2.2.2.2.2.2.1, .long z.2.2.2.2.2.2.2.1, .ref z.2.2.2.2.2.2.2.2])), (z.2.2.2.2.2.2.2.2, .inr (12, [.ref wq.1, .int (nI (cnL nm Wl k).length), .int mo1])), (wq.1, .inl (cO, 10, .inr (.inr (.inr (.inr g)))))] ++ Q) H := by rw [← hn9]; exact hP
            have hD : va_D A ([(z.1, .inr (7, [.int z.2.1, .int (nI z.2.2.1), .int z.2.2.2.1, .int z.2.2.2.2.1, .ref z.2.2.2.2.2.1, .int z.2.2.2.2.2.2.1, .long z.2.2.2.2.2.2.2.1, .ref z.2.2.2.2.2.2.2.2])), (z.2.2.2.2.2.2.2.2, .inr (12, [.ref wq.1, .int (nI (cnL nm Wl k).length), .int mo1])), (wq.1, .inl (cO, 10, .inr (.inr (.inr (.inr g)))))] ++ Q) := by rw [← hn9]; exact hD
            refine lv_iinc (k := 2) (v := nI k - 1) (lv' := [(2, .int (nI k - 1)), (0, .ref z.1), (1, .int nm)]) hx hb d_Programme_cancel_41 hl rfl (pm_dec k) (by decide) rfl (fun ls hl => ?_)
            refine lv_goto (tgt := 10) hx hb d_Programme_cancel_44 rfl ?_
            exact ih10 k g mo1 H locs ls (by omega) (by omega) (by rw [← cn_keep hkl h29]; exact hg) (lv_sub hl [1, 2, 0] rfl) hP hD hS
          · have h29 : (Wl.getD k (0, oz0)).2.2.1 = nm := by rw [← hgk.2]; first | exact h29 | exact Classical.not_not.mp h29
            refine lv_aload_n hx hb d_Programme_cancel_32 rfl (lv_at hl 0 rfl) ?_
            refine va_get (D := D) (ci := 7) (v := .ref z.2.2.2.2.2.2.2.2) (C := R_Programme) (T := F_Programme) (N := 8) hx hb hts i_Programme hown hK hP 0 rfl rfl 7 (by decide) (hts _ wd_595) (fun _ h9 => h9) rfl d_Programme_cancel_33 ?_
            refine lv_iload_n hx hb d_Programme_cancel_36 rfl (lv_at hl 2 rfl) ?_
            refine z_topi (w := nI k) (nI_pred k) ?_
            have hPc := hP.part (cx := [(z.2.2.2.2.2.2.2.2, .inr (12, [.ref wq.1, .int (nI (cnL nm Wl (k + 1)).length), .int mo1])), (wq.1, .inl (cO, 10, .inr (.inr (.inr (.inr g)))))]) [1, 2] rfl
            have hKc := hK.sub (tys' := [(cO, .object "java/lang/Object")]) [0] rfl
            have hDc := hD.part (cx := [(z.2.2.2.2.2.2.2.2, .inr (12, [.ref wq.1, .int (nI (cnL nm Wl (k + 1)).length), .int mo1])), (wq.1, .inl (cO, 10, .inr (.inr (.inr (.inr g)))))]) [1, 2] (by decide) rfl
            have hFc := va_freeP (cx := [(z.2.2.2.2.2.2.2.2, .inr (12, [.ref wq.1, .int (nI (cnL nm Wl (k + 1)).length), .int mo1])), (wq.1, .inl (cO, 10, .inr (.inr (.inr (.inr g)))))]) hD hS hA [1, 2] rfl
            refine va_callq (va_runV (As := [.int (nI k)]) (rest := []) ⟨hx, hb, hml, hown, hts⟩ (c_AL_remove l D H.size cO z.2.2.2.2.2.2.2.2 wq.1 mo1 g (cnL nm Wl (k + 1)) Q k hg (by omega) hgk.1) (z_cV hN wd_423 wd_66 wd_420 hd_AL_remove rfl rfl ⟨Nat.le_of_ble_eq_true rfl, Nat.le_of_ble_eq_true rfl⟩ wd_421 wd_422) (z_preVm (va_recv (ci := 12) (q0 := 1) hK hP rfl rfl) hPc hKc hN hDc) rfl rfl hl.1 rfl (lv_room (Nat.le_of_ble_eq_true rfl)) d_Programme_cancel_37 ⟨Nat.le_of_ble_eq_true rfl, Nat.le_of_ble_eq_true rfl⟩) hS (fun q _ h => hFc q h) hFc (fun r37 u37 t H locs ht hvm e37 hB hz1 hk1 hS => ?_)
            obtain ⟨hP1, hK1, hD1⟩ := hB
            rw [ht] at hP1
            obtain ⟨hP, hD⟩ := va_joinP (wr := [(z.1, .inr (7, [.int z.2.1, .int (nI z.2.2.1), .int z.2.2.2.1, .int z.2.2.2.2.1, .ref z.2.2.2.2.2.1, .int z.2.2.2.2.2.2.1, .long z.2.2.2.2.2.2.2.1, .ref z.2.2.2.2.2.2.2.2]))]) (rx := [(z.2.2.2.2.2.2.2.2, .inr (12, [.ref wq.1, .int (nI ((cnL nm Wl (k + 1)).length - 1)), .int (mo1 + 1)])), (wq.1, .inl (cO, 10, .inr (.inr (.inr (.inr (rmG g k (cnL nm Wl (k + 1)).length))))))]) hP hD [1, 2] [0] rfl rfl (by decide) (by decide) hk1 hFc hP1 hD1
            clear hk1 hP1 hD1 hFc hPc hDc hz1
            have hP : va_P D classes ([(z.1, .inr (7, [.int z.2.1, .int (nI z.2.2.1), .int z.2.2.2.1, .int z.2.2.2.2.1, .ref z.2.2.2.2.2.1, .int z.2.2.2.2.2.2.1, .long z.2.2.2.2.2.2.2.1, .ref z.2.2.2.2.2.2.2.2])), (z.2.2.2.2.2.2.2.2, .inr (12, [.ref wq.1, .int (nI ((cnL nm Wl (k + 1)).length - 1)), .int (mo1 + 1)])), (wq.1, .inl (cO, 10, .inr (.inr (.inr (.inr (rmG g k (cnL nm Wl (k + 1)).length))))))] ++ Q) H := hP
            have hD : va_D A ([(z.1, .inr (7, [.int z.2.1, .int (nI z.2.2.1), .int z.2.2.2.1, .int z.2.2.2.2.1, .ref z.2.2.2.2.2.1, .int z.2.2.2.2.2.2.1, .long z.2.2.2.2.2.2.2.1, .ref z.2.2.2.2.2.2.2.2])), (z.2.2.2.2.2.2.2.2, .inr (12, [.ref wq.1, .int (nI ((cnL nm Wl (k + 1)).length - 1)), .int (mo1 + 1)])), (wq.1, .inl (cO, 10, .inr (.inr (.inr (.inr (rmG g k (cnL nm Wl (k + 1)).length))))))] ++ Q) := hD
            refine z_popq hx hb d_Programme_cancel_40 ?_
            have hn9 : (cnL nm Wl (k + 1)).length - 1 = (cnL nm Wl k).length := by rw [← cn_rm hkl h29, List.length_eraseIdx_of_lt hgk.1]
            have hP : va_P D classes ([(z.1, .inr (7, [.int z.2.1, .int (nI z.2.2.1), .int z.2.2.2.1, .int z.2.2.2.2.1, .ref z.2.2.2.2.2.1, .int z.2.2.2.2.2.2.1, .long z.2.2.2.2.2.2.2.1, .ref z.2.2.2.2.2.2.2.2])), (z.2.2.2.2.2.2.2.2, .inr (12, [.ref wq.1, .int (nI (cnL nm Wl k).length), .int (mo1 + 1)])), (wq.1, .inl (cO, 10, .inr (.inr (.inr (.inr (rmG g k (cnL nm Wl (k + 1)).length))))))] ++ Q) H := by rw [← hn9]; exact hP
            have hD : va_D A ([(z.1, .inr (7, [.int z.2.1, .int (nI z.2.2.1), .int z.2.2.2.1, .int z.2.2.2.2.1, .ref z.2.2.2.2.2.1, .int z.2.2.2.2.2.2.1, .long z.2.2.2.2.2.2.2.1, .ref z.2.2.2.2.2.2.2.2])), (z.2.2.2.2.2.2.2.2, .inr (12, [.ref wq.1, .int (nI (cnL nm Wl k).length), .int (mo1 + 1)])), (wq.1, .inl (cO, 10, .inr (.inr (.inr (.inr (rmG g k (cnL nm Wl (k + 1)).length))))))] ++ Q) := by rw [← hn9]; exact hD
            refine lv_iinc (k := 2) (v := nI k - 1) (lv' := [(2, .int (nI k - 1)), (0, .ref z.1), (1, .int nm)]) hx hb d_Programme_cancel_41 hl rfl (pm_dec k) (by decide) rfl (fun ls hl => ?_)
            refine lv_goto (tgt := 10) hx hb d_Programme_cancel_44 rfl ?_
            exact ih10 k (rmG g k (cnL nm Wl (k + 1)).length) (mo1 + 1) H locs ls (by omega) (by omega) (by rw [← cn_rm hkl h29]; exact el_rm hg hgk.1) (lv_sub hl [1, 2, 0] rfl) hP hD hS
    have hP : va_P D classes ([(z.1, .inr (7, [.int z.2.1, .int (nI z.2.2.1), .int z.2.2.2.1, .int z.2.2.2.2.1, .ref z.2.2.2.2.2.1, .int z.2.2.2.2.2.2.1, .long z.2.2.2.2.2.2.2.1, .ref z.2.2.2.2.2.2.2.2])), (z.2.2.2.2.2.2.2.2, .inr (12, [.ref wq.1, .int (nI (cnL nm Wl Wl.length).length), .int mo])), (wq.1, .inl (cO, 10, .inr (.inr (.inr (.inr wq.2)))))] ++ Q) s.heap := by rw [cn_all.1]; exact hP
    have hD : va_D A ([(z.1, .inr (7, [.int z.2.1, .int (nI z.2.2.1), .int z.2.2.2.1, .int z.2.2.2.2.1, .ref z.2.2.2.2.2.1, .int z.2.2.2.2.2.2.1, .long z.2.2.2.2.2.2.2.1, .ref z.2.2.2.2.2.2.2.2])), (z.2.2.2.2.2.2.2.2, .inr (12, [.ref wq.1, .int (nI (cnL nm Wl Wl.length).length), .int mo])), (wq.1, .inl (cO, 10, .inr (.inr (.inr (.inr wq.2)))))] ++ Q) := by rw [cn_all.1]; exact hD
    exact loop10 _ Wl.length wq.2 mo s.heap [] ls (Nat.lt_succ_self _) (Nat.le_refl _) (by rw [cn_all.1]; exact hel) (lv_sub hl [1, 2, 0] rfl) hP hD hS
