theorem wd_10 : (Jvm.Cond.selects "StreamSplitter$Programme" ({ cls := "StreamSplitter$Programme", name := "firstDue", desc := "()I" } : Jvm.MethodName) ({ cls := "StreamSplitter$Programme", name := "firstDue", desc := "()I" } : Jvm.MethodName)) ∈ lw_ok := List.mem_filter.mpr ⟨List.mem_of_getElem? (i := 10) (by decide +kernel), rfl⟩
theorem wd_412 : (Jvm.Cond.methodLink "StreamSplitter$Programme" (86 : Nat) ({ cls := "StreamSplitter$Programme", name := "firstDue", desc := "()I" } : Jvm.MethodName)) ∈ lw_ok := List.mem_filter.mpr ⟨List.mem_of_getElem? (i := 412) (by decide +kernel), rfl⟩
theorem wd_414 : (Jvm.Cond.instanceMethod ({ cls := "StreamSplitter$Programme", name := "firstDue", desc := "()I" } : Jvm.MethodName)) ∈ lw_ok := List.mem_filter.mpr ⟨List.mem_of_getElem? (i := 414) (by decide +kernel), rfl⟩
set_option maxRecDepth 100000 in
theorem wd_416 : (Jvm.Cond.code ({ cls := "StreamSplitter$Programme", name := "firstDue", desc := "()I" } : Jvm.MethodName) prog_7_method_8_code (2 : Nat) (Option.some Jvm.ClassFile.FieldType.int)) ∈ lw_ok := List.mem_filter.mpr ⟨List.mem_of_getElem? (i := 416) (by rfl), rfl⟩
theorem wd_431 : (Jvm.Cond.methodLink "StreamSplitter$Programme" (89 : Nat) ({ cls := "StreamSplitter$Programme", name := "obey", desc := "(LStreamSplitter$Order;)V" } : Jvm.MethodName)) ∈ lw_ok := List.mem_filter.mpr ⟨List.mem_of_getElem? (i := 431) (by decide +kernel), rfl⟩
theorem wd_432 : (Jvm.Cond.instanceMethod ({ cls := "StreamSplitter$Programme", name := "obey", desc := "(LStreamSplitter$Order;)V" } : Jvm.MethodName)) ∈ lw_ok := List.mem_filter.mpr ⟨List.mem_of_getElem? (i := 432) (by decide +kernel), rfl⟩
theorem wd_433 : (Jvm.Cond.selects "StreamSplitter$Programme" ({ cls := "StreamSplitter$Programme", name := "obey", desc := "(LStreamSplitter$Order;)V" } : Jvm.MethodName) ({ cls := "StreamSplitter$Programme", name := "obey", desc := "(LStreamSplitter$Order;)V" } : Jvm.MethodName)) ∈ lw_ok := List.mem_filter.mpr ⟨List.mem_of_getElem? (i := 433) (by decide +kernel), rfl⟩
set_option maxRecDepth 100000 in
theorem wd_434 : (Jvm.Cond.code ({ cls := "StreamSplitter$Programme", name := "obey", desc := "(LStreamSplitter$Order;)V" } : Jvm.MethodName) prog_7_method_6_code (4 : Nat) (Option.none : Option Jvm.ClassFile.FieldType)) ∈ lw_ok := List.mem_filter.mpr ⟨List.mem_of_getElem? (i := 434) (by rfl), rfl⟩
theorem hd_Programme_firstDue : y_Programme_firstDue.cls ≠ "java/lang/invoke/MethodHandle" ∧ y_Programme_firstDue.cls ≠ "java/lang/invoke/VarHandle" ∧ (parseMethodDescriptor y_Programme_firstDue.desc).map (fun d => d.parameters.length) = some 0 := by decide +kernel
theorem hd_Programme_obey : y_Programme_obey.cls ≠ "java/lang/invoke/MethodHandle" ∧ y_Programme_obey.cls ≠ "java/lang/invoke/VarHandle" ∧ (parseMethodDescriptor y_Programme_obey.desc).map (fun d => d.parameters.length) = some 1 := by decide +kernel
theorem d_Programme_obeyDue_0 : decode b_Programme_obeyDue 0 = .ok (.iconst 0, 1) := by decide +kernel
theorem d_Programme_obeyDue_1 : decode b_Programme_obeyDue 1 = .ok (.istore_n 1, 1) := by decide +kernel
theorem d_Programme_obeyDue_2 : decode b_Programme_obeyDue 2 = .ok (.iload_n 1, 1) := by decide +kernel
theorem d_Programme_obeyDue_3 : decode b_Programme_obeyDue 3 = .ok (.bipush 12, 2) := by decide +kernel
theorem d_Programme_obeyDue_5 : decode b_Programme_obeyDue 5 = .ok (.if_icmp .ge 45, 3) := by decide +kernel
theorem d_Programme_obeyDue_8 : decode b_Programme_obeyDue 8 = .ok (.aload_n 0, 1) := by decide +kernel
theorem d_Programme_obeyDue_9 : decode b_Programme_obeyDue 9 = .ok (.invokevirtual 86, 3) := by decide +kernel
theorem d_Programme_obeyDue_12 : decode b_Programme_obeyDue 12 = .ok (.istore_n 2, 1) := by decide +kernel
theorem d_Programme_obeyDue_13 : decode b_Programme_obeyDue 13 = .ok (.iload_n 2, 1) := by decide +kernel
theorem d_Programme_obeyDue_14 : decode b_Programme_obeyDue 14 = .ok (.ifCond .lt 14, 3) := by decide +kernel
theorem d_Programme_obeyDue_17 : decode b_Programme_obeyDue 17 = .ok (.iload_n 2, 1) := by decide +kernel
theorem d_Programme_obeyDue_18 : decode b_Programme_obeyDue 18 = .ok (.aload_n 0, 1) := by decide +kernel
theorem d_Programme_obeyDue_19 : decode b_Programme_obeyDue 19 = .ok (.getfield 31, 3) := by decide +kernel
theorem d_Programme_obeyDue_22 : decode b_Programme_obeyDue 22 = .ok (.invokevirtual 47, 3) := by decide +kernel
theorem d_Programme_obeyDue_25 : decode b_Programme_obeyDue 25 = .ok (.if_icmp .lt 4, 3) := by decide +kernel
theorem d_Programme_obeyDue_28 : decode b_Programme_obeyDue 28 = .ok (.return_, 1) := by decide +kernel
theorem d_Programme_obeyDue_29 : decode b_Programme_obeyDue 29 = .ok (.aload_n 0, 1) := by decide +kernel
theorem d_Programme_obeyDue_30 : decode b_Programme_obeyDue 30 = .ok (.aload_n 0, 1) := by decide +kernel
theorem d_Programme_obeyDue_31 : decode b_Programme_obeyDue 31 = .ok (.getfield 31, 3) := by decide +kernel
theorem d_Programme_obeyDue_34 : decode b_Programme_obeyDue 34 = .ok (.iload_n 2, 1) := by decide +kernel
theorem d_Programme_obeyDue_35 : decode b_Programme_obeyDue 35 = .ok (.invokevirtual 67, 3) := by decide +kernel
theorem d_Programme_obeyDue_38 : decode b_Programme_obeyDue 38 = .ok (.checkcast 55, 3) := by decide +kernel
theorem d_Programme_obeyDue_41 : decode b_Programme_obeyDue 41 = .ok (.invokevirtual 89, 3) := by decide +kernel
theorem d_Programme_obeyDue_44 : decode b_Programme_obeyDue 44 = .ok (.iinc 1 1, 3) := by decide +kernel
theorem d_Programme_obeyDue_47 : decode b_Programme_obeyDue 47 = .ok (.goto (-45), 3) := by decide +kernel
theorem d_Programme_obeyDue_50 : decode b_Programme_obeyDue 50 = .ok (.return_, 1) := by decide +kernel
set_option maxHeartbeats 4000000 in
set_option maxRecDepth 100000 in
theorem c_Programme_obeyDue (l : Launch) (D : va_G) (B0 : State) (hG : zG B0) (sz : Nat) (cO : ClassId) (e0 : Nat) (z : PZ) (mo : Int32) (wst : Option (Nat × (Nat → Option Nat))) (Wl : List (Nat × Int64 × Int32 × Int32 × Int64)) (Q : va_W) (he0 : zE0 B0 e0) (hwk : wok Q wst Wl) (hW6 : Wl.length ≤ 6) (hbo : obl Wl) : Met l y_Programme_obeyDue [Cond.code y_Programme_obeyDue b_Programme_obeyDue 3 none] ({ frames := 6, cells := 24, slots := 168, locals := 124 }) (zMo [.ref z.1] D ([(z.1, .inr (7, [.int z.2.1, .int (nI z.2.2.1), .int z.2.2.2.1, .int z.2.2.2.2.1, .ref z.2.2.2.2.2.1, .int z.2.2.2.2.2.2.1, .long z.2.2.2.2.2.2.2.1, .ref z.2.2.2.2.2.2.2.2]))] ++ (wlc cO e0 z.2.2.2.2.2.2.2.2 Wl.length mo wst ++ Q)) [(cO, .object "java/lang/Object")] sz B0) (va_Qv (fun (u : Int32 × WU9 × va_W) => odR 12 z.2.2.2.2.2.2.2.1 z.2.2.2.2.2.2.1 Wl u.1 u.2.1.1 u.2.2 ∧ wok (u.2.2 ++ Q) u.2.1.2.2 u.2.1.1 ∧ u.2.1.1.length ≤ 6 ∧ obl u.2.1.1) (fun (u : Int32 × WU9 × va_W) t => zW D (va_A ([(z.1, .inr (7, [.int z.2.1, .int (nI z.2.2.1), .int z.2.2.2.1, .int z.2.2.2.2.1, .ref z.2.2.2.2.2.1, .int z.2.2.2.2.2.2.1, .long z.2.2.2.2.2.2.2.1, .ref z.2.2.2.2.2.2.2.2]))] ++ (wlc cO e0 z.2.2.2.2.2.2.2.2 Wl.length mo wst ++ Q)) sz) ([(z.1, .inr (7, [.int z.2.1, .int (nI z.2.2.1), .int z.2.2.2.1, .int z.2.2.2.2.1, .ref z.2.2.2.2.2.1, .int u.1, .long z.2.2.2.2.2.2.2.1, .ref z.2.2.2.2.2.2.2.2]))] ++ (wlc cO e0 z.2.2.2.2.2.2.2.2 u.2.1.1.length u.2.1.2.1 u.2.1.2.2 ++ (u.2.2 ++ Q))) [(cO, .object "java/lang/Object")] t) (va_A ([(z.1, .inr (7, [.int z.2.1, .int (nI z.2.2.1), .int z.2.2.2.1, .int z.2.2.2.2.1, .ref z.2.2.2.2.2.1, .int z.2.2.2.2.2.2.1, .long z.2.2.2.2.2.2.2.1, .ref z.2.2.2.2.2.2.2.2]))] ++ (wlc cO e0 z.2.2.2.2.2.2.2.2 Wl.length mo wst ++ Q)) sz)) 24 168 (va_A ([(z.1, .inr (7, [.int z.2.1, .int (nI z.2.2.1), .int z.2.2.2.1, .int z.2.2.2.2.1, .ref z.2.2.2.2.2.1, .int z.2.2.2.2.2.2.1, .long z.2.2.2.2.2.2.2.1, .ref z.2.2.2.2.2.2.2.2]))] ++ (wlc cO e0 z.2.2.2.2.2.2.2.2 Wl.length mo wst ++ Q)) sz) := by
  refine Met.ofW (cc := b_Programme_obeyDue) (maxL := 3) (ret := none) (by decide) rfl ?_
  intro p e s m args below meth cd s₁ Bd hml hv
  obtain ⟨rfl, hsz, hP, hK, hN, hD0, hO⟩ := hv
  have hx := Bd.exec
  have hb := Bd.bytes
  have hr := Bd.returns
  have hts := hN.use (a := ([.ref z.1]).toArray)
  have hown : s.vm.findClass R_Programme = some m.cls := findClass_of_methodNamed Bd.named
  have hlocks := Bd.notSynchronized
  subst hsz
  have hD := hD0.self (sz := s.heap.size)
  have hAO := z_AO hD0 hO
  clear hD0
  have hA : ∀ q : Nat, s.heap.size ≤ q → va_A ([(z.1, .inr (7, [.int z.2.1, .int (nI z.2.2.1), .int z.2.2.2.1, .int z.2.2.2.2.1, .ref z.2.2.2.2.2.1, .int z.2.2.2.2.2.2.1, .long z.2.2.2.2.2.2.2.1, .ref z.2.2.2.2.2.2.2.2]))] ++ (wlc cO e0 z.2.2.2.2.2.2.2.2 Wl.length mo wst ++ Q)) s.heap.size q := fun q h => Or.inr h
  have hS : va_S (va_A ([(z.1, .inr (7, [.int z.2.1, .int (nI z.2.2.1), .int z.2.2.2.1, .int z.2.2.2.2.1, .ref z.2.2.2.2.2.1, .int z.2.2.2.2.2.2.1, .long z.2.2.2.2.2.2.2.1, .ref z.2.2.2.2.2.2.2.2]))] ++ (wlc cO e0 z.2.2.2.2.2.2.2.2 Wl.length mo wst ++ Q)) s.heap.size) s.heap s.heap [] := va_S.rf
  generalize hAe : va_A ([(z.1, .inr (7, [.int z.2.1, .int (nI z.2.2.1), .int z.2.2.2.1, .int z.2.2.2.2.1, .ref z.2.2.2.2.2.1, .int z.2.2.2.2.2.2.1, .long z.2.2.2.2.2.2.2.1, .ref z.2.2.2.2.2.2.2.2]))] ++ (wlc cO e0 z.2.2.2.2.2.2.2.2 Wl.length mo wst ++ Q)) s.heap.size = A at hD hA hS hAO ⊢
  have hP : va_P D classes ([(z.1, .inr (7, [.int z.2.1, .int (nI z.2.2.1), .int z.2.2.2.1, .int z.2.2.2.2.1, .ref z.2.2.2.2.2.1, .int z.2.2.2.2.2.2.1, .long z.2.2.2.2.2.2.2.1, .ref z.2.2.2.2.2.2.2.2]))] ++ (wlc cO e0 z.2.2.2.2.2.2.2.2 Wl.length mo wst ++ Q)) s.heap := hP
  have hl := lv_entry ([.ref z.1]) (n := 3) (Nat.le_of_ble_eq_true rfl)
  rw [lg_entry_eq]
  generalize (lg_sl ([.ref z.1]) ++ List.replicate (3 - (lg_sl ([.ref z.1])).length) Slot.unset).toArray = ls at hl ⊢
  have hl : lv_has ls 3 [(0, .ref z.1)] := hl
  refine lv_iconst (v := 0) hx hb d_Programme_obeyDue_0 (by decide) ?_
  refine lv_istore_n (lv' := [(1, .int 0), (0, .ref z.1)]) hx hb d_Programme_obeyDue_1 rfl hl (by decide) rfl (fun ls hl => ?_)
  have loop2 : ∀ (N : Nat) (k : Nat) (zc : PZ) (awc : Int32) (Wc : List (Nat × Int64 × Int32 × Int32 × Int64)) (mo1 : Int32) (wst1 : Option (Nat × (Nat → Option Nat))) (ex : va_W) (H : Heap) (locs : List Loc) (ls : Array Slot) (hm : 12 - k < N) (hk : k ≤ 12) (hz : zc = pzA z awc) (hwk : wok (ex ++ Q) wst1 Wc) (hW6 : Wc.length ≤ 6) (hbo : obl Wc) (hrun : ∀ aw2 Wl2 nc, odR (12 - k) z.2.2.2.2.2.2.2.1 awc Wc aw2 Wl2 nc → odR 12 z.2.2.2.2.2.2.2.1 z.2.2.2.2.2.2.1 Wl aw2 Wl2 (nc ++ ex)) (hl : lv_has ls 3 [(0, .ref zc.1), (1, .int (nI k))]) (hP : va_P D classes ([(zc.1, .inr (7, [.int zc.2.1, .int (nI zc.2.2.1), .int zc.2.2.2.1, .int zc.2.2.2.2.1, .ref zc.2.2.2.2.2.1, .int zc.2.2.2.2.2.2.1, .long zc.2.2.2.2.2.2.2.1, .ref zc.2.2.2.2.2.2.2.2]))] ++ (wlc cO e0 zc.2.2.2.2.2.2.2.2 Wc.length mo1 wst1 ++ (ex ++ Q))) H) (hD : va_D A ([(zc.1, .inr (7, [.int zc.2.1, .int (nI zc.2.2.1), .int zc.2.2.2.1, .int zc.2.2.2.2.1, .ref zc.2.2.2.2.2.1, .int zc.2.2.2.2.2.2.1, .long zc.2.2.2.2.2.2.2.1, .ref zc.2.2.2.2.2.2.2.2]))] ++ (wlc cO e0 zc.2.2.2.2.2.2.2.2 Wc.length mo1 wst1 ++ (ex ++ Q)))) (hS : va_S A s.heap H locs), W p l e ({ frames := 6, cells := 24, slots := 168, locals := 124 }) s m ([.ref z.1]).toArray below meth cd H locs (2 * k) (14 * k) (MQ below (va_Qv (fun (u : Int32 × WU9 × va_W) => odR 12 z.2.2.2.2.2.2.2.1 z.2.2.2.2.2.2.1 Wl u.1 u.2.1.1 u.2.2 ∧ wok (u.2.2 ++ Q) u.2.1.2.2 u.2.1.1 ∧ u.2.1.1.length ≤ 6 ∧ obl u.2.1.1) (fun (u : Int32 × WU9 × va_W) t => zW D (A) ([(z.1, .inr (7, [.int z.2.1, .int (nI z.2.2.1), .int z.2.2.2.1, .int z.2.2.2.2.1, .ref z.2.2.2.2.2.1, .int u.1, .long z.2.2.2.2.2.2.2.1, .ref z.2.2.2.2.2.2.2.2]))] ++ (wlc cO e0 z.2.2.2.2.2.2.2.2 u.2.1.1.length u.2.1.2.1 u.2.1.2.2 ++ (u.2.2 ++ Q))) [(cO, .object "java/lang/Object")] t) (A)) ([.ref z.1]).toArray s 24 168 (A)) (F0 m 2 ls []) := by
    intro N2
    induction N2 with
    | zero => intro k zc awc Wc mo1 wst1 ex H locs ls hm hk hz hwk hW6 hbo hrun hl hP hD hS; exact absurd hm (Nat.not_lt_zero _)
    | succ N2 ih2 =>
      intro k zc awc Wc mo1 wst1 ex H locs ls hm hk hz hwk hW6 hbo hrun hl hP hD hS
      refine lv_iload_n hx hb d_Programme_obeyDue_2 rfl (lv_at hl 1 rfl) ?_
      refine lv_bipush (v := 12) hx hb d_Programme_obeyDue_3 (by decide) ?_
      refine lv_icmp_ge (tgt := 50) hx hb d_Programme_obeyDue_5 rfl (fun h5 => ?_) (fun h5 => ?_)
      · have h5 : 12 ≤ k := (nI_leI (a := 12) (by omega) (by omega)).mp h5
        subst hz
        have hP : va_P D classes ([(z.1, .inr (7, [.int z.2.1, .int (nI z.2.2.1), .int z.2.2.2.1, .int z.2.2.2.2.1, .ref z.2.2.2.2.2.1, .int awc, .long z.2.2.2.2.2.2.2.1, .ref z.2.2.2.2.2.2.2.2]))] ++ (wlc cO e0 z.2.2.2.2.2.2.2.2 Wc.length mo1 wst1 ++ (ex ++ Q))) H := hP
        have hD : va_D A ([(z.1, .inr (7, [.int z.2.1, .int (nI z.2.2.1), .int z.2.2.2.1, .int z.2.2.2.2.1, .ref z.2.2.2.2.2.1, .int awc, .long z.2.2.2.2.2.2.2.1, .ref z.2.2.2.2.2.2.2.2]))] ++ (wlc cO e0 z.2.2.2.2.2.2.2.2 Wc.length mo1 wst1 ++ (ex ++ Q))) := hD
        have hP9 := hP.part (cx := [(z.1, .inr (7, [.int z.2.1, .int (nI z.2.2.1), .int z.2.2.2.1, .int z.2.2.2.2.1, .ref z.2.2.2.2.2.1, .int awc, .long z.2.2.2.2.2.2.2.1, .ref z.2.2.2.2.2.2.2.2]))]) [0] rfl
        have hD9 := hD.part (cx := [(z.1, .inr (7, [.int z.2.1, .int (nI z.2.2.1), .int z.2.2.2.1, .int z.2.2.2.2.1, .ref z.2.2.2.2.2.1, .int awc, .long z.2.2.2.2.2.2.2.1, .ref z.2.2.2.2.2.2.2.2]))]) [0] (by decide) rfl
        have hK9 := hK.sub (tys' := [(cO, .object "java/lang/Object")]) [0] rfl
        refine W.widen (k := 24) (n := 168) (by omega) (by omega) ?_
        exact W.vret hx hb hr (fun t ht hW => ⟨⟨(awc, (Wc, mo1, wst1), ex), rfl, ⟨hrun awc Wc [] (by rw [show 12 - k = 0 by omega]; exact ⟨rfl, rfl, rfl⟩), hwk, hW6, hbo⟩, ⟨by rw [ht]; exact hP9, va_K.moved hW.alike hK9, hD9⟩⟩, hS.F ht⟩) hS.2.2 d_Programme_obeyDue_50
      · have h5 : ¬ 12 ≤ k := mt (nI_leI (a := 12) (by omega) (by omega)).mpr h5
        refine lv_aload_n hx hb d_Programme_obeyDue_8 rfl (lv_at hl 0 rfl) ?_
        have hiW := wk_isW (X := [(zc.1, .inr (7, [.int zc.2.1, .int (nI zc.2.2.1), .int zc.2.2.2.1, .int zc.2.2.2.2.1, .ref zc.2.2.2.2.2.1, .int zc.2.2.2.2.2.2.1, .long zc.2.2.2.2.2.2.2.1, .ref zc.2.2.2.2.2.2.2.2]))]) (cO := cO) (e0 := e0) (wa := zc.2.2.2.2.2.2.2.2) (mo := mo1) hwk hW6
        obtain ⟨q0, hq0⟩ : ∃ q0 : Nat, ([(zc.1, .inr (7, [.int zc.2.1, .int (nI zc.2.2.1), .int zc.2.2.2.1, .int zc.2.2.2.2.1, .ref zc.2.2.2.2.2.1, .int zc.2.2.2.2.2.2.1, .long zc.2.2.2.2.2.2.2.1, .ref zc.2.2.2.2.2.2.2.2]))] ++ (wlc cO e0 zc.2.2.2.2.2.2.2.2 Wc.length mo1 wst1 ++ (ex ++ Q)))[q0]? = some (zc.1, pgE zc) := ⟨0, rfl⟩
        have hPc : va_P D classes ([] ++ ([(zc.1, .inr (7, [.int zc.2.1, .int (nI zc.2.2.1), .int zc.2.2.2.1, .int zc.2.2.2.2.1, .ref zc.2.2.2.2.2.1, .int zc.2.2.2.2.2.2.1, .long zc.2.2.2.2.2.2.2.1, .ref zc.2.2.2.2.2.2.2.2]))] ++ (wlc cO e0 zc.2.2.2.2.2.2.2.2 Wc.length mo1 wst1 ++ (ex ++ Q)))) H := hP
        have hKc := hK.sub (tys' := [(cO, .object "java/lang/Object")]) [0] rfl
        refine z_ci (va_runV (As := []) (rest := []) ⟨hx, hb, hml, hown, hts⟩ (c_Programme_firstDue l D cO ([(zc.1, .inr (7, [.int zc.2.1, .int (nI zc.2.2.1), .int zc.2.2.2.1, .int zc.2.2.2.2.1, .ref zc.2.2.2.2.2.1, .int zc.2.2.2.2.2.2.1, .long zc.2.2.2.2.2.2.2.1, .ref zc.2.2.2.2.2.2.2.2]))] ++ (wlc cO e0 zc.2.2.2.2.2.2.2.2 Wc.length mo1 wst1 ++ (ex ++ Q))) zc Wc (List.mem_of_getElem? (i := q0) hq0) hiW) (z_cV hN wd_416 wd_82 wd_412 hd_Programme_firstDue rfl rfl ⟨Nat.le_of_ble_eq_true rfl, Nat.le_of_ble_eq_true rfl⟩ wd_414 wd_10) (z_preV (va_recv (ci := 7) (q0 := 0) hK hP rfl rfl) hPc hKc hN) rfl rfl hl.1 rfl (lv_room (Nat.le_of_ble_eq_true rfl)) d_Programme_obeyDue_9 ⟨by show 2 * k + 0 ≤ 24; omega, by show 14 * k + 0 ≤ 168; omega⟩) (fun r9 e9 => ?_)
        rcases e9 with ⟨hr9, hno9⟩ | ⟨j9, hj9, hd9, hf9, hr9⟩
        · subst hr9
          refine lv_istore_n (lv' := [(2, .int (-1)), (0, .ref zc.1), (1, .int (nI k))]) hx hb d_Programme_obeyDue_12 rfl hl (by decide) rfl (fun ls hl => ?_)
          refine lv_iload_n hx hb d_Programme_obeyDue_13 rfl (lv_at hl 0 rfl) ?_
          refine lv_if_lt (tgt := 28) hx hb d_Programme_obeyDue_14 rfl (fun h14 => ?_) (fun h9 => absurd h9 (by decide))
          subst hz
          have hP : va_P D classes ([(z.1, .inr (7, [.int z.2.1, .int (nI z.2.2.1), .int z.2.2.2.1, .int z.2.2.2.2.1, .ref z.2.2.2.2.2.1, .int awc, .long z.2.2.2.2.2.2.2.1, .ref z.2.2.2.2.2.2.2.2]))] ++ (wlc cO e0 z.2.2.2.2.2.2.2.2 Wc.length mo1 wst1 ++ (ex ++ Q))) H := hP
          have hD : va_D A ([(z.1, .inr (7, [.int z.2.1, .int (nI z.2.2.1), .int z.2.2.2.1, .int z.2.2.2.2.1, .ref z.2.2.2.2.2.1, .int awc, .long z.2.2.2.2.2.2.2.1, .ref z.2.2.2.2.2.2.2.2]))] ++ (wlc cO e0 z.2.2.2.2.2.2.2.2 Wc.length mo1 wst1 ++ (ex ++ Q))) := hD
          have hP9 := hP.part (cx := [(z.1, .inr (7, [.int z.2.1, .int (nI z.2.2.1), .int z.2.2.2.1, .int z.2.2.2.2.1, .ref z.2.2.2.2.2.1, .int awc, .long z.2.2.2.2.2.2.2.1, .ref z.2.2.2.2.2.2.2.2]))]) [0] rfl
          have hD9 := hD.part (cx := [(z.1, .inr (7, [.int z.2.1, .int (nI z.2.2.1), .int z.2.2.2.1, .int z.2.2.2.2.1, .ref z.2.2.2.2.2.1, .int awc, .long z.2.2.2.2.2.2.2.1, .ref z.2.2.2.2.2.2.2.2]))]) [0] (by decide) rfl
          have hK9 := hK.sub (tys' := [(cO, .object "java/lang/Object")]) [0] rfl
          refine W.widen (k := 24) (n := 168) (by omega) (by omega) ?_
          exact W.vret hx hb hr (fun t ht hW => ⟨⟨(awc, (Wc, mo1, wst1), ex), rfl, ⟨hrun awc Wc [] (by rw [show 12 - k = (11 - k) + 1 by omega]; exact Or.inl ⟨hno9, rfl, rfl, rfl⟩), hwk, hW6, hbo⟩, ⟨by rw [ht]; exact hP9, va_K.moved hW.alike hK9, hD9⟩⟩, hS.F ht⟩) hS.2.2 d_Programme_obeyDue_28
        · subst hr9
          have hnw : zc.2.2.2.2.2.2.2.1 = z.2.2.2.2.2.2.2.1 := by rw [hz]; rfl
          refine lv_istore_n (lv' := [(2, .int (nI j9)), (0, .ref zc.1), (1, .int (nI k))]) hx hb d_Programme_obeyDue_12 rfl hl (by decide) rfl (fun ls hl => ?_)
          refine lv_iload_n hx hb d_Programme_obeyDue_13 rfl (lv_at hl 0 rfl) ?_
          refine lv_if_lt (tgt := 28) hx hb d_Programme_obeyDue_14 rfl (fun h9 => absurd h9 (nI_pos (by omega))) (fun h14 => ?_)
          cases wst1 with
          | none =>
            exact absurd hj9 (by rw [show Wc = [] from hwk]; exact Nat.not_lt_zero _)
          | some wq =>
            have hel : elO (ex ++ Q) wq.2 Wc := hwk
            have hP : va_P D classes ([(zc.1, .inr (7, [.int zc.2.1, .int (nI zc.2.2.1), .int zc.2.2.2.1, .int zc.2.2.2.2.1, .ref zc.2.2.2.2.2.1, .int zc.2.2.2.2.2.2.1, .long zc.2.2.2.2.2.2.2.1, .ref zc.2.2.2.2.2.2.2.2])), (zc.2.2.2.2.2.2.2.2, .inr (12, [.ref wq.1, .int (nI Wc.length), .int mo1])), (wq.1, .inl (cO, 10, .inr (.inr (.inr (.inr wq.2)))))] ++ (ex ++ Q)) H := hP
            have hD : va_D A ([(zc.1, .inr (7, [.int zc.2.1, .int (nI zc.2.2.1), .int zc.2.2.2.1, .int zc.2.2.2.2.1, .ref zc.2.2.2.2.2.1, .int zc.2.2.2.2.2.2.1, .long zc.2.2.2.2.2.2.2.1, .ref zc.2.2.2.2.2.2.2.2])), (zc.2.2.2.2.2.2.2.2, .inr (12, [.ref wq.1, .int (nI Wc.length), .int mo1])), (wq.1, .inl (cO, 10, .inr (.inr (.inr (.inr wq.2)))))] ++ (ex ++ Q)) := hD
            refine lv_iload_n hx hb d_Programme_obeyDue_17 rfl (lv_at hl 0 rfl) ?_
            refine lv_aload_n hx hb d_Programme_obeyDue_18 rfl (lv_at hl 1 rfl) ?_
            refine va_get (D := D) (ci := 7) (v := .ref zc.2.2.2.2.2.2.2.2) (C := R_Programme) (T := F_Programme) (N := 8) hx hb hts i_Programme hown hK hP 0 rfl rfl 7 (by decide) (hts _ wd_595) (fun _ h9 => h9) rfl d_Programme_obeyDue_19 ?_
            have hPc := hP.sub (ws' := [(zc.2.2.2.2.2.2.2.2, .inr (12, [.ref wq.1, .int (nI Wc.length), .int mo1]))]) [1] rfl
            have hKc := hK.sub (tys' := []) [] rfl
            refine z_ci (va_runV (As := []) (rest := [.int (nI j9)]) ⟨hx, hb, hml, hown, hts⟩ (c_AL_size l D zc.2.2.2.2.2.2.2.2 wq.1 (nI Wc.length) mo1 ) (z_cV hN wd_305 wd_66 wd_329 hd_AL_size rfl rfl ⟨Nat.le_of_ble_eq_true rfl, Nat.le_of_ble_eq_true rfl⟩ wd_303 wd_304) (z_preV (va_recv (ci := 12) (q0 := 1) hK hP rfl rfl) hPc hKc hN) rfl rfl hl.1 rfl (lv_room (Nat.le_of_ble_eq_true rfl)) d_Programme_obeyDue_22 ⟨by show 2 * k + 0 ≤ 24; omega, by show 14 * k + 0 ≤ 168; omega⟩) (fun r22 e22 => ?_)
            refine z_topi (w := (nI Wc.length)) e22 ?_
            refine lv_icmp_lt (tgt := 29) hx hb d_Programme_obeyDue_25 rfl (fun h25 => ?_) (fun h9 => absurd (nI_lt hj9 (by omega)) h9)
            refine lv_aload_n hx hb d_Programme_obeyDue_29 rfl (lv_at hl 1 rfl) ?_
            refine lv_aload_n hx hb d_Programme_obeyDue_30 rfl (lv_at hl 1 rfl) ?_
            refine va_get (D := D) (ci := 7) (v := .ref zc.2.2.2.2.2.2.2.2) (C := R_Programme) (T := F_Programme) (N := 8) hx hb hts i_Programme hown hK hP 0 rfl rfl 7 (by decide) (hts _ wd_595) (fun _ h9 => h9) rfl d_Programme_obeyDue_31 ?_
            refine lv_iload_n hx hb d_Programme_obeyDue_34 rfl (lv_at hl 0 rfl) ?_
            have hPc := hP.part (cx := [(zc.2.2.2.2.2.2.2.2, .inr (12, [.ref wq.1, .int (nI Wc.length), .int mo1])), (wq.1, .inl (cO, 10, .inr (.inr (.inr (.inr wq.2)))))]) [1, 2] rfl
            have hKc := hK.sub (tys' := [(cO, .object "java/lang/Object")]) [0] rfl
            have hDc := hD.part (cx := [(zc.2.2.2.2.2.2.2.2, .inr (12, [.ref wq.1, .int (nI Wc.length), .int mo1])), (wq.1, .inl (cO, 10, .inr (.inr (.inr (.inr wq.2)))))]) [1, 2] (by decide) rfl
            have hFc := va_freeP (cx := [(zc.2.2.2.2.2.2.2.2, .inr (12, [.ref wq.1, .int (nI Wc.length), .int mo1])), (wq.1, .inl (cO, 10, .inr (.inr (.inr (.inr wq.2)))))]) hD hS hA [1, 2] rfl
            refine va_callq (va_runV (As := [.int (nI j9)]) (rest := [.ref zc.1]) ⟨hx, hb, hml, hown, hts⟩ (c_AL_remove l D H.size cO zc.2.2.2.2.2.2.2.2 wq.1 mo1 wq.2 Wc (ex ++ Q) j9 hel hW6 hj9) (z_cV hN wd_423 wd_66 wd_420 hd_AL_remove rfl rfl ⟨Nat.le_of_ble_eq_true rfl, Nat.le_of_ble_eq_true rfl⟩ wd_421 wd_422) (z_preVm (va_recv (ci := 12) (q0 := 1) hK hP rfl rfl) hPc hKc hN hDc) rfl rfl hl.1 rfl (lv_room (Nat.le_of_ble_eq_true rfl)) d_Programme_obeyDue_35 ⟨by show 2 * k + 0 ≤ 24; omega, by show 14 * k + 0 ≤ 168; omega⟩) hS (fun q _ h => hFc q h) hFc (fun r35 u35 t H locs ht hvm e35 hB hz1 hk1 hS => ?_)
            obtain ⟨hP1, hK1, hD1⟩ := hB
            rw [ht] at hP1
            obtain ⟨hP, hD⟩ := va_joinP (wr := [(zc.1, .inr (7, [.int zc.2.1, .int (nI zc.2.2.1), .int zc.2.2.2.1, .int zc.2.2.2.2.1, .ref zc.2.2.2.2.2.1, .int zc.2.2.2.2.2.2.1, .long zc.2.2.2.2.2.2.2.1, .ref zc.2.2.2.2.2.2.2.2]))]) (rx := [(zc.2.2.2.2.2.2.2.2, .inr (12, [.ref wq.1, .int (nI (Wc.length - 1)), .int (mo1 + 1)])), (wq.1, .inl (cO, 10, .inr (.inr (.inr (.inr (rmG wq.2 j9 Wc.length))))))]) hP hD [1, 2] [0] rfl rfl (by decide) (by decide) hk1 hFc hP1 hD1
            clear hk1 hP1 hD1 hFc hPc hDc hz1
            have hP : va_P D classes ([(zc.1, .inr (7, [.int zc.2.1, .int (nI zc.2.2.1), .int zc.2.2.2.1, .int zc.2.2.2.2.1, .ref zc.2.2.2.2.2.1, .int zc.2.2.2.2.2.2.1, .long zc.2.2.2.2.2.2.2.1, .ref zc.2.2.2.2.2.2.2.2])), (zc.2.2.2.2.2.2.2.2, .inr (12, [.ref wq.1, .int (nI (Wc.length - 1)), .int (mo1 + 1)])), (wq.1, .inl (cO, 10, .inr (.inr (.inr (.inr (rmG wq.2 j9 Wc.length))))))] ++ (ex ++ Q)) H := hP
            have hD : va_D A ([(zc.1, .inr (7, [.int zc.2.1, .int (nI zc.2.2.1), .int zc.2.2.2.1, .int zc.2.2.2.2.1, .ref zc.2.2.2.2.2.1, .int zc.2.2.2.2.2.2.1, .long zc.2.2.2.2.2.2.2.1, .ref zc.2.2.2.2.2.2.2.2])), (zc.2.2.2.2.2.2.2.2, .inr (12, [.ref wq.1, .int (nI (Wc.length - 1)), .int (mo1 + 1)])), (wq.1, .inl (cO, 10, .inr (.inr (.inr (.inr (rmG wq.2 j9 Wc.length))))))] ++ (ex ++ Q)) := hD
            refine z_topq (w := some ((Wc.getD j9 (0, oz0)).1)) e35 ?_
            have hom := (hel j9 hj9).2
            obtain ⟨q38, hq38⟩ := List.getElem?_of_mem (List.mem_append_right [(zc.1, .inr (7, [.int zc.2.1, .int (nI zc.2.2.1), .int zc.2.2.2.1, .int zc.2.2.2.2.1, .ref zc.2.2.2.2.2.1, .int zc.2.2.2.2.2.2.1, .long zc.2.2.2.2.2.2.2.1, .ref zc.2.2.2.2.2.2.2.2])), (zc.2.2.2.2.2.2.2.2, .inr (12, [.ref wq.1, .int (nI (Wc.length - 1)), .int (mo1 + 1)])), (wq.1, .inl (cO, 10, .inr (.inr (.inr (.inr (rmG wq.2 j9 Wc.length))))))] hom)
            refine va_castY hx hb hown (hts _ wd_417) (hN _ wd_1487) (va_recv (ci := 6) (q0 := q38) hK hP rfl hq38) d_Programme_obeyDue_38 ?_
            have hn9 : Wc.length - 1 = (Wc.eraseIdx j9).length := by rw [List.length_eraseIdx_of_lt hj9]
            rw [hn9] at hP hD
            have hP : va_P D classes ([(zc.1, .inr (7, [.int zc.2.1, .int (nI zc.2.2.1), .int zc.2.2.2.1, .int zc.2.2.2.2.1, .ref zc.2.2.2.2.2.1, .int zc.2.2.2.2.2.2.1, .long zc.2.2.2.2.2.2.2.1, .ref zc.2.2.2.2.2.2.2.2]))] ++ (wlc cO e0 zc.2.2.2.2.2.2.2.2 ((Wc.eraseIdx j9).length) (mo1 + 1) (some (wq.1, rmG wq.2 j9 Wc.length)) ++ (ex ++ Q))) H := hP
            have hD : va_D A ([(zc.1, .inr (7, [.int zc.2.1, .int (nI zc.2.2.1), .int zc.2.2.2.1, .int zc.2.2.2.2.1, .ref zc.2.2.2.2.2.1, .int zc.2.2.2.2.2.2.1, .long zc.2.2.2.2.2.2.2.1, .ref zc.2.2.2.2.2.2.2.2]))] ++ (wlc cO e0 zc.2.2.2.2.2.2.2.2 ((Wc.eraseIdx j9).length) (mo1 + 1) (some (wq.1, rmG wq.2 j9 Wc.length)) ++ (ex ++ Q))) := hD
            have hPc := hP.part (cx := [(zc.1, .inr (7, [.int zc.2.1, .int (nI zc.2.2.1), .int zc.2.2.2.1, .int zc.2.2.2.2.1, .ref zc.2.2.2.2.2.1, .int zc.2.2.2.2.2.2.1, .long zc.2.2.2.2.2.2.2.1, .ref zc.2.2.2.2.2.2.2.2]))]) [0] rfl
            have hKc := hK.sub (tys' := [(cO, .object "java/lang/Object")]) [0] rfl
            have hDc := hD.part (cx := [(zc.1, .inr (7, [.int zc.2.1, .int (nI zc.2.2.1), .int zc.2.2.2.1, .int zc.2.2.2.2.1, .ref zc.2.2.2.2.2.1, .int zc.2.2.2.2.2.2.1, .long zc.2.2.2.2.2.2.2.1, .ref zc.2.2.2.2.2.2.2.2]))]) [0] (by decide) rfl
            have hFc := va_freeP (cx := [(zc.1, .inr (7, [.int zc.2.1, .int (nI zc.2.2.1), .int zc.2.2.2.1, .int zc.2.2.2.2.1, .ref zc.2.2.2.2.2.1, .int zc.2.2.2.2.2.2.1, .long zc.2.2.2.2.2.2.2.1, .ref zc.2.2.2.2.2.2.2.2]))]) hD hS hA [0] rfl
            refine va_callv (va_runV (As := [.ref ((Wc.getD j9 (0, oz0)).1)]) (rest := []) ⟨hx, hb, hml, hown, hts⟩ (c_Programme_obey l D B0 hG H.size cO e0 zc (mo1 + 1) (some (wq.1, rmG wq.2 j9 Wc.length)) (Wc.eraseIdx j9) (ex ++ Q) ((Wc.getD j9 (0, oz0)).1) ((Wc.getD j9 (0, oz0)).2) he0 (el_rm hel hj9) (by rw [List.length_eraseIdx_of_lt hj9]; omega) hom (hbo j9 hj9)) (z_cV hN wd_434 wd_82 wd_431 hd_Programme_obey rfl rfl ⟨Nat.le_of_ble_eq_true rfl, Nat.le_of_ble_eq_true rfl⟩ wd_432 wd_433) (z_preVo (va_recv (ci := 7) (q0 := 0) hK hP rfl rfl) hPc hKc hN hDc hO hS hAO) rfl rfl hl.1 rfl (lv_room (Nat.le_of_ble_eq_true rfl)) d_Programme_obeyDue_41 ⟨by show 2 * k + 2 ≤ 24; omega, by show 14 * k + 14 ≤ 168; omega⟩) hS (fun q _ h => hFc q h) hFc (fun ob t H locs ht hvm e41 hB hz1 hk1 hS => ?_)
            obtain ⟨hP1, hK1, hD1⟩ := hB
            rw [ht] at hP1
            obtain ⟨hP, hD⟩ := va_joinP (wr := []) (rx := [(zc.1, .inr (7, [.int zc.2.1, .int (nI zc.2.2.1), .int zc.2.2.2.1, .int zc.2.2.2.2.1, .ref zc.2.2.2.2.2.1, .int (((Wc.getD j9 (0, oz0)).2).2.2.1), .long zc.2.2.2.2.2.2.2.1, .ref zc.2.2.2.2.2.2.2.2]))]) hP hD [0] [] rfl rfl (by decide) (by decide) hk1 hFc hP1 hD1
            clear hk1 hP1 hD1 hFc hPc hDc hz1
            have hP : va_P D classes ([(zc.1, .inr (7, [.int zc.2.1, .int (nI zc.2.2.1), .int zc.2.2.2.1, .int zc.2.2.2.2.1, .ref zc.2.2.2.2.2.1, .int (((Wc.getD j9 (0, oz0)).2).2.2.1), .long zc.2.2.2.2.2.2.2.1, .ref zc.2.2.2.2.2.2.2.2]))] ++ (wlc cO e0 zc.2.2.2.2.2.2.2.2 ob.1.1.length ob.1.2.1 ob.1.2.2 ++ (onw ob.2 ++ (ex ++ Q)))) H := hP
            have hD : va_D A ([(zc.1, .inr (7, [.int zc.2.1, .int (nI zc.2.2.1), .int zc.2.2.2.1, .int zc.2.2.2.2.1, .ref zc.2.2.2.2.2.1, .int (((Wc.getD j9 (0, oz0)).2).2.2.1), .long zc.2.2.2.2.2.2.2.1, .ref zc.2.2.2.2.2.2.2.2]))] ++ (wlc cO e0 zc.2.2.2.2.2.2.2.2 ob.1.1.length ob.1.2.1 ob.1.2.2 ++ (onw ob.2 ++ (ex ++ Q)))) := hD
            obtain ⟨zn, hzn⟩ : ∃ zn : PZ, zn = pzA zc (Wc.getD j9 (0, oz0)).2.2.2.1 := ⟨_, rfl⟩
            have hP : va_P D classes ([(zn.1, .inr (7, [.int zn.2.1, .int (nI zn.2.2.1), .int zn.2.2.2.1, .int zn.2.2.2.2.1, .ref zn.2.2.2.2.2.1, .int zn.2.2.2.2.2.2.1, .long zn.2.2.2.2.2.2.2.1, .ref zn.2.2.2.2.2.2.2.2]))] ++ (wlc cO e0 zn.2.2.2.2.2.2.2.2 ob.1.1.length ob.1.2.1 ob.1.2.2 ++ ((onw ob.2 ++ ex) ++ Q))) H := by rw [hzn, List.append_assoc (onw ob.2)]; exact hP
            have hD : va_D A ([(zn.1, .inr (7, [.int zn.2.1, .int (nI zn.2.2.1), .int zn.2.2.2.1, .int zn.2.2.2.2.1, .ref zn.2.2.2.2.2.1, .int zn.2.2.2.2.2.2.1, .long zn.2.2.2.2.2.2.2.1, .ref zn.2.2.2.2.2.2.2.2]))] ++ (wlc cO e0 zn.2.2.2.2.2.2.2.2 ob.1.1.length ob.1.2.1 ob.1.2.2 ++ ((onw ob.2 ++ ex) ++ Q))) := by rw [hzn, List.append_assoc (onw ob.2)]; exact hD
            have hl : lv_has ls 3 [(2, .int (nI j9)), (0, .ref zn.1), (1, .int (nI k))] := by rw [hzn]; exact hl
            refine lv_iinc (k := 2) (v := nI (k + 1)) (lv' := [(1, .int (nI (k + 1))), (2, .int (nI j9)), (0, .ref zn.1)]) hx hb d_Programme_obeyDue_44 hl rfl (nI_1 k) (by decide) rfl (fun ls hl => ?_)
            refine lv_goto (tgt := 2) hx hb d_Programme_obeyDue_47 rfl ?_
            exact ih2 (k + 1) zn ((Wc.getD j9 (0, oz0)).2.2.2.1) ob.1.1 ob.1.2.1 ob.1.2.2 (onw ob.2 ++ ex) H locs ls (by omega) (by omega) (by rw [hzn, hz]; rfl) (by rw [List.append_assoc]; exact e41.2.1) e41.2.2 (obl_ob (obl_er hbo hj9) e41.1) (fun aw2 Wl2 nc h9 => by have h8 := hrun aw2 Wl2 (nc ++ onw ob.2) (by rw [show 12 - k = (12 - (k + 1)) + 1 by omega]; exact Or.inr ⟨j9, ob.1.1, ob.2, nc, hj9, (by rw [← hnw]; exact hd9), (fun i hi => by rw [← hnw]; exact hf9 i hi), e41.1, h9, rfl⟩); rw [List.append_assoc] at h8; exact h8) (lv_sub hl [2, 0] rfl) hP hD hS
  exact loop2 _ 0 z z.2.2.2.2.2.2.1 Wl mo wst [] s.heap [] ls (Nat.lt_succ_self _) (Nat.zero_le _) rfl hwk hW6 hbo (fun aw2 Wl2 nc h => by rw [List.append_nil]; exact h) (lv_sub hl [1, 0] rfl) hP hD hS
