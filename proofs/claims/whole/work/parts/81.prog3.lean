theorem wd_78 : (Jvm.Cond.initialized "StreamSplitter$Order") ∈ lw_ok := List.mem_filter.mpr ⟨List.mem_of_getElem? (i := 78) (by decide +kernel), rfl⟩
theorem wd_435 : (Jvm.Cond.constantLong "StreamSplitter$Programme" (25 : Nat) (-1 : Int64)) ∈ lw_ok := List.mem_filter.mpr ⟨List.mem_of_getElem? (i := 435) (by decide +kernel), rfl⟩
theorem wd_437 : (Jvm.Cond.methodLink "StreamSplitter$Programme" (83 : Nat) ({ cls := "StreamSplitter$Order", name := "<init>", desc := "(JIZJ)V" } : Jvm.MethodName)) ∈ lw_ok := List.mem_filter.mpr ⟨List.mem_of_getElem? (i := 437) (by decide +kernel), rfl⟩
theorem wd_438 : (Jvm.Cond.instanceMethod ({ cls := "StreamSplitter$Order", name := "<init>", desc := "(JIZJ)V" } : Jvm.MethodName)) ∈ lw_ok := List.mem_filter.mpr ⟨List.mem_of_getElem? (i := 438) (by decide +kernel), rfl⟩
set_option maxRecDepth 100000 in
theorem wd_439 : (Jvm.Cond.code ({ cls := "StreamSplitter$Order", name := "<init>", desc := "(JIZJ)V" } : Jvm.MethodName) prog_5_method_1_code (7 : Nat) (Option.none : Option Jvm.ClassFile.FieldType)) ∈ lw_ok := List.mem_filter.mpr ⟨List.mem_of_getElem? (i := 439) (by rfl), rfl⟩
theorem wd_448 : (Jvm.Cond.fieldLinkNest "StreamSplitter$Programme" (74 : Nat) "StreamSplitter$Order" "away" "Z" "StreamSplitter") ∈ lw_ok := List.mem_filter.mpr ⟨List.mem_of_getElem? (i := 448) (by decide +kernel), rfl⟩
theorem wd_451 : (Jvm.Cond.fieldLinkNest "StreamSplitter$Programme" (75 : Nat) "StreamSplitter$Order" "length" "J" "StreamSplitter") ∈ lw_ok := List.mem_filter.mpr ⟨List.mem_of_getElem? (i := 451) (by decide +kernel), rfl⟩
theorem wd_590 : (Jvm.Cond.fieldLink "StreamSplitter$Programme" (43 : Nat) "StreamSplitter$Programme" "away" "Z") ∈ lw_ok := List.mem_filter.mpr ⟨List.mem_of_getElem? (i := 590) (by decide +kernel), rfl⟩
theorem hd_Order_init : y_Order_init.cls ≠ "java/lang/invoke/MethodHandle" ∧ y_Order_init.cls ≠ "java/lang/invoke/VarHandle" ∧ (parseMethodDescriptor y_Order_init.desc).map (fun d => d.parameters.length) = some 4 := by decide +kernel
theorem d_Programme_obey_0 : decode b_Programme_obey 0 = .ok (.aload_n 0, 1) := by decide +kernel
theorem d_Programme_obey_1 : decode b_Programme_obey 1 = .ok (.aload_n 1, 1) := by decide +kernel
theorem d_Programme_obey_2 : decode b_Programme_obey 2 = .ok (.getfield 74, 3) := by decide +kernel
theorem d_Programme_obey_5 : decode b_Programme_obey 5 = .ok (.putfield 43, 3) := by decide +kernel
theorem d_Programme_obey_8 : decode b_Programme_obey 8 = .ok (.aload_n 1, 1) := by decide +kernel
theorem d_Programme_obey_9 : decode b_Programme_obey 9 = .ok (.getfield 75, 3) := by decide +kernel
theorem d_Programme_obey_12 : decode b_Programme_obey 12 = .ok (.ldc2_w 25, 3) := by decide +kernel
theorem d_Programme_obey_15 : decode b_Programme_obey 15 = .ok (.lcmp, 1) := by decide +kernel
theorem d_Programme_obey_16 : decode b_Programme_obey 16 = .ok (.ifCond .eq 75, 3) := by decide +kernel
theorem d_Programme_obey_19 : decode b_Programme_obey 19 = .ok (.aload_n 1, 1) := by decide +kernel
theorem d_Programme_obey_20 : decode b_Programme_obey 20 = .ok (.getfield 78, 3) := by decide +kernel
theorem d_Programme_obey_23 : decode b_Programme_obey 23 = .ok (.ldc2_w 25, 3) := by decide +kernel
theorem d_Programme_obey_26 : decode b_Programme_obey 26 = .ok (.lcmp, 1) := by decide +kernel
theorem d_Programme_obey_27 : decode b_Programme_obey 27 = .ok (.ifCond .eq 64, 3) := by decide +kernel
theorem d_Programme_obey_30 : decode b_Programme_obey 30 = .ok (.aload_n 0, 1) := by decide +kernel
theorem d_Programme_obey_31 : decode b_Programme_obey 31 = .ok (.getfield 31, 3) := by decide +kernel
theorem d_Programme_obey_34 : decode b_Programme_obey 34 = .ok (.invokevirtual 47, 3) := by decide +kernel
theorem d_Programme_obey_37 : decode b_Programme_obey 37 = .ok (.bipush 6, 2) := by decide +kernel
theorem d_Programme_obey_39 : decode b_Programme_obey 39 = .ok (.if_icmp .ge 52, 3) := by decide +kernel
theorem d_Programme_obey_42 : decode b_Programme_obey 42 = .ok (.aload_n 1, 1) := by decide +kernel
theorem d_Programme_obey_43 : decode b_Programme_obey 43 = .ok (.getfield 78, 3) := by decide +kernel
theorem d_Programme_obey_46 : decode b_Programme_obey 46 = .ok (.aload_n 1, 1) := by decide +kernel
theorem d_Programme_obey_47 : decode b_Programme_obey 47 = .ok (.getfield 75, 3) := by decide +kernel
theorem d_Programme_obey_50 : decode b_Programme_obey 50 = .ok (.ladd, 1) := by decide +kernel
theorem d_Programme_obey_51 : decode b_Programme_obey 51 = .ok (.ldc2_w 81, 3) := by decide +kernel
theorem d_Programme_obey_54 : decode b_Programme_obey 54 = .ok (.land, 1) := by decide +kernel
theorem d_Programme_obey_55 : decode b_Programme_obey 55 = .ok (.lstore_n 2, 1) := by decide +kernel
theorem d_Programme_obey_56 : decode b_Programme_obey 56 = .ok (.aload_n 0, 1) := by decide +kernel
theorem d_Programme_obey_57 : decode b_Programme_obey 57 = .ok (.getfield 31, 3) := by decide +kernel
theorem d_Programme_obey_60 : decode b_Programme_obey 60 = .ok (.new 55, 3) := by decide +kernel
theorem d_Programme_obey_63 : decode b_Programme_obey 63 = .ok (.dup, 1) := by decide +kernel
theorem d_Programme_obey_64 : decode b_Programme_obey 64 = .ok (.lload_n 2, 1) := by decide +kernel
theorem d_Programme_obey_65 : decode b_Programme_obey 65 = .ok (.aload_n 1, 1) := by decide +kernel
theorem d_Programme_obey_66 : decode b_Programme_obey 66 = .ok (.getfield 64, 3) := by decide +kernel
theorem d_Programme_obey_69 : decode b_Programme_obey 69 = .ok (.aload_n 1, 1) := by decide +kernel
theorem d_Programme_obey_70 : decode b_Programme_obey 70 = .ok (.getfield 74, 3) := by decide +kernel
theorem d_Programme_obey_73 : decode b_Programme_obey 73 = .ok (.ifCond .ne 7, 3) := by decide +kernel
theorem d_Programme_obey_76 : decode b_Programme_obey 76 = .ok (.iconst 1, 1) := by decide +kernel
theorem d_Programme_obey_77 : decode b_Programme_obey 77 = .ok (.goto 4, 3) := by decide +kernel
theorem d_Programme_obey_80 : decode b_Programme_obey 80 = .ok (.iconst 0, 1) := by decide +kernel
theorem d_Programme_obey_81 : decode b_Programme_obey 81 = .ok (.ldc2_w 25, 3) := by decide +kernel
theorem d_Programme_obey_84 : decode b_Programme_obey 84 = .ok (.invokespecial 83, 3) := by decide +kernel
theorem d_Programme_obey_87 : decode b_Programme_obey 87 = .ok (.invokevirtual 57, 3) := by decide +kernel
theorem d_Programme_obey_90 : decode b_Programme_obey 90 = .ok (.pop, 1) := by decide +kernel
theorem d_Programme_obey_91 : decode b_Programme_obey 91 = .ok (.return_, 1) := by decide +kernel
set_option maxHeartbeats 4000000 in
set_option maxRecDepth 100000 in
theorem c_Programme_obey (l : Launch) (D : va_G) (B0 : State) (hG : zG B0) (sz : Nat) (cO : ClassId) (e0 : Nat) (z : PZ) (mo : Int32) (wst : Option (Nat × (Nat → Option Nat))) (Wl : List (Nat × Int64 × Int32 × Int32 × Int64)) (Q : va_W) (oa : Nat) (o : Int64 × Int32 × Int32 × Int64) (he0 : zE0 B0 e0) (hwk : wok Q wst Wl) (hW6 : Wl.length ≤ 6) (ho : (oa, orE o) ∈ Q) (hoa : o.2.2.1 = 0 ∨ o.2.2.1 = 1) : Met l y_Programme_obey [Cond.code y_Programme_obey b_Programme_obey 4 none] ({ frames := 5, cells := 2, slots := 14, locals := 101 }) (zMo [.ref z.1, .ref oa] D ([(z.1, .inr (7, [.int z.2.1, .int (nI z.2.2.1), .int z.2.2.2.1, .int z.2.2.2.2.1, .ref z.2.2.2.2.2.1, .int z.2.2.2.2.2.2.1, .long z.2.2.2.2.2.2.2.1, .ref z.2.2.2.2.2.2.2.2]))] ++ (wlc cO e0 z.2.2.2.2.2.2.2.2 Wl.length mo wst ++ Q)) [(cO, .object "java/lang/Object")] sz B0) (va_Qv (fun (u : OB9) => obP Wl o u.1.1 u.2 ∧ wok (onw u.2 ++ Q) u.1.2.2 u.1.1 ∧ u.1.1.length ≤ 6) (fun (u : OB9) t => zW D (va_A ([(z.1, .inr (7, [.int z.2.1, .int (nI z.2.2.1), .int z.2.2.2.1, .int z.2.2.2.2.1, .ref z.2.2.2.2.2.1, .int z.2.2.2.2.2.2.1, .long z.2.2.2.2.2.2.2.1, .ref z.2.2.2.2.2.2.2.2]))] ++ (wlc cO e0 z.2.2.2.2.2.2.2.2 Wl.length mo wst ++ Q)) sz) ([(z.1, .inr (7, [.int z.2.1, .int (nI z.2.2.1), .int z.2.2.2.1, .int z.2.2.2.2.1, .ref z.2.2.2.2.2.1, .int o.2.2.1, .long z.2.2.2.2.2.2.2.1, .ref z.2.2.2.2.2.2.2.2]))] ++ (wlc cO e0 z.2.2.2.2.2.2.2.2 u.1.1.length u.1.2.1 u.1.2.2 ++ (onw u.2 ++ Q))) [(cO, .object "java/lang/Object")] t) (va_A ([(z.1, .inr (7, [.int z.2.1, .int (nI z.2.2.1), .int z.2.2.2.1, .int z.2.2.2.2.1, .ref z.2.2.2.2.2.1, .int z.2.2.2.2.2.2.1, .long z.2.2.2.2.2.2.2.1, .ref z.2.2.2.2.2.2.2.2]))] ++ (wlc cO e0 z.2.2.2.2.2.2.2.2 Wl.length mo wst ++ Q)) sz)) 2 14 (va_A ([(z.1, .inr (7, [.int z.2.1, .int (nI z.2.2.1), .int z.2.2.2.1, .int z.2.2.2.2.1, .ref z.2.2.2.2.2.1, .int z.2.2.2.2.2.2.1, .long z.2.2.2.2.2.2.2.1, .ref z.2.2.2.2.2.2.2.2]))] ++ (wlc cO e0 z.2.2.2.2.2.2.2.2 Wl.length mo wst ++ Q)) sz) := by
  refine Met.ofW (cc := b_Programme_obey) (maxL := 4) (ret := none) (by decide) rfl ?_
  intro p e s m args below meth cd s₁ Bd hml hv
  obtain ⟨rfl, hsz, hP, hK, hN, hD0, hO⟩ := hv
  have hx := Bd.exec
  have hb := Bd.bytes
  have hr := Bd.returns
  have hts := hN.use (a := ([.ref z.1, .ref oa]).toArray)
  have hown : s.vm.findClass R_Programme = some m.cls := findClass_of_methodNamed Bd.named
  have hlocks := Bd.notSynchronized
  subst hsz
  have hD := hD0.self (sz := s.heap.size)
  have hAO := z_AO hD0 hO
  clear hD0
  have hA : ∀ q : Nat, s.heap.size ≤ q → va_A ([(z.1, .inr (7, [.int z.2.1, .int (nI z.2.2.1), .int z.2.2.2.1, .int z.2.2.2.2.1, .ref z.2.2.2.2.2.1, .int z.2.2.2.2.2.2.1, .long z.2.2.2.2.2.2.2.1, .ref z.2.2.2.2.2.2.2.2]))] ++ (wlc cO e0 z.2.2.2.2.2.2.2.2 Wl.length mo wst ++ Q)) s.heap.size q := fun q h => Or.inr h
  have hS : va_S (va_A ([(z.1, .inr (7, [.int z.2.1, .int (nI z.2.2.1), .int z.2.2.2.1, .int z.2.2.2.2.1, .ref z.2.2.2.2.2.1, .int z.2.2.2.2.2.2.1, .long z.2.2.2.2.2.2.2.1, .ref z.2.2.2.2.2.2.2.2]))] ++ (wlc cO e0 z.2.2.2.2.2.2.2.2 Wl.length mo wst ++ Q)) s.heap.size) s.heap s.heap [] := va_S.rf
  generalize hAe : va_A ([(z.1, .inr (7, [.int z.2.1, .int (nI z.2.2.1), .int z.2.2.2.1, .int z.2.2.2.2.1, .ref z.2.2.2.2.2.1, .int z.2.2.2.2.2.2.1, .long z.2.2.2.2.2.2.2.1, .ref z.2.2.2.2.2.2.2.2]))] ++ (wlc cO e0 z.2.2.2.2.2.2.2.2 Wl.length mo wst ++ Q)) s.heap.size = A at hD hA hS hAO ⊢
  have hP : va_P D classes ([(z.1, .inr (7, [.int z.2.1, .int (nI z.2.2.1), .int z.2.2.2.1, .int z.2.2.2.2.1, .ref z.2.2.2.2.2.1, .int z.2.2.2.2.2.2.1, .long z.2.2.2.2.2.2.2.1, .ref z.2.2.2.2.2.2.2.2]))] ++ (wlc cO e0 z.2.2.2.2.2.2.2.2 Wl.length mo wst ++ Q)) s.heap := hP
  have hl := lv_entry ([.ref z.1, .ref oa]) (n := 4) (Nat.le_of_ble_eq_true rfl)
  rw [lg_entry_eq]
  generalize (lg_sl ([.ref z.1, .ref oa]) ++ List.replicate (4 - (lg_sl ([.ref z.1, .ref oa])).length) Slot.unset).toArray = ls at hl ⊢
  have hl : lv_has ls 4 [(0, .ref z.1), (1, .ref oa)] := hl
  cases wst with
  | none =>
    obtain rfl : Wl = [] := hwk
    have hP : va_P D classes ([(z.1, .inr (7, [.int z.2.1, .int (nI z.2.2.1), .int z.2.2.2.1, .int z.2.2.2.2.1, .ref z.2.2.2.2.2.1, .int z.2.2.2.2.2.2.1, .long z.2.2.2.2.2.2.2.1, .ref z.2.2.2.2.2.2.2.2])), (z.2.2.2.2.2.2.2.2, .inr (12, [.ref e0, .int 0, .int mo]))] ++ Q) s.heap := hP
    have hD : va_D A ([(z.1, .inr (7, [.int z.2.1, .int (nI z.2.2.1), .int z.2.2.2.1, .int z.2.2.2.2.1, .ref z.2.2.2.2.2.1, .int z.2.2.2.2.2.2.1, .long z.2.2.2.2.2.2.2.1, .ref z.2.2.2.2.2.2.2.2])), (z.2.2.2.2.2.2.2.2, .inr (12, [.ref e0, .int 0, .int mo]))] ++ Q) := hD
    refine lv_aload_n hx hb d_Programme_obey_0 rfl (lv_at hl 0 rfl) ?_
    refine lv_aload_n hx hb d_Programme_obey_1 rfl (lv_at hl 1 rfl) ?_
    obtain ⟨q2, hq2⟩ := List.getElem?_of_mem (List.mem_append_right [(z.1, .inr (7, [.int z.2.1, .int (nI z.2.2.1), .int z.2.2.2.1, .int z.2.2.2.2.1, .ref z.2.2.2.2.2.1, .int z.2.2.2.2.2.2.1, .long z.2.2.2.2.2.2.2.1, .ref z.2.2.2.2.2.2.2.2])), (z.2.2.2.2.2.2.2.2, .inr (12, [.ref e0, .int 0, .int mo]))] ho)
    refine va_getN (D := D) (ci := 6) (v := .int o.2.2.1) (C := R_Order) (T := F_Order) (N := 4) hx hb hts i_Order hown hK hP q2 hq2 rfl 2 (by decide) (hts _ wd_448) (fun _ h9 => h9) rfl d_Programme_obey_2 ?_
    refine va_put (D := D) (ci := 7) (v := .int o.2.2.1) (ty := .boolean) (C := R_Programme) (T := F_Programme) (N := 8) hx hb hts i_Programme t_Programme t_Programme_ok n_Programme hown hK hP hD hS 0 rfl rfl 5 (by decide) (hts _ wd_590) (fun _ h9 => h9) rfl (by decide +kernel) (by rcases hoa with q9 | q9 <;> rw [q9] <;> rfl) (by rcases hoa with q9 | q9 <;> rw [q9] <;> rfl) (Nat.le_of_ble_eq_true rfl) d_Programme_obey_5 (fun H locs hP hD hS => ?_)
    have hP : va_P D classes ([(z.1, .inr (7, [.int z.2.1, .int (nI z.2.2.1), .int z.2.2.2.1, .int z.2.2.2.2.1, .ref z.2.2.2.2.2.1, .int o.2.2.1, .long z.2.2.2.2.2.2.2.1, .ref z.2.2.2.2.2.2.2.2])), (z.2.2.2.2.2.2.2.2, .inr (12, [.ref e0, .int 0, .int mo]))] ++ Q) H := hP
    have hD : va_D A ([(z.1, .inr (7, [.int z.2.1, .int (nI z.2.2.1), .int z.2.2.2.1, .int z.2.2.2.2.1, .ref z.2.2.2.2.2.1, .int o.2.2.1, .long z.2.2.2.2.2.2.2.1, .ref z.2.2.2.2.2.2.2.2])), (z.2.2.2.2.2.2.2.2, .inr (12, [.ref e0, .int 0, .int mo]))] ++ Q) := hD
    refine lv_aload_n hx hb d_Programme_obey_8 rfl (lv_at hl 1 rfl) ?_
    obtain ⟨q9, hq9⟩ := List.getElem?_of_mem (List.mem_append_right [(z.1, .inr (7, [.int z.2.1, .int (nI z.2.2.1), .int z.2.2.2.1, .int z.2.2.2.2.1, .ref z.2.2.2.2.2.1, .int o.2.2.1, .long z.2.2.2.2.2.2.2.1, .ref z.2.2.2.2.2.2.2.2])), (z.2.2.2.2.2.2.2.2, .inr (12, [.ref e0, .int 0, .int mo]))] ho)
    refine va_getN (D := D) (ci := 6) (v := .long o.2.2.2) (C := R_Order) (T := F_Order) (N := 4) hx hb hts i_Order hown hK hP q9 hq9 rfl 3 (by decide) (hts _ wd_451) (fun _ h9 => h9) rfl d_Programme_obey_9 ?_
    refine lv_ldc2 hx hb hown (hts _ wd_435) d_Programme_obey_12 ?_
    refine W.lcmp hx hb d_Programme_obey_15 ?_
    refine lv_if_eq (tgt := 91) hx hb d_Programme_obey_16 rfl (fun h16 => ?_) (fun h16 => ?_)
    · have h16 := (lg_cmp_eq _ _).mp h16
      have hP : va_P D classes ([(z.1, .inr (7, [.int z.2.1, .int (nI z.2.2.1), .int z.2.2.2.1, .int z.2.2.2.2.1, .ref z.2.2.2.2.2.1, .int o.2.2.1, .long z.2.2.2.2.2.2.2.1, .ref z.2.2.2.2.2.2.2.2]))] ++ (wlc cO e0 z.2.2.2.2.2.2.2.2 (([] : List (Nat × Int64 × Int32 × Int32 × Int64)).length) mo none ++ Q)) H := hP
      have hD : va_D A ([(z.1, .inr (7, [.int z.2.1, .int (nI z.2.2.1), .int z.2.2.2.1, .int z.2.2.2.2.1, .ref z.2.2.2.2.2.1, .int o.2.2.1, .long z.2.2.2.2.2.2.2.1, .ref z.2.2.2.2.2.2.2.2]))] ++ (wlc cO e0 z.2.2.2.2.2.2.2.2 (([] : List (Nat × Int64 × Int32 × Int32 × Int64)).length) mo none ++ Q)) := hD
      have hP9 := hP.part (cx := [(z.1, .inr (7, [.int z.2.1, .int (nI z.2.2.1), .int z.2.2.2.1, .int z.2.2.2.2.1, .ref z.2.2.2.2.2.1, .int o.2.2.1, .long z.2.2.2.2.2.2.2.1, .ref z.2.2.2.2.2.2.2.2]))]) [0] rfl
      have hD9 := hD.part (cx := [(z.1, .inr (7, [.int z.2.1, .int (nI z.2.2.1), .int z.2.2.2.1, .int z.2.2.2.2.1, .ref z.2.2.2.2.2.1, .int o.2.2.1, .long z.2.2.2.2.2.2.2.1, .ref z.2.2.2.2.2.2.2.2]))]) [0] (by decide) rfl
      have hK9 := hK.sub (tys' := [(cO, .object "java/lang/Object")]) [0] rfl
      refine W.widen (k := 2) (n := 14) (by omega) (by omega) ?_
      exact W.vret hx hb hr (fun t ht hW => ⟨⟨(([], mo, none), none), rfl, ⟨Or.inl ⟨by first | exact Or.inl h16 | exact Or.inr (Or.inl h27), rfl, rfl⟩, rfl, Nat.zero_le _⟩, ⟨by rw [ht]; exact hP9, va_K.moved hW.alike hK9, hD9⟩⟩, hS.F ht⟩) hS.2.2 d_Programme_obey_91
    · have h16 := mt (lg_cmp_eq _ _).mpr h16
      refine lv_aload_n hx hb d_Programme_obey_19 rfl (lv_at hl 1 rfl) ?_
      refine va_getN (D := D) (ci := 6) (v := .long o.1) (C := R_Order) (T := F_Order) (N := 4) hx hb hts i_Order hown hK hP q9 hq9 rfl 0 (by decide) (hts _ wd_442) (fun _ h9 => h9) rfl d_Programme_obey_20 ?_
      refine lv_ldc2 hx hb hown (hts _ wd_435) d_Programme_obey_23 ?_
      refine W.lcmp hx hb d_Programme_obey_26 ?_
      refine lv_if_eq (tgt := 91) hx hb d_Programme_obey_27 rfl (fun h27 => ?_) (fun h27 => ?_)
      · have h27 := (lg_cmp_eq _ _).mp h27
        have hP : va_P D classes ([(z.1, .inr (7, [.int z.2.1, .int (nI z.2.2.1), .int z.2.2.2.1, .int z.2.2.2.2.1, .ref z.2.2.2.2.2.1, .int o.2.2.1, .long z.2.2.2.2.2.2.2.1, .ref z.2.2.2.2.2.2.2.2]))] ++ (wlc cO e0 z.2.2.2.2.2.2.2.2 (([] : List (Nat × Int64 × Int32 × Int32 × Int64)).length) mo none ++ Q)) H := hP
        have hD : va_D A ([(z.1, .inr (7, [.int z.2.1, .int (nI z.2.2.1), .int z.2.2.2.1, .int z.2.2.2.2.1, .ref z.2.2.2.2.2.1, .int o.2.2.1, .long z.2.2.2.2.2.2.2.1, .ref z.2.2.2.2.2.2.2.2]))] ++ (wlc cO e0 z.2.2.2.2.2.2.2.2 (([] : List (Nat × Int64 × Int32 × Int32 × Int64)).length) mo none ++ Q)) := hD
        have hP9 := hP.part (cx := [(z.1, .inr (7, [.int z.2.1, .int (nI z.2.2.1), .int z.2.2.2.1, .int z.2.2.2.2.1, .ref z.2.2.2.2.2.1, .int o.2.2.1, .long z.2.2.2.2.2.2.2.1, .ref z.2.2.2.2.2.2.2.2]))]) [0] rfl
        have hD9 := hD.part (cx := [(z.1, .inr (7, [.int z.2.1, .int (nI z.2.2.1), .int z.2.2.2.1, .int z.2.2.2.2.1, .ref z.2.2.2.2.2.1, .int o.2.2.1, .long z.2.2.2.2.2.2.2.1, .ref z.2.2.2.2.2.2.2.2]))]) [0] (by decide) rfl
        have hK9 := hK.sub (tys' := [(cO, .object "java/lang/Object")]) [0] rfl
        refine W.widen (k := 2) (n := 14) (by omega) (by omega) ?_
        exact W.vret hx hb hr (fun t ht hW => ⟨⟨(([], mo, none), none), rfl, ⟨Or.inl ⟨by first | exact Or.inl h16 | exact Or.inr (Or.inl h27), rfl, rfl⟩, rfl, Nat.zero_le _⟩, ⟨by rw [ht]; exact hP9, va_K.moved hW.alike hK9, hD9⟩⟩, hS.F ht⟩) hS.2.2 d_Programme_obey_91
      · have h27 := mt (lg_cmp_eq _ _).mpr h27
        refine lv_aload_n hx hb d_Programme_obey_30 rfl (lv_at hl 0 rfl) ?_
        refine va_get (D := D) (ci := 7) (v := .ref z.2.2.2.2.2.2.2.2) (C := R_Programme) (T := F_Programme) (N := 8) hx hb hts i_Programme hown hK hP 0 rfl rfl 7 (by decide) (hts _ wd_595) (fun _ h9 => h9) rfl d_Programme_obey_31 ?_
        have hPc := hP.sub (ws' := [(z.2.2.2.2.2.2.2.2, .inr (12, [.ref e0, .int 0, .int mo]))]) [1] rfl
        have hKc := hK.sub (tys' := []) [] rfl
        refine z_ci (va_runV (As := []) (rest := []) ⟨hx, hb, hml, hown, hts⟩ (c_AL_size l D z.2.2.2.2.2.2.2.2 e0 0 mo ) (z_cV hN wd_305 wd_66 wd_329 hd_AL_size rfl rfl ⟨Nat.le_of_ble_eq_true rfl, Nat.le_of_ble_eq_true rfl⟩ wd_303 wd_304) (z_preV (va_recv (ci := 12) (q0 := 1) hK hP rfl rfl) hPc hKc hN) rfl rfl hl.1 rfl (lv_room (Nat.le_of_ble_eq_true rfl)) d_Programme_obey_34 ⟨Nat.le_of_ble_eq_true rfl, Nat.le_of_ble_eq_true rfl⟩) (fun r34 e34 => ?_)
        refine z_topi (w := 0) e34 ?_
        refine lv_bipush (v := 6) hx hb d_Programme_obey_37 (by decide) ?_
        refine lv_icmp_ge (tgt := 91) hx hb d_Programme_obey_39 rfl (fun h9 => absurd h9 (by decide)) (fun h39 => ?_)
        refine lv_aload_n hx hb d_Programme_obey_42 rfl (lv_at hl 1 rfl) ?_
        refine va_getN (D := D) (ci := 6) (v := .long o.1) (C := R_Order) (T := F_Order) (N := 4) hx hb hts i_Order hown hK hP q9 hq9 rfl 0 (by decide) (hts _ wd_442) (fun _ h9 => h9) rfl d_Programme_obey_43 ?_
        refine lv_aload_n hx hb d_Programme_obey_46 rfl (lv_at hl 1 rfl) ?_
        refine va_getN (D := D) (ci := 6) (v := .long o.2.2.2) (C := R_Order) (T := F_Order) (N := 4) hx hb hts i_Order hown hK hP q9 hq9 rfl 3 (by decide) (hts _ wd_451) (fun _ h9 => h9) rfl d_Programme_obey_47 ?_
        refine lv_ladd hx hb d_Programme_obey_50 ?_
        refine lv_ldc2 hx hb hown (hts _ wd_418) d_Programme_obey_51 ?_
        refine lv_land hx hb d_Programme_obey_54 ?_
        refine lv_lstore_n (lv' := [(2, .long ((o.1 + o.2.2.2) &&& 8589934591)), (0, .ref z.1), (1, .ref oa)]) hx hb d_Programme_obey_55 rfl hl (by decide) rfl (fun ls hl => ?_)
        refine lv_aload_n hx hb d_Programme_obey_56 rfl (lv_at hl 1 rfl) ?_
        refine va_get (D := D) (ci := 7) (v := .ref z.2.2.2.2.2.2.2.2) (C := R_Programme) (T := F_Programme) (N := 8) hx hb hts i_Programme hown hK hP 0 rfl rfl 7 (by decide) (hts _ wd_595) (fun _ h9 => h9) rfl d_Programme_obey_57 ?_
        refine va_new (ci := 6) (fs := [.long 0, .int 0, .int 0, .long 0]) (C := R_Order) (T := F_Order) (N := 4) hx hb hts i_Order t_Order t_Order_ok hown (hts _ wd_417) (hts _ wd_436) (hts _ wd_78) hK hP hD hS hA rfl (fs_Order) (by show 0 + 1 ≤ 2; omega) (by show 0 + 4 ≤ 14; omega) d_Programme_obey_60 (fun q60 H hP hD hS => ?_)
        have hP := hP.swap
        have hD := hD.swap
        have hP : va_P D classes ([(z.1, .inr (7, [.int z.2.1, .int (nI z.2.2.1), .int z.2.2.2.1, .int z.2.2.2.2.1, .ref z.2.2.2.2.2.1, .int o.2.2.1, .long z.2.2.2.2.2.2.2.1, .ref z.2.2.2.2.2.2.2.2])), (z.2.2.2.2.2.2.2.2, .inr (12, [.ref e0, .int 0, .int mo])), (q60, .inr (6, [.long 0, .int 0, .int 0, .long 0]))] ++ Q) H := hP
        have hD : va_D A ([(z.1, .inr (7, [.int z.2.1, .int (nI z.2.2.1), .int z.2.2.2.1, .int z.2.2.2.2.1, .ref z.2.2.2.2.2.1, .int o.2.2.1, .long z.2.2.2.2.2.2.2.1, .ref z.2.2.2.2.2.2.2.2])), (z.2.2.2.2.2.2.2.2, .inr (12, [.ref e0, .int 0, .int mo])), (q60, .inr (6, [.long 0, .int 0, .int 0, .long 0]))] ++ Q) := hD
        refine lv_dup hx hb d_Programme_obey_63 rfl ?_
        refine lv_lload_n hx hb d_Programme_obey_64 rfl (lv_at hl 0 rfl) ?_
        refine lv_aload_n hx hb d_Programme_obey_65 rfl (lv_at hl 2 rfl) ?_
        obtain ⟨q66, hq66⟩ := List.getElem?_of_mem (List.mem_append_right [(z.1, .inr (7, [.int z.2.1, .int (nI z.2.2.1), .int z.2.2.2.1, .int z.2.2.2.2.1, .ref z.2.2.2.2.2.1, .int o.2.2.1, .long z.2.2.2.2.2.2.2.1, .ref z.2.2.2.2.2.2.2.2])), (z.2.2.2.2.2.2.2.2, .inr (12, [.ref e0, .int 0, .int mo])), (q60, .inr (6, [.long 0, .int 0, .int 0, .long 0]))] ho)
        refine va_getN (D := D) (ci := 6) (v := .int o.2.1) (C := R_Order) (T := F_Order) (N := 4) hx hb hts i_Order hown hK hP q66 hq66 rfl 1 (by decide) (hts _ wd_445) (fun _ h9 => h9) rfl d_Programme_obey_66 ?_
        refine lv_aload_n hx hb d_Programme_obey_69 rfl (lv_at hl 2 rfl) ?_
        refine va_getN (D := D) (ci := 6) (v := .int o.2.2.1) (C := R_Order) (T := F_Order) (N := 4) hx hb hts i_Order hown hK hP q66 hq66 rfl 2 (by decide) (hts _ wd_448) (fun _ h9 => h9) rfl d_Programme_obey_70 ?_
        suffices key73 : W p l e ({ frames := 5, cells := 2, slots := 14, locals := 101 }) s m ([.ref z.1, .ref oa]).toArray below meth cd H locs (0 + 1) (0 + 4) (MQ below (va_Qv (fun (u : OB9) => obP ([] : List (Nat × Int64 × Int32 × Int32 × Int64)) o u.1.1 u.2 ∧ wok (onw u.2 ++ Q) u.1.2.2 u.1.1 ∧ u.1.1.length ≤ 6) (fun (u : OB9) t => zW D (A) ([(z.1, .inr (7, [.int z.2.1, .int (nI z.2.2.1), .int z.2.2.2.1, .int z.2.2.2.2.1, .ref z.2.2.2.2.2.1, .int o.2.2.1, .long z.2.2.2.2.2.2.2.1, .ref z.2.2.2.2.2.2.2.2]))] ++ (wlc cO e0 z.2.2.2.2.2.2.2.2 u.1.1.length u.1.2.1 u.1.2.2 ++ (onw u.2 ++ Q))) [(cO, .object "java/lang/Object")] t) (A)) ([.ref z.1, .ref oa]).toArray s 2 14 (A)) (F0 m 81 ls [.int (if o.2.2.1 = 0 then 1 else 0), .int o.2.1, .long ((o.1 + o.2.2.2) &&& 8589934591), .ref q60, .ref q60, .ref z.2.2.2.2.2.2.2.2]) by
          refine lv_if_ne (tgt := 80) hx hb d_Programme_obey_73 rfl (fun h73 => ?_) (fun h73 => ?_)
          · refine lv_iconst (v := 0) hx hb d_Programme_obey_80 (by decide) ?_
            refine z_topi (w := (if o.2.2.1 = 0 then 1 else 0)) ((if_neg h73).symm) ?_
            exact key73
          · refine lv_iconst (v := 1) hx hb d_Programme_obey_76 (by decide) ?_
            refine lv_goto (tgt := 81) hx hb d_Programme_obey_77 rfl ?_
            refine z_topi (w := (if o.2.2.1 = 0 then 1 else 0)) ((if_pos (by first | exact h73 | exact Classical.not_not.mp h73)).symm) ?_
            exact key73
        refine lv_ldc2 hx hb hown (hts _ wd_435) d_Programme_obey_81 ?_
        have hPc := hP.sub (ws' := [(q60, .inr (6, [.long 0, .int 0, .int 0, .long 0]))]) [2] rfl
        have hKc := hK.sub (tys' := []) [] rfl
        have hDc := hD.sub (ws' := [(q60, .inr (6, [.long 0, .int 0, .int 0, .long 0]))]) [2] (by decide) rfl
        have hFc := va_free (wc := [(q60, .inr (6, [.long 0, .int 0, .int 0, .long 0]))]) hD hS hA [2] rfl
        refine va_callv (va_runI (As := [.long ((o.1 + o.2.2.2) &&& 8589934591), .int o.2.1, .int (if o.2.2.1 = 0 then 1 else 0), .long (-1)]) (rest := [.ref q60, .ref z.2.2.2.2.2.2.2.2]) ⟨hx, hb, hml, hown, hts⟩ (c_Order_init l D H.size q60 ((o.1 + o.2.2.2) &&& 8589934591) (-1) o.2.1 (if o.2.2.1 = 0 then 1 else 0) (by by_cases c9 : o.2.2.1 = 0; exact Or.inr (if_pos c9); exact Or.inl (if_neg c9))) (z_cI hN wd_439 wd_78 wd_437 hd_Order_init rfl rfl ⟨Nat.le_of_ble_eq_true rfl, Nat.le_of_ble_eq_true rfl⟩ wd_438 rfl) (z_preSm hPc hKc hN hDc) rfl rfl hl.1 rfl (lv_room (Nat.le_of_ble_eq_true rfl)) d_Programme_obey_84 ⟨Nat.le_of_ble_eq_true rfl, Nat.le_of_ble_eq_true rfl⟩) hS (fun q _ h => hFc q h) hFc (fun u84 t H locs ht hvm e84 hB hz1 hk1 hS => ?_)
        obtain ⟨hP1, hK1, hD1⟩ := hB
        rw [ht] at hP1
        obtain ⟨hP, hD⟩ := va_joinQ (cx := [(q60, .inr (6, [.long 0, .int 0, .int 0, .long 0]))]) (wr := [(z.1, .inr (7, [.int z.2.1, .int (nI z.2.2.1), .int z.2.2.2.1, .int z.2.2.2.2.1, .ref z.2.2.2.2.2.1, .int o.2.2.1, .long z.2.2.2.2.2.2.2.1, .ref z.2.2.2.2.2.2.2.2])), (z.2.2.2.2.2.2.2.2, .inr (12, [.ref e0, .int 0, .int mo]))]) (w1 := [(q60, .inr (6, [.long ((o.1 + o.2.2.2) &&& 8589934591), .int o.2.1, .int (if o.2.2.1 = 0 then 1 else 0), .long (-1)]))]) hP hD [2] [0, 1] rfl rfl (by decide) (by decide) hk1 hFc hP1 hD1
        clear hk1 hP1 hD1 hFc hPc hDc hz1
        have hP : va_P D classes ([(z.1, .inr (7, [.int z.2.1, .int (nI z.2.2.1), .int z.2.2.2.1, .int z.2.2.2.2.1, .ref z.2.2.2.2.2.1, .int o.2.2.1, .long z.2.2.2.2.2.2.2.1, .ref z.2.2.2.2.2.2.2.2])), (z.2.2.2.2.2.2.2.2, .inr (12, [.ref e0, .int 0, .int mo])), (q60, .inr (6, [.long ((o.1 + o.2.2.2) &&& 8589934591), .int o.2.1, .int (if o.2.2.1 = 0 then 1 else 0), .long (-1)]))] ++ Q) H := hP
        have hD : va_D A ([(z.1, .inr (7, [.int z.2.1, .int (nI z.2.2.1), .int z.2.2.2.1, .int z.2.2.2.2.1, .ref z.2.2.2.2.2.1, .int o.2.2.1, .long z.2.2.2.2.2.2.2.1, .ref z.2.2.2.2.2.2.2.2])), (z.2.2.2.2.2.2.2.2, .inr (12, [.ref e0, .int 0, .int mo])), (q60, .inr (6, [.long ((o.1 + o.2.2.2) &&& 8589934591), .int o.2.1, .int (if o.2.2.1 = 0 then 1 else 0), .long (-1)]))] ++ Q) := hD
        have hPc := hP.sub (ws' := [(z.2.2.2.2.2.2.2.2, .inr (12, [.ref e0, .int 0, .int mo])), (q60, .inr (6, [.long ((o.1 + o.2.2.2) &&& 8589934591), .int o.2.1, .int (if o.2.2.1 = 0 then 1 else 0), .long (-1)]))]) [1, 2] rfl
        have hKc := hK.sub (tys' := [(cO, .object "java/lang/Object")]) [0] rfl
        have hDc := hD.sub (ws' := [(z.2.2.2.2.2.2.2.2, .inr (12, [.ref e0, .int 0, .int mo])), (q60, .inr (6, [.long ((o.1 + o.2.2.2) &&& 8589934591), .int o.2.1, .int (if o.2.2.1 = 0 then 1 else 0), .long (-1)]))]) [1, 2] (by decide) rfl
        have hFc := va_free (wc := [(z.2.2.2.2.2.2.2.2, .inr (12, [.ref e0, .int 0, .int mo])), (q60, .inr (6, [.long ((o.1 + o.2.2.2) &&& 8589934591), .int o.2.1, .int (if o.2.2.1 = 0 then 1 else 0), .long (-1)]))]) hD hS hA [1, 2] rfl
        refine va_calli (va_runV (As := [.ref q60]) (rest := []) ⟨hx, hb, hml, hown, hts⟩ (c_AL_add0e l D B0 hG H.size cO z.2.2.2.2.2.2.2.2 e0 mo q60 6 [.long ((o.1 + o.2.2.2) &&& 8589934591), .int o.2.1, .int (if o.2.2.1 = 0 then 1 else 0), .long (-1)] (R_Order, F_Order, 4) he0 rfl wd_1500) (z_cV hN wd_465 wd_66 wd_462 hd_AL_add0 rfl rfl ⟨Nat.le_of_ble_eq_true rfl, Nat.le_of_ble_eq_true rfl⟩ wd_463 wd_464) (z_preVo (va_recv (ci := 12) (q0 := 1) hK hP rfl rfl) hPc hKc hN hDc hO hS hAO) rfl rfl hl.1 rfl (lv_room (Nat.le_of_ble_eq_true rfl)) d_Programme_obey_87 ⟨Nat.le_of_ble_eq_true rfl, Nat.le_of_ble_eq_true rfl⟩) hS (fun q _ h => hFc q h) hFc (fun r87 q9 t H locs ht hvm e87 hB hz1 hk1 hS => ?_)
        obtain ⟨hP1, hK1, hD1⟩ := hB
        rw [ht] at hP1
        obtain ⟨hP, hD⟩ := va_joinQ (cx := [(z.2.2.2.2.2.2.2.2, .inr (12, [.ref e0, .int 0, .int mo])), (q60, .inr (6, [.long ((o.1 + o.2.2.2) &&& 8589934591), .int o.2.1, .int (if o.2.2.1 = 0 then 1 else 0), .long (-1)]))]) (wr := [(z.1, .inr (7, [.int z.2.1, .int (nI z.2.2.1), .int z.2.2.2.1, .int z.2.2.2.2.1, .ref z.2.2.2.2.2.1, .int o.2.2.1, .long z.2.2.2.2.2.2.2.1, .ref z.2.2.2.2.2.2.2.2]))]) (w1 := [(z.2.2.2.2.2.2.2.2, .inr (12, [.ref q9, .int 1, .int (mo + 1)])), (q9, .inl (cO, 10, .inr (.inr (.inr (.inr (va_up (fun _ => none) 0 (some q60))))))), (q60, .inr (6, [.long ((o.1 + o.2.2.2) &&& 8589934591), .int o.2.1, .int (if o.2.2.1 = 0 then 1 else 0), .long (-1)]))]) hP hD [1, 2] [0] rfl rfl (by decide) (by decide) hk1 hFc hP1 hD1
        clear hk1 hP1 hD1 hFc hPc hDc hz1
        have hP : va_P D classes ([(z.1, .inr (7, [.int z.2.1, .int (nI z.2.2.1), .int z.2.2.2.1, .int z.2.2.2.2.1, .ref z.2.2.2.2.2.1, .int o.2.2.1, .long z.2.2.2.2.2.2.2.1, .ref z.2.2.2.2.2.2.2.2])), (z.2.2.2.2.2.2.2.2, .inr (12, [.ref q9, .int 1, .int (mo + 1)])), (q9, .inl (cO, 10, .inr (.inr (.inr (.inr (va_up (fun _ => none) 0 (some q60))))))), (q60, .inr (6, [.long ((o.1 + o.2.2.2) &&& 8589934591), .int o.2.1, .int (if o.2.2.1 = 0 then 1 else 0), .long (-1)]))] ++ Q) H := hP
        have hD : va_D A ([(z.1, .inr (7, [.int z.2.1, .int (nI z.2.2.1), .int z.2.2.2.1, .int z.2.2.2.2.1, .ref z.2.2.2.2.2.1, .int o.2.2.1, .long z.2.2.2.2.2.2.2.1, .ref z.2.2.2.2.2.2.2.2])), (z.2.2.2.2.2.2.2.2, .inr (12, [.ref q9, .int 1, .int (mo + 1)])), (q9, .inl (cO, 10, .inr (.inr (.inr (.inr (va_up (fun _ => none) 0 (some q60))))))), (q60, .inr (6, [.long ((o.1 + o.2.2.2) &&& 8589934591), .int o.2.1, .int (if o.2.2.1 = 0 then 1 else 0), .long (-1)]))] ++ Q) := hD
        refine lv_pop hx hb d_Programme_obey_90 rfl ?_
        have hP := hP.part (cx := [(z.1, .inr (7, [.int z.2.1, .int (nI z.2.2.1), .int z.2.2.2.1, .int z.2.2.2.2.1, .ref z.2.2.2.2.2.1, .int o.2.2.1, .long z.2.2.2.2.2.2.2.1, .ref z.2.2.2.2.2.2.2.2])), (z.2.2.2.2.2.2.2.2, .inr (12, [.ref q9, .int 1, .int (mo + 1)])), (q9, .inl (cO, 10, .inr (.inr (.inr (.inr (va_up (fun _ => none) 0 (some q60))))))), (q60, .inr (6, [.long ((o.1 + o.2.2.2) &&& 8589934591), .int o.2.1, .int (if o.2.2.1 = 0 then 1 else 0), .long (-1)]))]) [0, 1, 2, 3] rfl
        have hD := hD.part (cx := [(z.1, .inr (7, [.int z.2.1, .int (nI z.2.2.1), .int z.2.2.2.1, .int z.2.2.2.2.1, .ref z.2.2.2.2.2.1, .int o.2.2.1, .long z.2.2.2.2.2.2.2.1, .ref z.2.2.2.2.2.2.2.2])), (z.2.2.2.2.2.2.2.2, .inr (12, [.ref q9, .int 1, .int (mo + 1)])), (q9, .inl (cO, 10, .inr (.inr (.inr (.inr (va_up (fun _ => none) 0 (some q60))))))), (q60, .inr (6, [.long ((o.1 + o.2.2.2) &&& 8589934591), .int o.2.1, .int (if o.2.2.1 = 0 then 1 else 0), .long (-1)]))]) [0, 1, 2, 3] (by decide) rfl
        have hP : va_P D classes ([(z.1, .inr (7, [.int z.2.1, .int (nI z.2.2.1), .int z.2.2.2.1, .int z.2.2.2.2.1, .ref z.2.2.2.2.2.1, .int o.2.2.1, .long z.2.2.2.2.2.2.2.1, .ref z.2.2.2.2.2.2.2.2]))] ++ (wlc cO e0 z.2.2.2.2.2.2.2.2 [(q60, (o.1 + o.2.2.2) &&& 8589934591, o.2.1, if o.2.2.1 = 0 then 1 else 0, -1)].length (mo + 1) (some (q9, va_up (fun _ => none) 0 (some q60))) ++ (onw (some (q60, (o.1 + o.2.2.2) &&& 8589934591, o.2.1, if o.2.2.1 = 0 then 1 else 0, -1)) ++ Q))) H := hP
        have hD : va_D A ([(z.1, .inr (7, [.int z.2.1, .int (nI z.2.2.1), .int z.2.2.2.1, .int z.2.2.2.2.1, .ref z.2.2.2.2.2.1, .int o.2.2.1, .long z.2.2.2.2.2.2.2.1, .ref z.2.2.2.2.2.2.2.2]))] ++ (wlc cO e0 z.2.2.2.2.2.2.2.2 [(q60, (o.1 + o.2.2.2) &&& 8589934591, o.2.1, if o.2.2.1 = 0 then 1 else 0, -1)].length (mo + 1) (some (q9, va_up (fun _ => none) 0 (some q60))) ++ (onw (some (q60, (o.1 + o.2.2.2) &&& 8589934591, o.2.1, if o.2.2.1 = 0 then 1 else 0, -1)) ++ Q))) := hD
        have hP9 := hP.part (cx := [(z.1, .inr (7, [.int z.2.1, .int (nI z.2.2.1), .int z.2.2.2.1, .int z.2.2.2.2.1, .ref z.2.2.2.2.2.1, .int o.2.2.1, .long z.2.2.2.2.2.2.2.1, .ref z.2.2.2.2.2.2.2.2]))]) [0] rfl
        have hD9 := hD.part (cx := [(z.1, .inr (7, [.int z.2.1, .int (nI z.2.2.1), .int z.2.2.2.1, .int z.2.2.2.2.1, .ref z.2.2.2.2.2.1, .int o.2.2.1, .long z.2.2.2.2.2.2.2.1, .ref z.2.2.2.2.2.2.2.2]))]) [0] (by decide) rfl
        have hK9 := hK.sub (tys' := [(cO, .object "java/lang/Object")]) [0] rfl
        refine W.widen (k := 2) (n := 14) (by omega) (by omega) ?_
        exact W.vret hx hb hr (fun t ht hW => ⟨⟨(([(q60, (o.1 + o.2.2.2) &&& 8589934591, o.2.1, if o.2.2.1 = 0 then 1 else 0, -1)], mo + 1, some (q9, va_up (fun _ => none) 0 (some q60))), some (q60, (o.1 + o.2.2.2) &&& 8589934591, o.2.1, if o.2.2.1 = 0 then 1 else 0, -1)), rfl, ⟨Or.inr ⟨fun z => z.elim h16 (fun z => z.elim h27 (fun z => absurd z (by decide))), q60, rfl, rfl⟩, el_one (o := (q60, (o.1 + o.2.2.2) &&& 8589934591, o.2.1, if o.2.2.1 = 0 then 1 else 0, -1)), by show 1 ≤ 6; omega⟩, ⟨by rw [ht]; exact hP9, va_K.moved hW.alike hK9, hD9⟩⟩, hS.F ht⟩) hS.2.2 d_Programme_obey_91
  | some wq =>
    have hel : elO Q wq.2 Wl := hwk
    have hP : va_P D classes ([(z.1, .inr (7, [.int z.2.1, .int (nI z.2.2.1), .int z.2.2.2.1, .int z.2.2.2.2.1, .ref z.2.2.2.2.2.1, .int z.2.2.2.2.2.2.1, .long z.2.2.2.2.2.2.2.1, .ref z.2.2.2.2.2.2.2.2])), (z.2.2.2.2.2.2.2.2, .inr (12, [.ref wq.1, .int (nI Wl.length), .int mo])), (wq.1, .inl (cO, 10, .inr (.inr (.inr (.inr wq.2)))))] ++ Q) s.heap := hP
    have hD : va_D A ([(z.1, .inr (7, [.int z.2.1, .int (nI z.2.2.1), .int z.2.2.2.1, .int z.2.2.2.2.1, .ref z.2.2.2.2.2.1, .int z.2.2.2.2.2.2.1, .long z.2.2.2.2.2.2.2.1, .ref z.2.2.2.2.2.2.2.2])), (z.2.2.2.2.2.2.2.2, .inr (12, [.ref wq.1, .int (nI Wl.length), .int mo])), (wq.1, .inl (cO, 10, .inr (.inr (.inr (.inr wq.2)))))] ++ Q) := hD
    refine lv_aload_n hx hb d_Programme_obey_0 rfl (lv_at hl 0 rfl) ?_
    refine lv_aload_n hx hb d_Programme_obey_1 rfl (lv_at hl 1 rfl) ?_
    obtain ⟨q2, hq2⟩ := List.getElem?_of_mem (List.mem_append_right [(z.1, .inr (7, [.int z.2.1, .int (nI z.2.2.1), .int z.2.2.2.1, .int z.2.2.2.2.1, .ref z.2.2.2.2.2.1, .int z.2.2.2.2.2.2.1, .long z.2.2.2.2.2.2.2.1, .ref z.2.2.2.2.2.2.2.2])), (z.2.2.2.2.2.2.2.2, .inr (12, [.ref wq.1, .int (nI Wl.length), .int mo])), (wq.1, .inl (cO, 10, .inr (.inr (.inr (.inr wq.2)))))] ho)
    refine va_getN (D := D) (ci := 6) (v := .int o.2.2.1) (C := R_Order) (T := F_Order) (N := 4) hx hb hts i_Order hown hK hP q2 hq2 rfl 2 (by decide) (hts _ wd_448) (fun _ h9 => h9) rfl d_Programme_obey_2 ?_
    refine va_put (D := D) (ci := 7) (v := .int o.2.2.1) (ty := .boolean) (C := R_Programme) (T := F_Programme) (N := 8) hx hb hts i_Programme t_Programme t_Programme_ok n_Programme hown hK hP hD hS 0 rfl rfl 5 (by decide) (hts _ wd_590) (fun _ h9 => h9) rfl (by decide +kernel) (by rcases hoa with q9 | q9 <;> rw [q9] <;> rfl) (by rcases hoa with q9 | q9 <;> rw [q9] <;> rfl) (Nat.le_of_ble_eq_true rfl) d_Programme_obey_5 (fun H locs hP hD hS => ?_)
    have hP : va_P D classes ([(z.1, .inr (7, [.int z.2.1, .int (nI z.2.2.1), .int z.2.2.2.1, .int z.2.2.2.2.1, .ref z.2.2.2.2.2.1, .int o.2.2.1, .long z.2.2.2.2.2.2.2.1, .ref z.2.2.2.2.2.2.2.2])), (z.2.2.2.2.2.2.2.2, .inr (12, [.ref wq.1, .int (nI Wl.length), .int mo])), (wq.1, .inl (cO, 10, .inr (.inr (.inr (.inr wq.2)))))] ++ Q) H := hP
    have hD : va_D A ([(z.1, .inr (7, [.int z.2.1, .int (nI z.2.2.1), .int z.2.2.2.1, .int z.2.2.2.2.1, .ref z.2.2.2.2.2.1, .int o.2.2.1, .long z.2.2.2.2.2.2.2.1, .ref z.2.2.2.2.2.2.2.2])), (z.2.2.2.2.2.2.2.2, .inr (12, [.ref wq.1, .int (nI Wl.length), .int mo])), (wq.1, .inl (cO, 10, .inr (.inr (.inr (.inr wq.2)))))] ++ Q) := hD
    refine lv_aload_n hx hb d_Programme_obey_8 rfl (lv_at hl 1 rfl) ?_
    obtain ⟨q9, hq9⟩ := List.getElem?_of_mem (List.mem_append_right [(z.1, .inr (7, [.int z.2.1, .int (nI z.2.2.1), .int z.2.2.2.1, .int z.2.2.2.2.1, .ref z.2.2.2.2.2.1, .int o.2.2.1, .long z.2.2.2.2.2.2.2.1, .ref z.2.2.2.2.2.2.2.2])), (z.2.2.2.2.2.2.2.2, .inr (12, [.ref wq.1, .int (nI Wl.length), .int mo])), (wq.1, .inl (cO, 10, .inr (.inr (.inr (.inr wq.2)))))] ho)
    refine va_getN (D := D) (ci := 6) (v := .long o.2.2.2) (C := R_Order) (T := F_Order) (N := 4) hx hb hts i_Order hown hK hP q9 hq9 rfl 3 (by decide) (hts _ wd_451) (fun _ h9 => h9) rfl d_Programme_obey_9 ?_
    refine lv_ldc2 hx hb hown (hts _ wd_435) d_Programme_obey_12 ?_
    refine W.lcmp hx hb d_Programme_obey_15 ?_
    refine lv_if_eq (tgt := 91) hx hb d_Programme_obey_16 rfl (fun h16 => ?_) (fun h16 => ?_)
    · have h16 := (lg_cmp_eq _ _).mp h16
      have hP : va_P D classes ([(z.1, .inr (7, [.int z.2.1, .int (nI z.2.2.1), .int z.2.2.2.1, .int z.2.2.2.2.1, .ref z.2.2.2.2.2.1, .int o.2.2.1, .long z.2.2.2.2.2.2.2.1, .ref z.2.2.2.2.2.2.2.2]))] ++ (wlc cO e0 z.2.2.2.2.2.2.2.2 Wl.length mo (some (wq.1, wq.2)) ++ Q)) H := hP
      have hD : va_D A ([(z.1, .inr (7, [.int z.2.1, .int (nI z.2.2.1), .int z.2.2.2.1, .int z.2.2.2.2.1, .ref z.2.2.2.2.2.1, .int o.2.2.1, .long z.2.2.2.2.2.2.2.1, .ref z.2.2.2.2.2.2.2.2]))] ++ (wlc cO e0 z.2.2.2.2.2.2.2.2 Wl.length mo (some (wq.1, wq.2)) ++ Q)) := hD
      have hP9 := hP.part (cx := [(z.1, .inr (7, [.int z.2.1, .int (nI z.2.2.1), .int z.2.2.2.1, .int z.2.2.2.2.1, .ref z.2.2.2.2.2.1, .int o.2.2.1, .long z.2.2.2.2.2.2.2.1, .ref z.2.2.2.2.2.2.2.2]))]) [0] rfl
      have hD9 := hD.part (cx := [(z.1, .inr (7, [.int z.2.1, .int (nI z.2.2.1), .int z.2.2.2.1, .int z.2.2.2.2.1, .ref z.2.2.2.2.2.1, .int o.2.2.1, .long z.2.2.2.2.2.2.2.1, .ref z.2.2.2.2.2.2.2.2]))]) [0] (by decide) rfl
      have hK9 := hK.sub (tys' := [(cO, .object "java/lang/Object")]) [0] rfl
      refine W.widen (k := 2) (n := 14) (by omega) (by omega) ?_
      exact W.vret hx hb hr (fun t ht hW => ⟨⟨((Wl, mo, some (wq.1, wq.2)), none), rfl, ⟨Or.inl ⟨by first | exact Or.inl h16 | exact Or.inr (Or.inl h27) | exact Or.inr (Or.inr h39), rfl, rfl⟩, hel, hW6⟩, ⟨by rw [ht]; exact hP9, va_K.moved hW.alike hK9, hD9⟩⟩, hS.F ht⟩) hS.2.2 d_Programme_obey_91
    · have h16 := mt (lg_cmp_eq _ _).mpr h16
      refine lv_aload_n hx hb d_Programme_obey_19 rfl (lv_at hl 1 rfl) ?_
      refine va_getN (D := D) (ci := 6) (v := .long o.1) (C := R_Order) (T := F_Order) (N := 4) hx hb hts i_Order hown hK hP q9 hq9 rfl 0 (by decide) (hts _ wd_442) (fun _ h9 => h9) rfl d_Programme_obey_20 ?_
      refine lv_ldc2 hx hb hown (hts _ wd_435) d_Programme_obey_23 ?_
      refine W.lcmp hx hb d_Programme_obey_26 ?_
      refine lv_if_eq (tgt := 91) hx hb d_Programme_obey_27 rfl (fun h27 => ?_) (fun h27 => ?_)
      · have h27 := (lg_cmp_eq _ _).mp h27
        have hP : va_P D classes ([(z.1, .inr (7, [.int z.2.1, .int (nI z.2.2.1), .int z.2.2.2.1, .int z.2.2.2.2.1, .ref z.2.2.2.2.2.1, .int o.2.2.1, .long z.2.2.2.2.2.2.2.1, .ref z.2.2.2.2.2.2.2.2]))] ++ (wlc cO e0 z.2.2.2.2.2.2.2.2 Wl.length mo (some (wq.1, wq.2)) ++ Q)) H := hP
        have hD : va_D A ([(z.1, .inr (7, [.int z.2.1, .int (nI z.2.2.1), .int z.2.2.2.1, .int z.2.2.2.2.1, .ref z.2.2.2.2.2.1, .int o.2.2.1, .long z.2.2.2.2.2.2.2.1, .ref z.2.2.2.2.2.2.2.2]))] ++ (wlc cO e0 z.2.2.2.2.2.2.2.2 Wl.length mo (some (wq.1, wq.2)) ++ Q)) := hD
        have hP9 := hP.part (cx := [(z.1, .inr (7, [.int z.2.1, .int (nI z.2.2.1), .int z.2.2.2.1, .int z.2.2.2.2.1, .ref z.2.2.2.2.2.1, .int o.2.2.1, .long z.2.2.2.2.2.2.2.1, .ref z.2.2.2.2.2.2.2.2]))]) [0] rfl
        have hD9 := hD.part (cx := [(z.1, .inr (7, [.int z.2.1, .int (nI z.2.2.1), .int z.2.2.2.1, .int z.2.2.2.2.1, .ref z.2.2.2.2.2.1, .int o.2.2.1, .long z.2.2.2.2.2.2.2.1, .ref z.2.2.2.2.2.2.2.2]))]) [0] (by decide) rfl
        have hK9 := hK.sub (tys' := [(cO, .object "java/lang/Object")]) [0] rfl
        refine W.widen (k := 2) (n := 14) (by omega) (by omega) ?_
        exact W.vret hx hb hr (fun t ht hW => ⟨⟨((Wl, mo, some (wq.1, wq.2)), none), rfl, ⟨Or.inl ⟨by first | exact Or.inl h16 | exact Or.inr (Or.inl h27) | exact Or.inr (Or.inr h39), rfl, rfl⟩, hel, hW6⟩, ⟨by rw [ht]; exact hP9, va_K.moved hW.alike hK9, hD9⟩⟩, hS.F ht⟩) hS.2.2 d_Programme_obey_91
      · have h27 := mt (lg_cmp_eq _ _).mpr h27
        refine lv_aload_n hx hb d_Programme_obey_30 rfl (lv_at hl 0 rfl) ?_
        refine va_get (D := D) (ci := 7) (v := .ref z.2.2.2.2.2.2.2.2) (C := R_Programme) (T := F_Programme) (N := 8) hx hb hts i_Programme hown hK hP 0 rfl rfl 7 (by decide) (hts _ wd_595) (fun _ h9 => h9) rfl d_Programme_obey_31 ?_
        have hPc := hP.sub (ws' := [(z.2.2.2.2.2.2.2.2, .inr (12, [.ref wq.1, .int (nI Wl.length), .int mo]))]) [1] rfl
        have hKc := hK.sub (tys' := []) [] rfl
        refine z_ci (va_runV (As := []) (rest := []) ⟨hx, hb, hml, hown, hts⟩ (c_AL_size l D z.2.2.2.2.2.2.2.2 wq.1 (nI Wl.length) mo ) (z_cV hN wd_305 wd_66 wd_329 hd_AL_size rfl rfl ⟨Nat.le_of_ble_eq_true rfl, Nat.le_of_ble_eq_true rfl⟩ wd_303 wd_304) (z_preV (va_recv (ci := 12) (q0 := 1) hK hP rfl rfl) hPc hKc hN) rfl rfl hl.1 rfl (lv_room (Nat.le_of_ble_eq_true rfl)) d_Programme_obey_34 ⟨Nat.le_of_ble_eq_true rfl, Nat.le_of_ble_eq_true rfl⟩) (fun r34 e34 => ?_)
        refine z_topi (w := (nI Wl.length)) e34 ?_
        refine lv_bipush (v := 6) hx hb d_Programme_obey_37 (by decide) ?_
        refine lv_icmp_ge (tgt := 91) hx hb d_Programme_obey_39 rfl (fun h39 => ?_) (fun h39 => ?_)
        · have h39 := (nI_leI (a := 6) (by omega) (by omega)).mp h39
          have hP : va_P D classes ([(z.1, .inr (7, [.int z.2.1, .int (nI z.2.2.1), .int z.2.2.2.1, .int z.2.2.2.2.1, .ref z.2.2.2.2.2.1, .int o.2.2.1, .long z.2.2.2.2.2.2.2.1, .ref z.2.2.2.2.2.2.2.2]))] ++ (wlc cO e0 z.2.2.2.2.2.2.2.2 Wl.length mo (some (wq.1, wq.2)) ++ Q)) H := hP
          have hD : va_D A ([(z.1, .inr (7, [.int z.2.1, .int (nI z.2.2.1), .int z.2.2.2.1, .int z.2.2.2.2.1, .ref z.2.2.2.2.2.1, .int o.2.2.1, .long z.2.2.2.2.2.2.2.1, .ref z.2.2.2.2.2.2.2.2]))] ++ (wlc cO e0 z.2.2.2.2.2.2.2.2 Wl.length mo (some (wq.1, wq.2)) ++ Q)) := hD
          have hP9 := hP.part (cx := [(z.1, .inr (7, [.int z.2.1, .int (nI z.2.2.1), .int z.2.2.2.1, .int z.2.2.2.2.1, .ref z.2.2.2.2.2.1, .int o.2.2.1, .long z.2.2.2.2.2.2.2.1, .ref z.2.2.2.2.2.2.2.2]))]) [0] rfl
          have hD9 := hD.part (cx := [(z.1, .inr (7, [.int z.2.1, .int (nI z.2.2.1), .int z.2.2.2.1, .int z.2.2.2.2.1, .ref z.2.2.2.2.2.1, .int o.2.2.1, .long z.2.2.2.2.2.2.2.1, .ref z.2.2.2.2.2.2.2.2]))]) [0] (by decide) rfl
          have hK9 := hK.sub (tys' := [(cO, .object "java/lang/Object")]) [0] rfl
          refine W.widen (k := 2) (n := 14) (by omega) (by omega) ?_
          exact W.vret hx hb hr (fun t ht hW => ⟨⟨((Wl, mo, some (wq.1, wq.2)), none), rfl, ⟨Or.inl ⟨by first | exact Or.inl h16 | exact Or.inr (Or.inl h27) | exact Or.inr (Or.inr h39), rfl, rfl⟩, hel, hW6⟩, ⟨by rw [ht]; exact hP9, va_K.moved hW.alike hK9, hD9⟩⟩, hS.F ht⟩) hS.2.2 d_Programme_obey_91
        · have h39 := mt (nI_leI (a := 6) (by omega) (by omega)).mpr h39
          refine lv_aload_n hx hb d_Programme_obey_42 rfl (lv_at hl 1 rfl) ?_
          refine va_getN (D := D) (ci := 6) (v := .long o.1) (C := R_Order) (T := F_Order) (N := 4) hx hb hts i_Order hown hK hP q9 hq9 rfl 0 (by decide) (hts _ wd_442) (fun _ h9 => h9) rfl d_Programme_obey_43 ?_
          refine lv_aload_n hx hb d_Programme_obey_46 rfl (lv_at hl 1 rfl) ?_
          refine va_getN (D := D) (ci := 6) (v := .long o.2.2.2) (C := R_Order) (T := F_Order) (N := 4) hx hb hts i_Order hown hK hP q9 hq9 rfl 3 (by decide) (hts _ wd_451) (fun _ h9 => h9) rfl d_Programme_obey_47 ?_
          refine lv_ladd hx hb d_Programme_obey_50 ?_
          refine lv_ldc2 hx hb hown (hts _ wd_418) d_Programme_obey_51 ?_
          refine lv_land hx hb d_Programme_obey_54 ?_
          refine lv_lstore_n (lv' := [(2, .long ((o.1 + o.2.2.2) &&& 8589934591)), (0, .ref z.1), (1, .ref oa)]) hx hb d_Programme_obey_55 rfl hl (by decide) rfl (fun ls hl => ?_)
          refine lv_aload_n hx hb d_Programme_obey_56 rfl (lv_at hl 1 rfl) ?_
          refine va_get (D := D) (ci := 7) (v := .ref z.2.2.2.2.2.2.2.2) (C := R_Programme) (T := F_Programme) (N := 8) hx hb hts i_Programme hown hK hP 0 rfl rfl 7 (by decide) (hts _ wd_595) (fun _ h9 => h9) rfl d_Programme_obey_57 ?_
          refine va_new (ci := 6) (fs := [.long 0, .int 0, .int 0, .long 0]) (C := R_Order) (T := F_Order) (N := 4) hx hb hts i_Order t_Order t_Order_ok hown (hts _ wd_417) (hts _ wd_436) (hts _ wd_78) hK hP hD hS hA rfl (fs_Order) (by show 0 + 1 ≤ 2; omega) (by show 0 + 4 ≤ 14; omega) d_Programme_obey_60 (fun q60 H hP hD hS => ?_)
          have hP := hP.swap
          have hD := hD.swap
          have hP : va_P D classes ([(z.1, .inr (7, [.int z.2.1, .int (nI z.2.2.1), .int z.2.2.2.1, .int z.2.2.2.2.1, .ref z.2.2.2.2.2.1, .int o.2.2.1, .long z.2.2.2.2.2.2.2.1, .ref z.2.2.2.2.2.2.2.2])), (z.2.2.2.2.2.2.2.2, .inr (12, [.ref wq.1, .int (nI Wl.length), .int mo])), (wq.1, .inl (cO, 10, .inr (.inr (.inr (.inr wq.2))))), (q60, .inr (6, [.long 0, .int 0, .int 0, .long 0]))] ++ Q) H := hP
          have hD : va_D A ([(z.1, .inr (7, [.int z.2.1, .int (nI z.2.2.1), .int z.2.2.2.1, .int z.2.2.2.2.1, .ref z.2.2.2.2.2.1, .int o.2.2.1, .long z.2.2.2.2.2.2.2.1, .ref z.2.2.2.2.2.2.2.2])), (z.2.2.2.2.2.2.2.2, .inr (12, [.ref wq.1, .int (nI Wl.length), .int mo])), (wq.1, .inl (cO, 10, .inr (.inr (.inr (.inr wq.2))))), (q60, .inr (6, [.long 0, .int 0, .int 0, .long 0]))] ++ Q) := hD
          refine lv_dup hx hb d_Programme_obey_63 rfl ?_
          refine lv_lload_n hx hb d_Programme_obey_64 rfl (lv_at hl 0 rfl) ?_
          refine lv_aload_n hx hb d_Programme_obey_65 rfl (lv_at hl 2 rfl) ?_
          obtain ⟨q66, hq66⟩ := List.getElem?_of_mem (List.mem_append_right [(z.1, .inr (7, [.int z.2.1, .int (nI z.2.2.1), .int z.2.2.2.1, .int z.2.2.2.2.1, .ref z.2.2.2.2.2.1, .int o.2.2.1, .long z.2.2.2.2.2.2.2.1, .ref z.2.2.2.2.2.2.2.2])), (z.2.2.2.2.2.2.2.2, .inr (12, [.ref wq.1, .int (nI Wl.length), .int mo])), (wq.1, .inl (cO, 10, .inr (.inr (.inr (.inr wq.2))))), (q60, .inr (6, [.long 0, .int 0, .int 0, .long 0]))] ho)
          refine va_getN (D := D) (ci := 6) (v := .int o.2.1) (C := R_Order) (T := F_Order) (N := 4) hx hb hts i_Order hown hK hP q66 hq66 rfl 1 (by decide) (hts _ wd_445) (fun _ h9 => h9) rfl d_Programme_obey_66 ?_
          refine lv_aload_n hx hb d_Programme_obey_69 rfl (lv_at hl 2 rfl) ?_
          refine va_getN (D := D) (ci := 6) (v := .int o.2.2.1) (C := R_Order) (T := F_Order) (N := 4) hx hb hts i_Order hown hK hP q66 hq66 rfl 2 (by decide) (hts _ wd_448) (fun _ h9 => h9) rfl d_Programme_obey_70 ?_
          suffices key73 : W p l e ({ frames := 5, cells := 2, slots := 14, locals := 101 }) s m ([.ref z.1, .ref oa]).toArray below meth cd H locs (0 + 1) (0 + 4) (MQ below (va_Qv (fun (u : OB9) => obP Wl o u.1.1 u.2 ∧ wok (onw u.2 ++ Q) u.1.2.2 u.1.1 ∧ u.1.1.length ≤ 6) (fun (u : OB9) t => zW D (A) ([(z.1, .inr (7, [.int z.2.1, .int (nI z.2.2.1), .int z.2.2.2.1, .int z.2.2.2.2.1, .ref z.2.2.2.2.2.1, .int o.2.2.1, .long z.2.2.2.2.2.2.2.1, .ref z.2.2.2.2.2.2.2.2]))] ++ (wlc cO e0 z.2.2.2.2.2.2.2.2 u.1.1.length u.1.2.1 u.1.2.2 ++ (onw u.2 ++ Q))) [(cO, .object "java/lang/Object")] t) (A)) ([.ref z.1, .ref oa]).toArray s 2 14 (A)) (F0 m 81 ls [.int (if o.2.2.1 = 0 then 1 else 0), .int o.2.1, .long ((o.1 + o.2.2.2) &&& 8589934591), .ref q60, .ref q60, .ref z.2.2.2.2.2.2.2.2]) by
            refine lv_if_ne (tgt := 80) hx hb d_Programme_obey_73 rfl (fun h73 => ?_) (fun h73 => ?_)
            · refine lv_iconst (v := 0) hx hb d_Programme_obey_80 (by decide) ?_
              refine z_topi (w := (if o.2.2.1 = 0 then 1 else 0)) ((if_neg h73).symm) ?_
              exact key73
            · refine lv_iconst (v := 1) hx hb d_Programme_obey_76 (by decide) ?_
              refine lv_goto (tgt := 81) hx hb d_Programme_obey_77 rfl ?_
              refine z_topi (w := (if o.2.2.1 = 0 then 1 else 0)) ((if_pos (by first | exact h73 | exact Classical.not_not.mp h73)).symm) ?_
              exact key73
          refine lv_ldc2 hx hb hown (hts _ wd_435) d_Programme_obey_81 ?_
          have hPc := hP.sub (ws' := [(q60, .inr (6, [.long 0, .int 0, .int 0, .long 0]))]) [3] rfl
          have hKc := hK.sub (tys' := []) [] rfl
          have hDc := hD.sub (ws' := [(q60, .inr (6, [.long 0, .int 0, .int 0, .long 0]))]) [3] (by decide) rfl
          have hFc := va_free (wc := [(q60, .inr (6, [.long 0, .int 0, .int 0, .long 0]))]) hD hS hA [3] rfl
          refine va_callv (va_runI (As := [.long ((o.1 + o.2.2.2) &&& 8589934591), .int o.2.1, .int (if o.2.2.1 = 0 then 1 else 0), .long (-1)]) (rest := [.ref q60, .ref z.2.2.2.2.2.2.2.2]) ⟨hx, hb, hml, hown, hts⟩ (c_Order_init l D H.size q60 ((o.1 + o.2.2.2) &&& 8589934591) (-1) o.2.1 (if o.2.2.1 = 0 then 1 else 0) (by by_cases c9 : o.2.2.1 = 0; exact Or.inr (if_pos c9); exact Or.inl (if_neg c9))) (z_cI hN wd_439 wd_78 wd_437 hd_Order_init rfl rfl ⟨Nat.le_of_ble_eq_true rfl, Nat.le_of_ble_eq_true rfl⟩ wd_438 rfl) (z_preSm hPc hKc hN hDc) rfl rfl hl.1 rfl (lv_room (Nat.le_of_ble_eq_true rfl)) d_Programme_obey_84 ⟨Nat.le_of_ble_eq_true rfl, Nat.le_of_ble_eq_true rfl⟩) hS (fun q _ h => hFc q h) hFc (fun u84 t H locs ht hvm e84 hB hz1 hk1 hS => ?_)
          obtain ⟨hP1, hK1, hD1⟩ := hB
          rw [ht] at hP1
          obtain ⟨hP, hD⟩ := va_joinQ (cx := [(q60, .inr (6, [.long 0, .int 0, .int 0, .long 0]))]) (wr := [(z.1, .inr (7, [.int z.2.1, .int (nI z.2.2.1), .int z.2.2.2.1, .int z.2.2.2.2.1, .ref z.2.2.2.2.2.1, .int o.2.2.1, .long z.2.2.2.2.2.2.2.1, .ref z.2.2.2.2.2.2.2.2])), (z.2.2.2.2.2.2.2.2, .inr (12, [.ref wq.1, .int (nI Wl.length), .int mo])), (wq.1, .inl (cO, 10, .inr (.inr (.inr (.inr wq.2)))))]) (w1 := [(q60, .inr (6, [.long ((o.1 + o.2.2.2) &&& 8589934591), .int o.2.1, .int (if o.2.2.1 = 0 then 1 else 0), .long (-1)]))]) hP hD [3] [0, 1, 2] rfl rfl (by decide) (by decide) hk1 hFc hP1 hD1
          clear hk1 hP1 hD1 hFc hPc hDc hz1
          have hP : va_P D classes ([(z.1, .inr (7, [.int z.2.1, .int (nI z.2.2.1), .int z.2.2.2.1, .int z.2.2.2.2.1, .ref z.2.2.2.2.2.1, .int o.2.2.1, .long z.2.2.2.2.2.2.2.1, .ref z.2.2.2.2.2.2.2.2])), (z.2.2.2.2.2.2.2.2, .inr (12, [.ref wq.1, .int (nI Wl.length), .int mo])), (wq.1, .inl (cO, 10, .inr (.inr (.inr (.inr wq.2))))), (q60, .inr (6, [.long ((o.1 + o.2.2.2) &&& 8589934591), .int o.2.1, .int (if o.2.2.1 = 0 then 1 else 0), .long (-1)]))] ++ Q) H := hP
          have hD : va_D A ([(z.1, .inr (7, [.int z.2.1, .int (nI z.2.2.1), .int z.2.2.2.1, .int z.2.2.2.2.1, .ref z.2.2.2.2.2.1, .int o.2.2.1, .long z.2.2.2.2.2.2.2.1, .ref z.2.2.2.2.2.2.2.2])), (z.2.2.2.2.2.2.2.2, .inr (12, [.ref wq.1, .int (nI Wl.length), .int mo])), (wq.1, .inl (cO, 10, .inr (.inr (.inr (.inr wq.2))))), (q60, .inr (6, [.long ((o.1 + o.2.2.2) &&& 8589934591), .int o.2.1, .int (if o.2.2.1 = 0 then 1 else 0), .long (-1)]))] ++ Q) := hD
          have hPc := hP.sub (ws' := [(z.2.2.2.2.2.2.2.2, .inr (12, [.ref wq.1, .int (nI Wl.length), .int mo])), (wq.1, .inl (cO, 10, .inr (.inr (.inr (.inr wq.2))))), (q60, .inr (6, [.long ((o.1 + o.2.2.2) &&& 8589934591), .int o.2.1, .int (if o.2.2.1 = 0 then 1 else 0), .long (-1)]))]) [1, 2, 3] rfl
          have hKc := hK.sub (tys' := [(cO, .object "java/lang/Object")]) [0] rfl
          have hDc := hD.sub (ws' := [(z.2.2.2.2.2.2.2.2, .inr (12, [.ref wq.1, .int (nI Wl.length), .int mo])), (wq.1, .inl (cO, 10, .inr (.inr (.inr (.inr wq.2))))), (q60, .inr (6, [.long ((o.1 + o.2.2.2) &&& 8589934591), .int o.2.1, .int (if o.2.2.1 = 0 then 1 else 0), .long (-1)]))]) [1, 2, 3] (by decide) rfl
          have hFc := va_free (wc := [(z.2.2.2.2.2.2.2.2, .inr (12, [.ref wq.1, .int (nI Wl.length), .int mo])), (wq.1, .inl (cO, 10, .inr (.inr (.inr (.inr wq.2))))), (q60, .inr (6, [.long ((o.1 + o.2.2.2) &&& 8589934591), .int o.2.1, .int (if o.2.2.1 = 0 then 1 else 0), .long (-1)]))]) hD hS hA [1, 2, 3] rfl
          refine va_calli (va_runV (As := [.ref q60]) (rest := []) ⟨hx, hb, hml, hown, hts⟩ (c_AL_add0 l D H.size cO z.2.2.2.2.2.2.2.2 wq.1 Wl.length mo wq.2 q60 6 [.long ((o.1 + o.2.2.2) &&& 8589934591), .int o.2.1, .int (if o.2.2.1 = 0 then 1 else 0), .long (-1)] (R_Order, F_Order, 4) (by omega) rfl wd_1500) (z_cV hN wd_465 wd_66 wd_462 hd_AL_add0 rfl rfl ⟨Nat.le_of_ble_eq_true rfl, Nat.le_of_ble_eq_true rfl⟩ wd_463 wd_464) (z_preVm (va_recv (ci := 12) (q0 := 1) hK hP rfl rfl) hPc hKc hN hDc) rfl rfl hl.1 rfl (lv_room (Nat.le_of_ble_eq_true rfl)) d_Programme_obey_87 ⟨Nat.le_of_ble_eq_true rfl, Nat.le_of_ble_eq_true rfl⟩) hS (fun q _ h => hFc q h) hFc (fun r87 u87 t H locs ht hvm e87 hB hz1 hk1 hS => ?_)
          obtain ⟨hP1, hK1, hD1⟩ := hB
          rw [ht] at hP1
          obtain ⟨hP, hD⟩ := va_joinQ (cx := [(z.2.2.2.2.2.2.2.2, .inr (12, [.ref wq.1, .int (nI Wl.length), .int mo])), (wq.1, .inl (cO, 10, .inr (.inr (.inr (.inr wq.2))))), (q60, .inr (6, [.long ((o.1 + o.2.2.2) &&& 8589934591), .int o.2.1, .int (if o.2.2.1 = 0 then 1 else 0), .long (-1)]))]) (wr := [(z.1, .inr (7, [.int z.2.1, .int (nI z.2.2.1), .int z.2.2.2.1, .int z.2.2.2.2.1, .ref z.2.2.2.2.2.1, .int o.2.2.1, .long z.2.2.2.2.2.2.2.1, .ref z.2.2.2.2.2.2.2.2]))]) (w1 := [(z.2.2.2.2.2.2.2.2, .inr (12, [.ref wq.1, .int (nI (Wl.length + 1)), .int (mo + 1)])), (wq.1, .inl (cO, 10, .inr (.inr (.inr (.inr (va_up wq.2 Wl.length (some q60))))))), (q60, .inr (6, [.long ((o.1 + o.2.2.2) &&& 8589934591), .int o.2.1, .int (if o.2.2.1 = 0 then 1 else 0), .long (-1)]))]) hP hD [1, 2, 3] [0] rfl rfl (by decide) (by decide) hk1 hFc hP1 hD1
          clear hk1 hP1 hD1 hFc hPc hDc hz1
          have hP : va_P D classes ([(z.1, .inr (7, [.int z.2.1, .int (nI z.2.2.1), .int z.2.2.2.1, .int z.2.2.2.2.1, .ref z.2.2.2.2.2.1, .int o.2.2.1, .long z.2.2.2.2.2.2.2.1, .ref z.2.2.2.2.2.2.2.2])), (z.2.2.2.2.2.2.2.2, .inr (12, [.ref wq.1, .int (nI (Wl.length + 1)), .int (mo + 1)])), (wq.1, .inl (cO, 10, .inr (.inr (.inr (.inr (va_up wq.2 Wl.length (some q60))))))), (q60, .inr (6, [.long ((o.1 + o.2.2.2) &&& 8589934591), .int o.2.1, .int (if o.2.2.1 = 0 then 1 else 0), .long (-1)]))] ++ Q) H := hP
          have hD : va_D A ([(z.1, .inr (7, [.int z.2.1, .int (nI z.2.2.1), .int z.2.2.2.1, .int z.2.2.2.2.1, .ref z.2.2.2.2.2.1, .int o.2.2.1, .long z.2.2.2.2.2.2.2.1, .ref z.2.2.2.2.2.2.2.2])), (z.2.2.2.2.2.2.2.2, .inr (12, [.ref wq.1, .int (nI (Wl.length + 1)), .int (mo + 1)])), (wq.1, .inl (cO, 10, .inr (.inr (.inr (.inr (va_up wq.2 Wl.length (some q60))))))), (q60, .inr (6, [.long ((o.1 + o.2.2.2) &&& 8589934591), .int o.2.1, .int (if o.2.2.1 = 0 then 1 else 0), .long (-1)]))] ++ Q) := hD
          refine lv_pop hx hb d_Programme_obey_90 rfl ?_
          have hn9 : Wl.length + 1 = (Wl ++ [(q60, (o.1 + o.2.2.2) &&& 8589934591, o.2.1, if o.2.2.1 = 0 then 1 else 0, -1)]).length := by rw [List.length_append, List.length_singleton]
          rw [hn9] at hP hD
          have hP := hP.part (cx := [(z.1, .inr (7, [.int z.2.1, .int (nI z.2.2.1), .int z.2.2.2.1, .int z.2.2.2.2.1, .ref z.2.2.2.2.2.1, .int o.2.2.1, .long z.2.2.2.2.2.2.2.1, .ref z.2.2.2.2.2.2.2.2])), (z.2.2.2.2.2.2.2.2, .inr (12, [.ref wq.1, .int (nI (Wl ++ [(q60, (o.1 + o.2.2.2) &&& 8589934591, o.2.1, if o.2.2.1 = 0 then 1 else 0, -1)]).length), .int (mo + 1)])), (wq.1, .inl (cO, 10, .inr (.inr (.inr (.inr (va_up wq.2 Wl.length (some q60))))))), (q60, .inr (6, [.long ((o.1 + o.2.2.2) &&& 8589934591), .int o.2.1, .int (if o.2.2.1 = 0 then 1 else 0), .long (-1)]))]) [0, 1, 2, 3] rfl
          have hD := hD.part (cx := [(z.1, .inr (7, [.int z.2.1, .int (nI z.2.2.1), .int z.2.2.2.1, .int z.2.2.2.2.1, .ref z.2.2.2.2.2.1, .int o.2.2.1, .long z.2.2.2.2.2.2.2.1, .ref z.2.2.2.2.2.2.2.2])), (z.2.2.2.2.2.2.2.2, .inr (12, [.ref wq.1, .int (nI (Wl ++ [(q60, (o.1 + o.2.2.2) &&& 8589934591, o.2.1, if o.2.2.1 = 0 then 1 else 0, -1)]).length), .int (mo + 1)])), (wq.1, .inl (cO, 10, .inr (.inr (.inr (.inr (va_up wq.2 Wl.length (some q60))))))), (q60, .inr (6, [.long ((o.1 + o.2.2.2) &&& 8589934591), .int o.2.1, .int (if o.2.2.1 = 0 then 1 else 0), .long (-1)]))]) [0, 1, 2, 3] (by decide) rfl
          have hP : va_P D classes ([(z.1, .inr (7, [.int z.2.1, .int (nI z.2.2.1), .int z.2.2.2.1, .int z.2.2.2.2.1, .ref z.2.2.2.2.2.1, .int o.2.2.1, .long z.2.2.2.2.2.2.2.1, .ref z.2.2.2.2.2.2.2.2]))] ++ (wlc cO e0 z.2.2.2.2.2.2.2.2 (Wl ++ [(q60, (o.1 + o.2.2.2) &&& 8589934591, o.2.1, if o.2.2.1 = 0 then 1 else 0, -1)]).length (mo + 1) (some (wq.1, va_up wq.2 Wl.length (some q60))) ++ (onw (some (q60, (o.1 + o.2.2.2) &&& 8589934591, o.2.1, if o.2.2.1 = 0 then 1 else 0, -1)) ++ Q))) H := hP
          have hD : va_D A ([(z.1, .inr (7, [.int z.2.1, .int (nI z.2.2.1), .int z.2.2.2.1, .int z.2.2.2.2.1, .ref z.2.2.2.2.2.1, .int o.2.2.1, .long z.2.2.2.2.2.2.2.1, .ref z.2.2.2.2.2.2.2.2]))] ++ (wlc cO e0 z.2.2.2.2.2.2.2.2 (Wl ++ [(q60, (o.1 + o.2.2.2) &&& 8589934591, o.2.1, if o.2.2.1 = 0 then 1 else 0, -1)]).length (mo + 1) (some (wq.1, va_up wq.2 Wl.length (some q60))) ++ (onw (some (q60, (o.1 + o.2.2.2) &&& 8589934591, o.2.1, if o.2.2.1 = 0 then 1 else 0, -1)) ++ Q))) := hD
          have hP9 := hP.part (cx := [(z.1, .inr (7, [.int z.2.1, .int (nI z.2.2.1), .int z.2.2.2.1, .int z.2.2.2.2.1, .ref z.2.2.2.2.2.1, .int o.2.2.1, .long z.2.2.2.2.2.2.2.1, .ref z.2.2.2.2.2.2.2.2]))]) [0] rfl
          have hD9 := hD.part (cx := [(z.1, .inr (7, [.int z.2.1, .int (nI z.2.2.1), .int z.2.2.2.1, .int z.2.2.2.2.1, .ref z.2.2.2.2.2.1, .int o.2.2.1, .long z.2.2.2.2.2.2.2.1, .ref z.2.2.2.2.2.2.2.2]))]) [0] (by decide) rfl
          have hK9 := hK.sub (tys' := [(cO, .object "java/lang/Object")]) [0] rfl
          refine W.widen (k := 2) (n := 14) (by omega) (by omega) ?_
          exact W.vret hx hb hr (fun t ht hW => ⟨⟨(((Wl ++ [(q60, (o.1 + o.2.2.2) &&& 8589934591, o.2.1, if o.2.2.1 = 0 then 1 else 0, -1)]), mo + 1, some (wq.1, va_up wq.2 Wl.length (some q60))), some (q60, (o.1 + o.2.2.2) &&& 8589934591, o.2.1, if o.2.2.1 = 0 then 1 else 0, -1)), rfl, ⟨Or.inr ⟨fun z => z.elim h16 (fun z => z.elim h27 h39), q60, rfl, rfl⟩, el_add (o := (q60, (o.1 + o.2.2.2) &&& 8589934591, o.2.1, if o.2.2.1 = 0 then 1 else 0, -1)) hel, by show (Wl ++ [(q60, (o.1 + o.2.2.2) &&& 8589934591, o.2.1, if o.2.2.1 = 0 then 1 else 0, -1)]).length ≤ 6; rw [List.length_append, List.length_singleton]; omega⟩, ⟨by rw [ht]; exact hP9, va_K.moved hW.alike hK9, hD9⟩⟩, hS.F ht⟩) hS.2.2 d_Programme_obey_91
