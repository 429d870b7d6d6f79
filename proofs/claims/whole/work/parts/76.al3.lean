theorem wd_11 : (Jvm.Cond.selects "java/util/ArrayList" ({ cls := "java/util/ArrayList", name := "fastRemove", desc := "([Ljava/lang/Object;I)V" } : Jvm.MethodName) ({ cls := "java/util/ArrayList", name := "fastRemove", desc := "([Ljava/lang/Object;I)V" } : Jvm.MethodName)) ∈ lw_ok := List.mem_filter.mpr ⟨List.mem_of_getElem? (i := 11) (by decide +kernel), rfl⟩
theorem wd_424 : (Jvm.Cond.methodLink "java/util/ArrayList" (144 : Nat) ({ cls := "java/util/ArrayList", name := "fastRemove", desc := "([Ljava/lang/Object;I)V" } : Jvm.MethodName)) ∈ lw_ok := List.mem_filter.mpr ⟨List.mem_of_getElem? (i := 424) (by decide +kernel), rfl⟩
theorem wd_426 : (Jvm.Cond.instanceMethod ({ cls := "java/util/ArrayList", name := "fastRemove", desc := "([Ljava/lang/Object;I)V" } : Jvm.MethodName)) ∈ lw_ok := List.mem_filter.mpr ⟨List.mem_of_getElem? (i := 426) (by decide +kernel), rfl⟩
set_option maxRecDepth 100000 in
theorem wd_427 : (Jvm.Cond.code ({ cls := "java/util/ArrayList", name := "fastRemove", desc := "([Ljava/lang/Object;I)V" } : Jvm.MethodName) prog_28_method_39_code (4 : Nat) (Option.none : Option Jvm.ClassFile.FieldType)) ∈ lw_ok := List.mem_filter.mpr ⟨List.mem_of_getElem? (i := 427) (by rfl), rfl⟩
theorem wd_428 : (Jvm.Cond.methodLink "java/util/ArrayList" (112 : Nat) ({ cls := "java/lang/System", name := "arraycopy", desc := "(Ljava/lang/Object;ILjava/lang/Object;II)V" } : Jvm.MethodName)) ∈ lw_ok := List.mem_filter.mpr ⟨List.mem_of_getElem? (i := 428) (by decide +kernel), rfl⟩
theorem wd_1500 : (Jvm.Cond.castable "StreamSplitter$Order" "java/lang/Object") ∈ lw_ok := List.mem_filter.mpr ⟨List.mem_of_getElem? (i := 1500) (by decide +kernel), rfl⟩
theorem hd_AL_fastRemove : y_AL_fastRemove.cls ≠ "java/lang/invoke/MethodHandle" ∧ y_AL_fastRemove.cls ≠ "java/lang/invoke/VarHandle" ∧ (parseMethodDescriptor y_AL_fastRemove.desc).map (fun d => d.parameters.length) = some 2 := by decide +kernel
theorem d_AL_fastRemove_0 : decode b_AL_fastRemove 0 = .ok (.aload_n 0, 1) := by decide +kernel
theorem d_AL_fastRemove_1 : decode b_AL_fastRemove 1 = .ok (.dup, 1) := by decide +kernel
theorem d_AL_fastRemove_2 : decode b_AL_fastRemove 2 = .ok (.getfield 63, 3) := by decide +kernel
theorem d_AL_fastRemove_5 : decode b_AL_fastRemove 5 = .ok (.iconst 1, 1) := by decide +kernel
theorem d_AL_fastRemove_6 : decode b_AL_fastRemove 6 = .ok (.iadd, 1) := by decide +kernel
theorem d_AL_fastRemove_7 : decode b_AL_fastRemove 7 = .ok (.putfield 63, 3) := by decide +kernel
theorem d_AL_fastRemove_10 : decode b_AL_fastRemove 10 = .ok (.aload_n 0, 1) := by decide +kernel
theorem d_AL_fastRemove_11 : decode b_AL_fastRemove 11 = .ok (.getfield 48, 3) := by decide +kernel
theorem d_AL_fastRemove_14 : decode b_AL_fastRemove 14 = .ok (.iconst 1, 1) := by decide +kernel
theorem d_AL_fastRemove_15 : decode b_AL_fastRemove 15 = .ok (.isub, 1) := by decide +kernel
theorem d_AL_fastRemove_16 : decode b_AL_fastRemove 16 = .ok (.dup, 1) := by decide +kernel
theorem d_AL_fastRemove_17 : decode b_AL_fastRemove 17 = .ok (.istore_n 3, 1) := by decide +kernel
theorem d_AL_fastRemove_18 : decode b_AL_fastRemove 18 = .ok (.iload_n 2, 1) := by decide +kernel
theorem d_AL_fastRemove_19 : decode b_AL_fastRemove 19 = .ok (.if_icmp .le 15, 3) := by decide +kernel
theorem d_AL_fastRemove_22 : decode b_AL_fastRemove 22 = .ok (.aload_n 1, 1) := by decide +kernel
theorem d_AL_fastRemove_23 : decode b_AL_fastRemove 23 = .ok (.iload_n 2, 1) := by decide +kernel
theorem d_AL_fastRemove_24 : decode b_AL_fastRemove 24 = .ok (.iconst 1, 1) := by decide +kernel
theorem d_AL_fastRemove_25 : decode b_AL_fastRemove 25 = .ok (.iadd, 1) := by decide +kernel
theorem d_AL_fastRemove_26 : decode b_AL_fastRemove 26 = .ok (.aload_n 1, 1) := by decide +kernel
theorem d_AL_fastRemove_27 : decode b_AL_fastRemove 27 = .ok (.iload_n 2, 1) := by decide +kernel
theorem d_AL_fastRemove_28 : decode b_AL_fastRemove 28 = .ok (.iload_n 3, 1) := by decide +kernel
theorem d_AL_fastRemove_29 : decode b_AL_fastRemove 29 = .ok (.iload_n 2, 1) := by decide +kernel
theorem d_AL_fastRemove_30 : decode b_AL_fastRemove 30 = .ok (.isub, 1) := by decide +kernel
theorem d_AL_fastRemove_31 : decode b_AL_fastRemove 31 = .ok (.invokestatic 112, 3) := by decide +kernel
theorem d_AL_fastRemove_34 : decode b_AL_fastRemove 34 = .ok (.aload_n 1, 1) := by decide +kernel
theorem d_AL_fastRemove_35 : decode b_AL_fastRemove 35 = .ok (.aload_n 0, 1) := by decide +kernel
theorem d_AL_fastRemove_36 : decode b_AL_fastRemove 36 = .ok (.iload_n 3, 1) := by decide +kernel
theorem d_AL_fastRemove_37 : decode b_AL_fastRemove 37 = .ok (.dup_x1, 1) := by decide +kernel
theorem d_AL_fastRemove_38 : decode b_AL_fastRemove 38 = .ok (.putfield 48, 3) := by decide +kernel
theorem d_AL_fastRemove_41 : decode b_AL_fastRemove 41 = .ok (.aconst_null, 1) := by decide +kernel
theorem d_AL_fastRemove_42 : decode b_AL_fastRemove 42 = .ok (.aastore, 1) := by decide +kernel
theorem d_AL_fastRemove_43 : decode b_AL_fastRemove 43 = .ok (.return_, 1) := by decide +kernel
theorem d_AL_remove_0 : decode b_AL_remove 0 = .ok (.iload_n 1, 1) := by decide +kernel
theorem d_AL_remove_1 : decode b_AL_remove 1 = .ok (.aload_n 0, 1) := by decide +kernel
theorem d_AL_remove_2 : decode b_AL_remove 2 = .ok (.getfield 48, 3) := by decide +kernel
theorem d_AL_remove_5 : decode b_AL_remove 5 = .ok (.invokestatic 118, 3) := by decide +kernel
theorem d_AL_remove_8 : decode b_AL_remove 8 = .ok (.pop, 1) := by decide +kernel
theorem d_AL_remove_9 : decode b_AL_remove 9 = .ok (.aload_n 0, 1) := by decide +kernel
theorem d_AL_remove_10 : decode b_AL_remove 10 = .ok (.getfield 9, 3) := by decide +kernel
theorem d_AL_remove_13 : decode b_AL_remove 13 = .ok (.astore_n 2, 1) := by decide +kernel
theorem d_AL_remove_14 : decode b_AL_remove 14 = .ok (.aload_n 2, 1) := by decide +kernel
theorem d_AL_remove_15 : decode b_AL_remove 15 = .ok (.iload_n 1, 1) := by decide +kernel
theorem d_AL_remove_16 : decode b_AL_remove 16 = .ok (.aaload, 1) := by decide +kernel
theorem d_AL_remove_17 : decode b_AL_remove 17 = .ok (.astore_n 3, 1) := by decide +kernel
theorem d_AL_remove_18 : decode b_AL_remove 18 = .ok (.aload_n 0, 1) := by decide +kernel
theorem d_AL_remove_19 : decode b_AL_remove 19 = .ok (.aload_n 2, 1) := by decide +kernel
theorem d_AL_remove_20 : decode b_AL_remove 20 = .ok (.iload_n 1, 1) := by decide +kernel
theorem d_AL_remove_21 : decode b_AL_remove 21 = .ok (.invokevirtual 144, 3) := by decide +kernel
theorem d_AL_remove_24 : decode b_AL_remove 24 = .ok (.aload_n 3, 1) := by decide +kernel
theorem d_AL_remove_25 : decode b_AL_remove 25 = .ok (.areturn, 1) := by decide +kernel
theorem d_AL_set_0 : decode b_AL_set 0 = .ok (.iload_n 1, 1) := by decide +kernel
theorem d_AL_set_1 : decode b_AL_set 1 = .ok (.aload_n 0, 1) := by decide +kernel
theorem d_AL_set_2 : decode b_AL_set 2 = .ok (.getfield 48, 3) := by decide +kernel
theorem d_AL_set_5 : decode b_AL_set 5 = .ok (.invokestatic 118, 3) := by decide +kernel
theorem d_AL_set_8 : decode b_AL_set 8 = .ok (.pop, 1) := by decide +kernel
theorem d_AL_set_9 : decode b_AL_set 9 = .ok (.aload_n 0, 1) := by decide +kernel
theorem d_AL_set_10 : decode b_AL_set 10 = .ok (.iload_n 1, 1) := by decide +kernel
theorem d_AL_set_11 : decode b_AL_set 11 = .ok (.invokevirtual 123, 3) := by decide +kernel
theorem d_AL_set_14 : decode b_AL_set 14 = .ok (.astore_n 3, 1) := by decide +kernel
theorem d_AL_set_15 : decode b_AL_set 15 = .ok (.aload_n 0, 1) := by decide +kernel
theorem d_AL_set_16 : decode b_AL_set 16 = .ok (.getfield 9, 3) := by decide +kernel
theorem d_AL_set_19 : decode b_AL_set 19 = .ok (.iload_n 1, 1) := by decide +kernel
theorem d_AL_set_20 : decode b_AL_set 20 = .ok (.aload_n 2, 1) := by decide +kernel
theorem d_AL_set_21 : decode b_AL_set 21 = .ok (.aastore, 1) := by decide +kernel
theorem d_AL_set_22 : decode b_AL_set 22 = .ok (.aload_n 3, 1) := by decide +kernel
theorem d_AL_set_23 : decode b_AL_set 23 = .ok (.areturn, 1) := by decide +kernel
set_option maxHeartbeats 4000000 in
set_option maxRecDepth 100000 in
theorem c_AL_fastRemove (l : Launch) (D : va_G) (sz : Nat) (cO : ClassId) (a b : Nat) (mo : Int32) (g : Nat → Option Nat) (Wl : List (Nat × Int64 × Int32 × Int32 × Int64)) (Q : va_W) (k : Nat) (hel : elO Q g Wl) (hW6 : Wl.length ≤ 6) (hk : k < Wl.length) : Met l y_AL_fastRemove [Cond.code y_AL_fastRemove b_AL_fastRemove 4 none] ({ frames := 1, cells := 0, slots := 0, locals := 18 }) (zM [.ref a, .ref b, .int (nI k)] D ([(a, .inr (12, [.ref b, .int (nI Wl.length), .int mo])), (b, .inl (cO, 10, .inr (.inr (.inr (.inr g)))))] ++ Q) [(cO, .object "java/lang/Object")] sz) (va_Qv (fun (_ : Unit) => True) (fun (_u : Unit) t => zW D (va_A ([(a, .inr (12, [.ref b, .int (nI Wl.length), .int mo])), (b, .inl (cO, 10, .inr (.inr (.inr (.inr g)))))] ++ Q) sz) ([(a, .inr (12, [.ref b, .int (nI (Wl.length - 1)), .int (mo + 1)])), (b, .inl (cO, 10, .inr (.inr (.inr (.inr (rmG g k Wl.length))))))] ++ Q) [(cO, .object "java/lang/Object")] t) (va_A ([(a, .inr (12, [.ref b, .int (nI Wl.length), .int mo])), (b, .inl (cO, 10, .inr (.inr (.inr (.inr g)))))] ++ Q) sz)) 0 0 (va_A ([(a, .inr (12, [.ref b, .int (nI Wl.length), .int mo])), (b, .inl (cO, 10, .inr (.inr (.inr (.inr g)))))] ++ Q) sz) := by
  refine Met.ofW (cc := b_AL_fastRemove) (maxL := 4) (ret := none) (by decide) rfl ?_
  intro p e s m args below meth cd s₁ Bd hml hv
  obtain ⟨rfl, hsz, hP, hK, hN, hD0⟩ := hv
  have hx := Bd.exec
  have hb := Bd.bytes
  have hr := Bd.returns
  have hts := hN.use (a := ([.ref a, .ref b, .int (nI k)]).toArray)
  have hown : s.vm.findClass R_AL = some m.cls := findClass_of_methodNamed Bd.named
  have hlocks := Bd.notSynchronized
  subst hsz
  have hD := hD0.self (sz := s.heap.size)
  clear hD0
  have hA : ∀ q : Nat, s.heap.size ≤ q → va_A ([(a, .inr (12, [.ref b, .int (nI Wl.length), .int mo])), (b, .inl (cO, 10, .inr (.inr (.inr (.inr g)))))] ++ Q) s.heap.size q := fun q h => Or.inr h
  have hS : va_S (va_A ([(a, .inr (12, [.ref b, .int (nI Wl.length), .int mo])), (b, .inl (cO, 10, .inr (.inr (.inr (.inr g)))))] ++ Q) s.heap.size) s.heap s.heap [] := va_S.rf
  generalize hAe : va_A ([(a, .inr (12, [.ref b, .int (nI Wl.length), .int mo])), (b, .inl (cO, 10, .inr (.inr (.inr (.inr g)))))] ++ Q) s.heap.size = A at hD hA hS ⊢
  have hP : va_P D classes ([(a, .inr (12, [.ref b, .int (nI Wl.length), .int mo])), (b, .inl (cO, 10, .inr (.inr (.inr (.inr g)))))] ++ Q) s.heap := hP
  have hl := lv_entry ([.ref a, .ref b, .int (nI k)]) (n := 4) (Nat.le_of_ble_eq_true rfl)
  rw [lg_entry_eq]
  generalize (lg_sl ([.ref a, .ref b, .int (nI k)]) ++ List.replicate (4 - (lg_sl ([.ref a, .ref b, .int (nI k)])).length) Slot.unset).toArray = ls at hl ⊢
  have hl : lv_has ls 4 [(0, .ref a), (1, .ref b), (2, .int (nI k))] := hl
  refine lv_aload_n hx hb d_AL_fastRemove_0 rfl (lv_at hl 0 rfl) ?_
  refine lv_dup hx hb d_AL_fastRemove_1 rfl ?_
  refine va_get (D := D) (ci := 12) (v := .int mo) (C := R_AL) (T := F_AL) (N := 3) hx hb hts i_AL hown hK hP 0 rfl rfl 2 (by decide) (hts _ wd_155) (fun x9 h9 => u_same (hts _ wd_156) x9 h9) rfl d_AL_fastRemove_2 ?_
  refine lv_iconst (v := 1) hx hb d_AL_fastRemove_5 (by decide) ?_
  refine lv_iadd hx hb d_AL_fastRemove_6 ?_
  refine va_put (D := D) (ci := 12) (v := .int (mo + 1)) (ty := .int) (C := R_AL) (T := F_AL) (N := 3) hx hb hts i_AL t_AL t_AL_ok n_AL hown hK hP hD hS 0 rfl rfl 2 (by decide) (hts _ wd_155) (fun x9 h9 => u_same (hts _ wd_156) x9 h9) rfl (by decide +kernel) rfl rfl (Nat.le_of_ble_eq_true rfl) d_AL_fastRemove_7 (fun H locs hP hD hS => ?_)
  have hP : va_P D classes ([(a, .inr (12, [.ref b, .int (nI Wl.length), .int (mo + 1)])), (b, .inl (cO, 10, .inr (.inr (.inr (.inr g)))))] ++ Q) H := hP
  have hD : va_D A ([(a, .inr (12, [.ref b, .int (nI Wl.length), .int (mo + 1)])), (b, .inl (cO, 10, .inr (.inr (.inr (.inr g)))))] ++ Q) := hD
  refine lv_aload_n hx hb d_AL_fastRemove_10 rfl (lv_at hl 0 rfl) ?_
  refine va_get (D := D) (ci := 12) (v := .int (nI Wl.length)) (C := R_AL) (T := F_AL) (N := 3) hx hb hts i_AL hown hK hP 0 rfl rfl 1 (by decide) (hts _ wd_153) (fun _ h9 => h9) rfl d_AL_fastRemove_11 ?_
  refine lv_iconst (v := 1) hx hb d_AL_fastRemove_14 (by decide) ?_
  refine lv_isub hx hb d_AL_fastRemove_15 ?_
  refine z_topi (w := nI (Wl.length - 1)) (pk_sub (b := 1) (by omega)) ?_
  refine lv_dup hx hb d_AL_fastRemove_16 rfl ?_
  refine lv_istore_n (lv' := [(3, .int (nI (Wl.length - 1))), (0, .ref a), (1, .ref b), (2, .int (nI k))]) hx hb d_AL_fastRemove_17 rfl hl (by decide) rfl (fun ls hl => ?_)
  refine lv_iload_n hx hb d_AL_fastRemove_18 rfl (lv_at hl 3 rfl) ?_
  refine lv_icmp_le (tgt := 34) hx hb d_AL_fastRemove_19 rfl (fun h19 => ?_) (fun h19 => ?_)
  · have h19 := (nI_leI (by omega) (by omega)).mp h19
    refine lv_aload_n hx hb d_AL_fastRemove_34 rfl (lv_at hl 2 rfl) ?_
    refine lv_aload_n hx hb d_AL_fastRemove_35 rfl (lv_at hl 1 rfl) ?_
    refine lv_iload_n hx hb d_AL_fastRemove_36 rfl (lv_at hl 0 rfl) ?_
    refine lv_dup_x1 hx hb d_AL_fastRemove_37 rfl rfl ?_
    refine va_put (D := D) (ci := 12) (v := .int (nI (Wl.length - 1))) (ty := .int) (C := R_AL) (T := F_AL) (N := 3) hx hb hts i_AL t_AL t_AL_ok n_AL hown hK hP hD hS 0 rfl rfl 1 (by decide) (hts _ wd_153) (fun _ h9 => h9) rfl (by decide +kernel) rfl rfl (Nat.le_of_ble_eq_true rfl) d_AL_fastRemove_38 (fun H locs hP hD hS => ?_)
    have hP : va_P D classes ([(a, .inr (12, [.ref b, .int (nI (Wl.length - 1)), .int (mo + 1)])), (b, .inl (cO, 10, .inr (.inr (.inr (.inr g)))))] ++ Q) H := hP
    have hD : va_D A ([(a, .inr (12, [.ref b, .int (nI (Wl.length - 1)), .int (mo + 1)])), (b, .inl (cO, 10, .inr (.inr (.inr (.inr g)))))] ++ Q) := hD
    refine lv_null hx hb d_AL_fastRemove_41 ?_
    refine z_astqN hx hb hK hP hD hS 1 0 rfl rfl (Wl.length - 1) rfl (by omega) (by omega) d_AL_fastRemove_42 (fun H locs hP hD hS => ?_)
    have hP : va_P D classes ([(a, .inr (12, [.ref b, .int (nI (Wl.length - 1)), .int (mo + 1)])), (b, .inl (cO, 10, .inr (.inr (.inr (.inr (va_up g (Wl.length - 1) none))))))] ++ Q) H := hP
    have hD : va_D A ([(a, .inr (12, [.ref b, .int (nI (Wl.length - 1)), .int (mo + 1)])), (b, .inl (cO, 10, .inr (.inr (.inr (.inr (va_up g (Wl.length - 1) none))))))] ++ Q) := hD
    have hg9 : va_up g (Wl.length - 1) none = rmG g k Wl.length := by unfold rmG; rw [if_neg (by omega)]
    rw [hg9] at hP hD
    have hP : va_P D classes ([(a, .inr (12, [.ref b, .int (nI (Wl.length - 1)), .int (mo + 1)])), (b, .inl (cO, 10, .inr (.inr (.inr (.inr (rmG g k Wl.length))))))] ++ Q) H := hP
    have hD : va_D A ([(a, .inr (12, [.ref b, .int (nI (Wl.length - 1)), .int (mo + 1)])), (b, .inl (cO, 10, .inr (.inr (.inr (.inr (rmG g k Wl.length))))))] ++ Q) := hD
    have hP9 := hP.part (cx := [(a, .inr (12, [.ref b, .int (nI (Wl.length - 1)), .int (mo + 1)])), (b, .inl (cO, 10, .inr (.inr (.inr (.inr (rmG g k Wl.length))))))]) [0, 1] rfl
    have hD9 := hD.part (cx := [(a, .inr (12, [.ref b, .int (nI (Wl.length - 1)), .int (mo + 1)])), (b, .inl (cO, 10, .inr (.inr (.inr (.inr (rmG g k Wl.length))))))]) [0, 1] (by decide) rfl
    have hK9 := hK.sub (tys' := [(cO, .object "java/lang/Object")]) [0] rfl
    exact W.vret hx hb hr (fun t ht hW => ⟨⟨(), rfl, trivial, ⟨by rw [ht]; exact hP9, va_K.moved hW.alike hK9, hD9⟩⟩, hS.F ht⟩) hS.2.2 d_AL_fastRemove_43
  · have h19 := mt (nI_leI (by omega) (by omega)).mpr h19
    refine lv_aload_n hx hb d_AL_fastRemove_22 rfl (lv_at hl 2 rfl) ?_
    refine lv_iload_n hx hb d_AL_fastRemove_23 rfl (lv_at hl 3 rfl) ?_
    refine lv_iconst (v := 1) hx hb d_AL_fastRemove_24 (by decide) ?_
    refine lv_iadd hx hb d_AL_fastRemove_25 ?_
    refine z_topi (w := nI (k + 1)) (nI_1 k) ?_
    refine lv_aload_n hx hb d_AL_fastRemove_26 rfl (lv_at hl 2 rfl) ?_
    refine lv_iload_n hx hb d_AL_fastRemove_27 rfl (lv_at hl 3 rfl) ?_
    refine lv_iload_n hx hb d_AL_fastRemove_28 rfl (lv_at hl 0 rfl) ?_
    refine lv_iload_n hx hb d_AL_fastRemove_29 rfl (lv_at hl 3 rfl) ?_
    refine lv_isub hx hb d_AL_fastRemove_30 ?_
    refine z_topi (w := nI (Wl.length - 1 - k)) (pk_sub (by omega)) ?_
    refine z_copyq (C := R_Order) hx hb (by rw [hml]; exact hl.1.symm) hown (hts _ wd_428) (hts _ wd_430) (hts _ wd_429) (hts _ wd_73) hK hP hD hS 1 0 rfl rfl (k + 1) k (Wl.length - 1 - k) rfl rfl rfl (by omega) (by omega) (by omega) (fun i hi y hy => by have z := hel (k + 1 + i) (by omega); rw [hy] at z; have z1 := Option.some.inj z.1; rw [z1]; exact el_cell hK hP z.2) (hN _ wd_1500) (Nat.le_of_ble_eq_true rfl) (Nat.le_of_ble_eq_true rfl) d_AL_fastRemove_31 (fun H locs hP hD hS => ?_)
    have hP : va_P D classes ([(a, .inr (12, [.ref b, .int (nI Wl.length), .int (mo + 1)])), (b, .inl (cO, 10, .inr (.inr (.inr (.inr (va_cpy g g (k + 1) k (Wl.length - 1 - k)))))))] ++ Q) H := hP
    have hD : va_D A ([(a, .inr (12, [.ref b, .int (nI Wl.length), .int (mo + 1)])), (b, .inl (cO, 10, .inr (.inr (.inr (.inr (va_cpy g g (k + 1) k (Wl.length - 1 - k)))))))] ++ Q) := hD
    refine lv_aload_n hx hb d_AL_fastRemove_34 rfl (lv_at hl 2 rfl) ?_
    refine lv_aload_n hx hb d_AL_fastRemove_35 rfl (lv_at hl 1 rfl) ?_
    refine lv_iload_n hx hb d_AL_fastRemove_36 rfl (lv_at hl 0 rfl) ?_
    refine lv_dup_x1 hx hb d_AL_fastRemove_37 rfl rfl ?_
    refine va_put (D := D) (ci := 12) (v := .int (nI (Wl.length - 1))) (ty := .int) (C := R_AL) (T := F_AL) (N := 3) hx hb hts i_AL t_AL t_AL_ok n_AL hown hK hP hD hS 0 rfl rfl 1 (by decide) (hts _ wd_153) (fun _ h9 => h9) rfl (by decide +kernel) rfl rfl (Nat.le_of_ble_eq_true rfl) d_AL_fastRemove_38 (fun H locs hP hD hS => ?_)
    have hP : va_P D classes ([(a, .inr (12, [.ref b, .int (nI (Wl.length - 1)), .int (mo + 1)])), (b, .inl (cO, 10, .inr (.inr (.inr (.inr (va_cpy g g (k + 1) k (Wl.length - 1 - k)))))))] ++ Q) H := hP
    have hD : va_D A ([(a, .inr (12, [.ref b, .int (nI (Wl.length - 1)), .int (mo + 1)])), (b, .inl (cO, 10, .inr (.inr (.inr (.inr (va_cpy g g (k + 1) k (Wl.length - 1 - k)))))))] ++ Q) := hD
    refine lv_null hx hb d_AL_fastRemove_41 ?_
    refine z_astqN hx hb hK hP hD hS 1 0 rfl rfl (Wl.length - 1) rfl (by omega) (by omega) d_AL_fastRemove_42 (fun H locs hP hD hS => ?_)
    have hP : va_P D classes ([(a, .inr (12, [.ref b, .int (nI (Wl.length - 1)), .int (mo + 1)])), (b, .inl (cO, 10, .inr (.inr (.inr (.inr (va_up (va_cpy g g (k + 1) k (Wl.length - 1 - k)) (Wl.length - 1) none))))))] ++ Q) H := hP
    have hD : va_D A ([(a, .inr (12, [.ref b, .int (nI (Wl.length - 1)), .int (mo + 1)])), (b, .inl (cO, 10, .inr (.inr (.inr (.inr (va_up (va_cpy g g (k + 1) k (Wl.length - 1 - k)) (Wl.length - 1) none))))))] ++ Q) := hD
    have hg9 : va_up (va_cpy g g (k + 1) k (Wl.length - 1 - k)) (Wl.length - 1) none = rmG g k Wl.length := by unfold rmG; rw [if_pos (by omega)]
    rw [hg9] at hP hD
    have hP : va_P D classes ([(a, .inr (12, [.ref b, .int (nI (Wl.length - 1)), .int (mo + 1)])), (b, .inl (cO, 10, .inr (.inr (.inr (.inr (rmG g k Wl.length))))))] ++ Q) H := hP
    have hD : va_D A ([(a, .inr (12, [.ref b, .int (nI (Wl.length - 1)), .int (mo + 1)])), (b, .inl (cO, 10, .inr (.inr (.inr (.inr (rmG g k Wl.length))))))] ++ Q) := hD
    have hP9 := hP.part (cx := [(a, .inr (12, [.ref b, .int (nI (Wl.length - 1)), .int (mo + 1)])), (b, .inl (cO, 10, .inr (.inr (.inr (.inr (rmG g k Wl.length))))))]) [0, 1] rfl
    have hD9 := hD.part (cx := [(a, .inr (12, [.ref b, .int (nI (Wl.length - 1)), .int (mo + 1)])), (b, .inl (cO, 10, .inr (.inr (.inr (.inr (rmG g k Wl.length))))))]) [0, 1] (by decide) rfl
    have hK9 := hK.sub (tys' := [(cO, .object "java/lang/Object")]) [0] rfl
    exact W.vret hx hb hr (fun t ht hW => ⟨⟨(), rfl, trivial, ⟨by rw [ht]; exact hP9, va_K.moved hW.alike hK9, hD9⟩⟩, hS.F ht⟩) hS.2.2 d_AL_fastRemove_43
set_option maxHeartbeats 4000000 in
set_option maxRecDepth 100000 in
theorem c_AL_remove (l : Launch) (D : va_G) (sz : Nat) (cO : ClassId) (a b : Nat) (mo : Int32) (g : Nat → Option Nat) (Wl : List (Nat × Int64 × Int32 × Int32 × Int64)) (Q : va_W) (k : Nat) (hel : elO Q g Wl) (hW6 : Wl.length ≤ 6) (hk : k < Wl.length) : Met l y_AL_remove [Cond.code y_AL_remove b_AL_remove 4 (some (.object "java/lang/Object"))] ({ frames := 2, cells := 0, slots := 0, locals := 43 }) (zM [.ref a, .int (nI k)] D ([(a, .inr (12, [.ref b, .int (nI Wl.length), .int mo])), (b, .inl (cO, 10, .inr (.inr (.inr (.inr g)))))] ++ Q) [(cO, .object "java/lang/Object")] sz) (va_Qq (fun r (_ : Unit) => r = some (Wl.getD k (0, oz0)).1) (fun (_u : Unit) t => zW D (va_A ([(a, .inr (12, [.ref b, .int (nI Wl.length), .int mo])), (b, .inl (cO, 10, .inr (.inr (.inr (.inr g)))))] ++ Q) sz) ([(a, .inr (12, [.ref b, .int (nI (Wl.length - 1)), .int (mo + 1)])), (b, .inl (cO, 10, .inr (.inr (.inr (.inr (rmG g k Wl.length))))))] ++ Q) [(cO, .object "java/lang/Object")] t) (va_A ([(a, .inr (12, [.ref b, .int (nI Wl.length), .int mo])), (b, .inl (cO, 10, .inr (.inr (.inr (.inr g)))))] ++ Q) sz)) 0 0 (va_A ([(a, .inr (12, [.ref b, .int (nI Wl.length), .int mo])), (b, .inl (cO, 10, .inr (.inr (.inr (.inr g)))))] ++ Q) sz) := by
  refine Met.ofW (cc := b_AL_remove) (maxL := 4) (ret := (some (.object "java/lang/Object"))) (by decide) rfl ?_
  intro p e s m args below meth cd s₁ Bd hml hv
  obtain ⟨rfl, hsz, hP, hK, hN, hD0⟩ := hv
  have hx := Bd.exec
  have hb := Bd.bytes
  have hr := Bd.returns
  have hts := hN.use (a := ([.ref a, .int (nI k)]).toArray)
  have hown : s.vm.findClass R_AL = some m.cls := findClass_of_methodNamed Bd.named
  have hlocks := Bd.notSynchronized
  subst hsz
  have hD := hD0.self (sz := s.heap.size)
  clear hD0
  have hA : ∀ q : Nat, s.heap.size ≤ q → va_A ([(a, .inr (12, [.ref b, .int (nI Wl.length), .int mo])), (b, .inl (cO, 10, .inr (.inr (.inr (.inr g)))))] ++ Q) s.heap.size q := fun q h => Or.inr h
  have hS : va_S (va_A ([(a, .inr (12, [.ref b, .int (nI Wl.length), .int mo])), (b, .inl (cO, 10, .inr (.inr (.inr (.inr g)))))] ++ Q) s.heap.size) s.heap s.heap [] := va_S.rf
  generalize hAe : va_A ([(a, .inr (12, [.ref b, .int (nI Wl.length), .int mo])), (b, .inl (cO, 10, .inr (.inr (.inr (.inr g)))))] ++ Q) s.heap.size = A at hD hA hS ⊢
  have hP : va_P D classes ([(a, .inr (12, [.ref b, .int (nI Wl.length), .int mo])), (b, .inl (cO, 10, .inr (.inr (.inr (.inr g)))))] ++ Q) s.heap := hP
  have hl := lv_entry ([.ref a, .int (nI k)]) (n := 4) (Nat.le_of_ble_eq_true rfl)
  rw [lg_entry_eq]
  generalize (lg_sl ([.ref a, .int (nI k)]) ++ List.replicate (4 - (lg_sl ([.ref a, .int (nI k)])).length) Slot.unset).toArray = ls at hl ⊢
  have hl : lv_has ls 4 [(0, .ref a), (1, .int (nI k))] := hl
  refine lv_iload_n hx hb d_AL_remove_0 rfl (lv_at hl 1 rfl) ?_
  refine lv_aload_n hx hb d_AL_remove_1 rfl (lv_at hl 0 rfl) ?_
  refine va_get (D := D) (ci := 12) (v := .int (nI Wl.length)) (C := R_AL) (T := F_AL) (N := 3) hx hb hts i_AL hown hK hP 0 rfl rfl 1 (by decide) (hts _ wd_153) (fun _ h9 => h9) rfl d_AL_remove_2 ?_
  have hPc := hP.sub (ws' := []) [] rfl
  have hKc := hK.sub (tys' := []) [] rfl
  refine z_ci (va_runS (As := [.int (nI k), .int (nI Wl.length)]) (rest := []) ⟨hx, hb, hml, hown, hts⟩ (c_Objs_checkIndex l D k Wl.length hk (by omega)) (z_cS hN wd_312 wd_75 wd_310 hd_Objs_checkIndex rfl rfl ⟨Nat.le_of_ble_eq_true rfl, Nat.le_of_ble_eq_true rfl⟩ wd_311) (z_preS hPc hKc hN) rfl rfl hl.1 rfl (lv_room (Nat.le_of_ble_eq_true rfl)) d_AL_remove_5 ⟨Nat.le_of_ble_eq_true rfl, Nat.le_of_ble_eq_true rfl⟩) (fun r5 e5 => ?_)
  subst e5
  refine lv_pop hx hb d_AL_remove_8 rfl ?_
  refine lv_aload_n hx hb d_AL_remove_9 rfl (lv_at hl 0 rfl) ?_
  refine va_get (D := D) (ci := 12) (v := .ref b) (C := R_AL) (T := F_AL) (N := 3) hx hb hts i_AL hown hK hP 0 rfl rfl 0 (by decide) (hts _ wd_152) (fun _ h9 => h9) rfl d_AL_remove_10 ?_
  refine lv_astore_n (lv' := [(2, .ref b), (0, .ref a), (1, .int (nI k))]) hx hb d_AL_remove_13 rfl hl (by decide) rfl (fun ls hl => ?_)
  refine lv_aload_n hx hb d_AL_remove_14 rfl (lv_at hl 0 rfl) ?_
  refine lv_iload_n hx hb d_AL_remove_15 rfl (lv_at hl 2 rfl) ?_
  refine z_aldq hx hb hK hP 1 0 rfl rfl k rfl (by omega) (by omega) d_AL_remove_16 ?_
  refine z_topq (w := some ((Wl.getD k (0, oz0)).1)) ((hel k hk).1) ?_
  refine lv_astore_n (lv' := [(3, .ref ((Wl.getD k (0, oz0)).1)), (2, .ref b), (0, .ref a), (1, .int (nI k))]) hx hb d_AL_remove_17 rfl hl (by decide) rfl (fun ls hl => ?_)
  refine lv_aload_n hx hb d_AL_remove_18 rfl (lv_at hl 2 rfl) ?_
  refine lv_aload_n hx hb d_AL_remove_19 rfl (lv_at hl 1 rfl) ?_
  refine lv_iload_n hx hb d_AL_remove_20 rfl (lv_at hl 3 rfl) ?_
  have hPc := hP.part (cx := [(a, .inr (12, [.ref b, .int (nI Wl.length), .int mo])), (b, .inl (cO, 10, .inr (.inr (.inr (.inr g)))))]) [0, 1] rfl
  have hKc := hK.sub (tys' := [(cO, .object "java/lang/Object")]) [0] rfl
  have hDc := hD.part (cx := [(a, .inr (12, [.ref b, .int (nI Wl.length), .int mo])), (b, .inl (cO, 10, .inr (.inr (.inr (.inr g)))))]) [0, 1] (by decide) rfl
  have hFc := va_freeP (cx := [(a, .inr (12, [.ref b, .int (nI Wl.length), .int mo])), (b, .inl (cO, 10, .inr (.inr (.inr (.inr g)))))]) hD hS hA [0, 1] rfl
  refine va_callv (va_runV (As := [.ref b, .int (nI k)]) (rest := []) ⟨hx, hb, hml, hown, hts⟩ (c_AL_fastRemove l D s.heap.size cO a b mo g Wl Q k hel hW6 hk) (z_cV hN wd_427 wd_66 wd_424 hd_AL_fastRemove rfl rfl ⟨Nat.le_of_ble_eq_true rfl, Nat.le_of_ble_eq_true rfl⟩ wd_426 wd_11) (z_preVm (va_recv (ci := 12) (q0 := 0) hK hP rfl rfl) hPc hKc hN hDc) rfl rfl hl.1 rfl (lv_room (Nat.le_of_ble_eq_true rfl)) d_AL_remove_21 ⟨Nat.le_of_ble_eq_true rfl, Nat.le_of_ble_eq_true rfl⟩) hS (fun q _ h => hFc q h) hFc (fun u21 t H locs ht hvm e21 hB hz1 hk1 hS => ?_)
  obtain ⟨hP1, hK1, hD1⟩ := hB
  rw [ht] at hP1
  obtain ⟨hP, hD⟩ := va_joinP (wr := []) (rx := [(a, .inr (12, [.ref b, .int (nI (Wl.length - 1)), .int (mo + 1)])), (b, .inl (cO, 10, .inr (.inr (.inr (.inr (rmG g k Wl.length))))))]) hP hD [0, 1] [] rfl rfl (by decide) (by decide) hk1 hFc hP1 hD1
  clear hk1 hP1 hD1 hFc hPc hDc hz1
  have hP : va_P D classes ([(a, .inr (12, [.ref b, .int (nI (Wl.length - 1)), .int (mo + 1)])), (b, .inl (cO, 10, .inr (.inr (.inr (.inr (rmG g k Wl.length))))))] ++ Q) H := hP
  have hD : va_D A ([(a, .inr (12, [.ref b, .int (nI (Wl.length - 1)), .int (mo + 1)])), (b, .inl (cO, 10, .inr (.inr (.inr (.inr (rmG g k Wl.length))))))] ++ Q) := hD
  refine lv_aload_n hx hb d_AL_remove_24 rfl (lv_at hl 0 rfl) ?_
  have hP9 := hP.part (cx := [(a, .inr (12, [.ref b, .int (nI (Wl.length - 1)), .int (mo + 1)])), (b, .inl (cO, 10, .inr (.inr (.inr (.inr (rmG g k Wl.length))))))]) [0, 1] rfl
  have hD9 := hD.part (cx := [(a, .inr (12, [.ref b, .int (nI (Wl.length - 1)), .int (mo + 1)])), (b, .inl (cO, 10, .inr (.inr (.inr (.inr (rmG g k Wl.length))))))]) [0, 1] (by decide) rfl
  have hK9 := hK.sub (tys' := [(cO, .object "java/lang/Object")]) [0] rfl
  exact W.aret (v := va_rf (some ((Wl.getD k (0, oz0)).1))) hx hb hr (Or.inl ⟨_, rfl⟩) (va_rf_or _) (fun t ht hW => ⟨⟨_, (), rfl, rfl, ⟨by rw [ht]; exact hP9, va_K.moved hW.alike hK9, hD9⟩⟩, hS.F ht⟩) hS.2.2 d_AL_remove_25
set_option maxHeartbeats 4000000 in
set_option maxRecDepth 100000 in
theorem c_AL_set (l : Launch) (D : va_G) (sz : Nat) (cO : ClassId) (a b : Nat) (mo : Int32) (g : Nat → Option Nat) (Wl : List (Nat × Int64 × Int32 × Int32 × Int64)) (Q : va_W) (oa : Nat) (o : Int64 × Int32 × Int32 × Int64) (k : Nat) (hel : elO Q g Wl) (hW6 : Wl.length ≤ 6) (hk : k < Wl.length) : Met l y_AL_set [Cond.code y_AL_set b_AL_set 4 (some (.object "java/lang/Object"))] ({ frames := 2, cells := 0, slots := 0, locals := 43 }) (zM [.ref a, .int (nI k), .ref oa] D ([(a, .inr (12, [.ref b, .int (nI Wl.length), .int mo])), (b, .inl (cO, 10, .inr (.inr (.inr (.inr g))))), (oa, .inr (6, [.long o.1, .int o.2.1, .int o.2.2.1, .long o.2.2.2]))] ++ Q) [(cO, .object "java/lang/Object")] sz) (va_Qq (fun r (_ : Unit) => r = some (Wl.getD k (0, oz0)).1) (fun (_u : Unit) t => zW D (va_A ([(a, .inr (12, [.ref b, .int (nI Wl.length), .int mo])), (b, .inl (cO, 10, .inr (.inr (.inr (.inr g))))), (oa, .inr (6, [.long o.1, .int o.2.1, .int o.2.2.1, .long o.2.2.2]))] ++ Q) sz) ([(a, .inr (12, [.ref b, .int (nI Wl.length), .int mo])), (b, .inl (cO, 10, .inr (.inr (.inr (.inr (va_up g k (some oa))))))), (oa, .inr (6, [.long o.1, .int o.2.1, .int o.2.2.1, .long o.2.2.2]))] ++ Q) [(cO, .object "java/lang/Object")] t) (va_A ([(a, .inr (12, [.ref b, .int (nI Wl.length), .int mo])), (b, .inl (cO, 10, .inr (.inr (.inr (.inr g))))), (oa, .inr (6, [.long o.1, .int o.2.1, .int o.2.2.1, .long o.2.2.2]))] ++ Q) sz)) 0 0 (va_A ([(a, .inr (12, [.ref b, .int (nI Wl.length), .int mo])), (b, .inl (cO, 10, .inr (.inr (.inr (.inr g))))), (oa, .inr (6, [.long o.1, .int o.2.1, .int o.2.2.1, .long o.2.2.2]))] ++ Q) sz) := by
  refine Met.ofW (cc := b_AL_set) (maxL := 4) (ret := (some (.object "java/lang/Object"))) (by decide) rfl ?_
  intro p e s m args below meth cd s₁ Bd hml hv
  obtain ⟨rfl, hsz, hP, hK, hN, hD0⟩ := hv
  have hx := Bd.exec
  have hb := Bd.bytes
  have hr := Bd.returns
  have hts := hN.use (a := ([.ref a, .int (nI k), .ref oa]).toArray)
  have hown : s.vm.findClass R_AL = some m.cls := findClass_of_methodNamed Bd.named
  have hlocks := Bd.notSynchronized
  subst hsz
  have hD := hD0.self (sz := s.heap.size)
  clear hD0
  have hA : ∀ q : Nat, s.heap.size ≤ q → va_A ([(a, .inr (12, [.ref b, .int (nI Wl.length), .int mo])), (b, .inl (cO, 10, .inr (.inr (.inr (.inr g))))), (oa, .inr (6, [.long o.1, .int o.2.1, .int o.2.2.1, .long o.2.2.2]))] ++ Q) s.heap.size q := fun q h => Or.inr h
  have hS : va_S (va_A ([(a, .inr (12, [.ref b, .int (nI Wl.length), .int mo])), (b, .inl (cO, 10, .inr (.inr (.inr (.inr g))))), (oa, .inr (6, [.long o.1, .int o.2.1, .int o.2.2.1, .long o.2.2.2]))] ++ Q) s.heap.size) s.heap s.heap [] := va_S.rf
  generalize hAe : va_A ([(a, .inr (12, [.ref b, .int (nI Wl.length), .int mo])), (b, .inl (cO, 10, .inr (.inr (.inr (.inr g))))), (oa, .inr (6, [.long o.1, .int o.2.1, .int o.2.2.1, .long o.2.2.2]))] ++ Q) s.heap.size = A at hD hA hS ⊢
  have hP : va_P D classes ([(a, .inr (12, [.ref b, .int (nI Wl.length), .int mo])), (b, .inl (cO, 10, .inr (.inr (.inr (.inr g))))), (oa, .inr (6, [.long o.1, .int o.2.1, .int o.2.2.1, .long o.2.2.2]))] ++ Q) s.heap := hP
  have hl := lv_entry ([.ref a, .int (nI k), .ref oa]) (n := 4) (Nat.le_of_ble_eq_true rfl)
  rw [lg_entry_eq]
  generalize (lg_sl ([.ref a, .int (nI k), .ref oa]) ++ List.replicate (4 - (lg_sl ([.ref a, .int (nI k), .ref oa])).length) Slot.unset).toArray = ls at hl ⊢
  have hl : lv_has ls 4 [(0, .ref a), (1, .int (nI k)), (2, .ref oa)] := hl
  refine lv_iload_n hx hb d_AL_set_0 rfl (lv_at hl 1 rfl) ?_
  refine lv_aload_n hx hb d_AL_set_1 rfl (lv_at hl 0 rfl) ?_
  refine va_get (D := D) (ci := 12) (v := .int (nI Wl.length)) (C := R_AL) (T := F_AL) (N := 3) hx hb hts i_AL hown hK hP 0 rfl rfl 1 (by decide) (hts _ wd_153) (fun _ h9 => h9) rfl d_AL_set_2 ?_
  have hPc := hP.sub (ws' := []) [] rfl
  have hKc := hK.sub (tys' := []) [] rfl
  refine z_ci (va_runS (As := [.int (nI k), .int (nI Wl.length)]) (rest := []) ⟨hx, hb, hml, hown, hts⟩ (c_Objs_checkIndex l D k Wl.length hk (by omega)) (z_cS hN wd_312 wd_75 wd_310 hd_Objs_checkIndex rfl rfl ⟨Nat.le_of_ble_eq_true rfl, Nat.le_of_ble_eq_true rfl⟩ wd_311) (z_preS hPc hKc hN) rfl rfl hl.1 rfl (lv_room (Nat.le_of_ble_eq_true rfl)) d_AL_set_5 ⟨Nat.le_of_ble_eq_true rfl, Nat.le_of_ble_eq_true rfl⟩) (fun r5 e5 => ?_)
  subst e5
  refine lv_pop hx hb d_AL_set_8 rfl ?_
  refine lv_aload_n hx hb d_AL_set_9 rfl (lv_at hl 0 rfl) ?_
  refine lv_iload_n hx hb d_AL_set_10 rfl (lv_at hl 1 rfl) ?_
  have hPc := hP.sub (ws' := [(a, .inr (12, [.ref b, .int (nI Wl.length), .int mo])), (b, .inl (cO, 10, .inr (.inr (.inr (.inr g)))))]) [0, 1] rfl
  have hKc := hK.sub (tys' := [(cO, .object "java/lang/Object")]) [0] rfl
  refine z_cq (va_runV (As := [.int (nI k)]) (rest := []) ⟨hx, hb, hml, hown, hts⟩ (c_AL_elementData l D cO a b Wl.length mo g k (by omega)) (z_cV hN wd_319 wd_66 wd_316 hd_AL_elementData rfl rfl ⟨Nat.le_of_ble_eq_true rfl, Nat.le_of_ble_eq_true rfl⟩ wd_317 wd_318) (z_preV (va_recv (ci := 12) (q0 := 0) hK hP rfl rfl) hPc hKc hN) rfl rfl hl.1 rfl (lv_room (Nat.le_of_ble_eq_true rfl)) d_AL_set_11 ⟨Nat.le_of_ble_eq_true rfl, Nat.le_of_ble_eq_true rfl⟩) (fun r11 e11 => ?_)
  subst e11
  refine z_topq (w := some ((Wl.getD k (0, oz0)).1)) ((hel k hk).1) ?_
  refine lv_astore_n (lv' := [(3, .ref ((Wl.getD k (0, oz0)).1)), (0, .ref a), (1, .int (nI k)), (2, .ref oa)]) hx hb d_AL_set_14 rfl hl (by decide) rfl (fun ls hl => ?_)
  refine lv_aload_n hx hb d_AL_set_15 rfl (lv_at hl 1 rfl) ?_
  refine va_get (D := D) (ci := 12) (v := .ref b) (C := R_AL) (T := F_AL) (N := 3) hx hb hts i_AL hown hK hP 0 rfl rfl 0 (by decide) (hts _ wd_152) (fun _ h9 => h9) rfl d_AL_set_16 ?_
  refine lv_iload_n hx hb d_AL_set_19 rfl (lv_at hl 2 rfl) ?_
  refine lv_aload_n hx hb d_AL_set_20 rfl (lv_at hl 3 rfl) ?_
  refine z_astqO hx hb hK hP hD hS 1 0 2 6 rfl rfl (hN _ wd_1500) rfl rfl k rfl (by omega) (by omega) d_AL_set_21 (fun H locs hP hD hS => ?_)
  have hP : va_P D classes ([(a, .inr (12, [.ref b, .int (nI Wl.length), .int mo])), (b, .inl (cO, 10, .inr (.inr (.inr (.inr (va_up g k (some oa))))))), (oa, .inr (6, [.long o.1, .int o.2.1, .int o.2.2.1, .long o.2.2.2]))] ++ Q) H := hP
  have hD : va_D A ([(a, .inr (12, [.ref b, .int (nI Wl.length), .int mo])), (b, .inl (cO, 10, .inr (.inr (.inr (.inr (va_up g k (some oa))))))), (oa, .inr (6, [.long o.1, .int o.2.1, .int o.2.2.1, .long o.2.2.2]))] ++ Q) := hD
  refine lv_aload_n hx hb d_AL_set_22 rfl (lv_at hl 0 rfl) ?_
  have hP9 := hP.part (cx := [(a, .inr (12, [.ref b, .int (nI Wl.length), .int mo])), (b, .inl (cO, 10, .inr (.inr (.inr (.inr (va_up g k (some oa))))))), (oa, .inr (6, [.long o.1, .int o.2.1, .int o.2.2.1, .long o.2.2.2]))]) [0, 1, 2] rfl
  have hD9 := hD.part (cx := [(a, .inr (12, [.ref b, .int (nI Wl.length), .int mo])), (b, .inl (cO, 10, .inr (.inr (.inr (.inr (va_up g k (some oa))))))), (oa, .inr (6, [.long o.1, .int o.2.1, .int o.2.2.1, .long o.2.2.2]))]) [0, 1, 2] (by decide) rfl
  have hK9 := hK.sub (tys' := [(cO, .object "java/lang/Object")]) [0] rfl
  exact W.aret (v := va_rf (some ((Wl.getD k (0, oz0)).1))) hx hb hr (Or.inl ⟨_, rfl⟩) (va_rf_or _) (fun t ht hW => ⟨⟨_, (), rfl, rfl, ⟨by rw [ht]; exact hP9, va_K.moved hW.alike hK9, hD9⟩⟩, hS.F ht⟩) hS.2.2 d_AL_set_23
