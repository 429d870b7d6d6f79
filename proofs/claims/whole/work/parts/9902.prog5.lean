theorem wd_570 : (Jvm.Cond.instanceMethod ({ cls := "StreamSplitter$Programme", name := "<init>", desc := "(II)V" } : Jvm.MethodName)) ∈ lw_ok := List.mem_filter.mpr ⟨List.mem_of_getElem? (i := 570) (by decide +kernel), rfl⟩
set_option maxRecDepth 100000 in
theorem wd_571 : (Jvm.Cond.code ({ cls := "StreamSplitter$Programme", name := "<init>", desc := "(II)V" } : Jvm.MethodName) prog_7_method_1_code (3 : Nat) (Option.none : Option Jvm.ClassFile.FieldType)) ∈ lw_ok := List.mem_filter.mpr ⟨List.mem_of_getElem? (i := 571) (by rfl), rfl⟩
theorem wd_572 : (Jvm.Cond.methodLink "StreamSplitter$Programme" (3 : Nat) ({ cls := "java/lang/Object", name := "<init>", desc := "()V" } : Jvm.MethodName)) ∈ lw_ok := List.mem_filter.mpr ⟨List.mem_of_getElem? (i := 572) (by decide +kernel), rfl⟩
theorem wd_573 : (Jvm.Cond.classLink "StreamSplitter$Programme" (18 : Nat) "java/util/ArrayList") ∈ lw_ok := List.mem_filter.mpr ⟨List.mem_of_getElem? (i := 573) (by decide +kernel), rfl⟩
theorem wd_574 : (Jvm.Cond.methodLink "StreamSplitter$Programme" (20 : Nat) ({ cls := "java/util/ArrayList", name := "<init>", desc := "()V" } : Jvm.MethodName)) ∈ lw_ok := List.mem_filter.mpr ⟨List.mem_of_getElem? (i := 574) (by decide +kernel), rfl⟩
theorem wd_575 : (Jvm.Cond.fieldLink "StreamSplitter$Programme" (34 : Nat) "StreamSplitter$Programme" "number" "I") ∈ lw_ok := List.mem_filter.mpr ⟨List.mem_of_getElem? (i := 575) (by decide +kernel), rfl⟩
theorem wd_578 : (Jvm.Cond.fieldLink "StreamSplitter$Programme" (37 : Nat) "StreamSplitter$Programme" "pid" "I") ∈ lw_ok := List.mem_filter.mpr ⟨List.mem_of_getElem? (i := 578) (by decide +kernel), rfl⟩
theorem wd_581 : (Jvm.Cond.fieldLink "StreamSplitter$Programme" (9 : Nat) "StreamSplitter$Programme" "version" "I") ∈ lw_ok := List.mem_filter.mpr ⟨List.mem_of_getElem? (i := 581) (by decide +kernel), rfl⟩
theorem wd_584 : (Jvm.Cond.fieldLink "StreamSplitter$Programme" (15 : Nat) "StreamSplitter$Programme" "clockPid" "I") ∈ lw_ok := List.mem_filter.mpr ⟨List.mem_of_getElem? (i := 584) (by decide +kernel), rfl⟩
theorem wd_618 : (Jvm.Cond.classLink "StreamSplitter$Programme" (10 : Nat) "StreamSplitter$Programme") ∈ lw_ok := List.mem_filter.mpr ⟨List.mem_of_getElem? (i := 618) (by decide +kernel), rfl⟩
theorem wd_619 : (Jvm.Cond.methodLink "StreamSplitter$Programme" (40 : Nat) ({ cls := "StreamSplitter$Programme", name := "<init>", desc := "(II)V" } : Jvm.MethodName)) ∈ lw_ok := List.mem_filter.mpr ⟨List.mem_of_getElem? (i := 619) (by decide +kernel), rfl⟩
theorem hd_Programme_init : y_Programme_init.cls ≠ "java/lang/invoke/MethodHandle" ∧ y_Programme_init.cls ≠ "java/lang/invoke/VarHandle" ∧ (parseMethodDescriptor y_Programme_init.desc).map (fun d => d.parameters.length) = some 2 := by decide +kernel
theorem d_Programme_copied_0 : decode b_Programme_copied 0 = .ok (.new 10, 3) := by decide +kernel
theorem d_Programme_copied_3 : decode b_Programme_copied 3 = .ok (.dup, 1) := by decide +kernel
theorem d_Programme_copied_4 : decode b_Programme_copied 4 = .ok (.aload_n 0, 1) := by decide +kernel
theorem d_Programme_copied_5 : decode b_Programme_copied 5 = .ok (.getfield 34, 3) := by decide +kernel
theorem d_Programme_copied_8 : decode b_Programme_copied 8 = .ok (.aload_n 0, 1) := by decide +kernel
theorem d_Programme_copied_9 : decode b_Programme_copied 9 = .ok (.getfield 37, 3) := by decide +kernel
theorem d_Programme_copied_12 : decode b_Programme_copied 12 = .ok (.invokespecial 40, 3) := by decide +kernel
theorem d_Programme_copied_15 : decode b_Programme_copied 15 = .ok (.astore_n 1, 1) := by decide +kernel
theorem d_Programme_copied_16 : decode b_Programme_copied 16 = .ok (.aload_n 1, 1) := by decide +kernel
theorem d_Programme_copied_17 : decode b_Programme_copied 17 = .ok (.aload_n 0, 1) := by decide +kernel
theorem d_Programme_copied_18 : decode b_Programme_copied 18 = .ok (.getfield 9, 3) := by decide +kernel
theorem d_Programme_copied_21 : decode b_Programme_copied 21 = .ok (.putfield 9, 3) := by decide +kernel
theorem d_Programme_copied_24 : decode b_Programme_copied 24 = .ok (.aload_n 1, 1) := by decide +kernel
theorem d_Programme_copied_25 : decode b_Programme_copied 25 = .ok (.aload_n 0, 1) := by decide +kernel
theorem d_Programme_copied_26 : decode b_Programme_copied 26 = .ok (.getfield 15, 3) := by decide +kernel
theorem d_Programme_copied_29 : decode b_Programme_copied 29 = .ok (.putfield 15, 3) := by decide +kernel
theorem d_Programme_copied_32 : decode b_Programme_copied 32 = .ok (.aload_n 1, 1) := by decide +kernel
theorem d_Programme_copied_33 : decode b_Programme_copied 33 = .ok (.aload_n 0, 1) := by decide +kernel
theorem d_Programme_copied_34 : decode b_Programme_copied 34 = .ok (.getfield 21, 3) := by decide +kernel
theorem d_Programme_copied_37 : decode b_Programme_copied 37 = .ok (.putfield 21, 3) := by decide +kernel
theorem d_Programme_copied_40 : decode b_Programme_copied 40 = .ok (.aload_n 1, 1) := by decide +kernel
theorem d_Programme_copied_41 : decode b_Programme_copied 41 = .ok (.aload_n 0, 1) := by decide +kernel
theorem d_Programme_copied_42 : decode b_Programme_copied 42 = .ok (.getfield 43, 3) := by decide +kernel
theorem d_Programme_copied_45 : decode b_Programme_copied 45 = .ok (.putfield 43, 3) := by decide +kernel
theorem d_Programme_copied_48 : decode b_Programme_copied 48 = .ok (.aload_n 1, 1) := by decide +kernel
theorem d_Programme_copied_49 : decode b_Programme_copied 49 = .ok (.aload_n 0, 1) := by decide +kernel
theorem d_Programme_copied_50 : decode b_Programme_copied 50 = .ok (.getfield 27, 3) := by decide +kernel
theorem d_Programme_copied_53 : decode b_Programme_copied 53 = .ok (.putfield 27, 3) := by decide +kernel
theorem d_Programme_copied_56 : decode b_Programme_copied 56 = .ok (.iconst 0, 1) := by decide +kernel
theorem d_Programme_copied_57 : decode b_Programme_copied 57 = .ok (.istore_n 2, 1) := by decide +kernel
theorem d_Programme_copied_58 : decode b_Programme_copied 58 = .ok (.iload_n 2, 1) := by decide +kernel
theorem d_Programme_copied_59 : decode b_Programme_copied 59 = .ok (.aload_n 0, 1) := by decide +kernel
theorem d_Programme_copied_60 : decode b_Programme_copied 60 = .ok (.getfield 31, 3) := by decide +kernel
theorem d_Programme_copied_63 : decode b_Programme_copied 63 = .ok (.invokevirtual 47, 3) := by decide +kernel
theorem d_Programme_copied_66 : decode b_Programme_copied 66 = .ok (.if_icmp .ge 28, 3) := by decide +kernel
theorem d_Programme_copied_69 : decode b_Programme_copied 69 = .ok (.aload_n 1, 1) := by decide +kernel
theorem d_Programme_copied_70 : decode b_Programme_copied 70 = .ok (.getfield 31, 3) := by decide +kernel
theorem d_Programme_copied_73 : decode b_Programme_copied 73 = .ok (.aload_n 0, 1) := by decide +kernel
theorem d_Programme_copied_74 : decode b_Programme_copied 74 = .ok (.getfield 31, 3) := by decide +kernel
theorem d_Programme_copied_77 : decode b_Programme_copied 77 = .ok (.iload_n 2, 1) := by decide +kernel
theorem d_Programme_copied_78 : decode b_Programme_copied 78 = .ok (.invokevirtual 51, 3) := by decide +kernel
theorem d_Programme_copied_81 : decode b_Programme_copied 81 = .ok (.checkcast 55, 3) := by decide +kernel
theorem d_Programme_copied_84 : decode b_Programme_copied 84 = .ok (.invokevirtual 57, 3) := by decide +kernel
theorem d_Programme_copied_87 : decode b_Programme_copied 87 = .ok (.pop, 1) := by decide +kernel
theorem d_Programme_copied_88 : decode b_Programme_copied 88 = .ok (.iinc 2 1, 3) := by decide +kernel
theorem d_Programme_copied_91 : decode b_Programme_copied 91 = .ok (.goto (-33), 3) := by decide +kernel
theorem d_Programme_copied_94 : decode b_Programme_copied 94 = .ok (.aload_n 1, 1) := by decide +kernel
theorem d_Programme_copied_95 : decode b_Programme_copied 95 = .ok (.areturn, 1) := by decide +kernel
theorem d_Programme_init_0 : decode b_Programme_init 0 = .ok (.aload_n 0, 1) := by decide +kernel
theorem d_Programme_init_1 : decode b_Programme_init 1 = .ok (.invokespecial 3, 3) := by decide +kernel
theorem d_Programme_init_4 : decode b_Programme_init 4 = .ok (.aload_n 0, 1) := by decide +kernel
theorem d_Programme_init_5 : decode b_Programme_init 5 = .ok (.iconst (-1), 1) := by decide +kernel
theorem d_Programme_init_6 : decode b_Programme_init 6 = .ok (.putfield 9, 3) := by decide +kernel
theorem d_Programme_init_9 : decode b_Programme_init 9 = .ok (.aload_n 0, 1) := by decide +kernel
theorem d_Programme_init_10 : decode b_Programme_init 10 = .ok (.iconst (-1), 1) := by decide +kernel
theorem d_Programme_init_11 : decode b_Programme_init 11 = .ok (.putfield 15, 3) := by decide +kernel
theorem d_Programme_init_14 : decode b_Programme_init 14 = .ok (.aload_n 0, 1) := by decide +kernel
theorem d_Programme_init_15 : decode b_Programme_init 15 = .ok (.new 18, 3) := by decide +kernel
theorem d_Programme_init_18 : decode b_Programme_init 18 = .ok (.dup, 1) := by decide +kernel
theorem d_Programme_init_19 : decode b_Programme_init 19 = .ok (.invokespecial 20, 3) := by decide +kernel
theorem d_Programme_init_22 : decode b_Programme_init 22 = .ok (.putfield 21, 3) := by decide +kernel
theorem d_Programme_init_25 : decode b_Programme_init 25 = .ok (.aload_n 0, 1) := by decide +kernel
theorem d_Programme_init_26 : decode b_Programme_init 26 = .ok (.ldc2_w 25, 3) := by decide +kernel
theorem d_Programme_init_29 : decode b_Programme_init 29 = .ok (.putfield 27, 3) := by decide +kernel
theorem d_Programme_init_32 : decode b_Programme_init 32 = .ok (.aload_n 0, 1) := by decide +kernel
theorem d_Programme_init_33 : decode b_Programme_init 33 = .ok (.new 18, 3) := by decide +kernel
theorem d_Programme_init_36 : decode b_Programme_init 36 = .ok (.dup, 1) := by decide +kernel
theorem d_Programme_init_37 : decode b_Programme_init 37 = .ok (.invokespecial 20, 3) := by decide +kernel
theorem d_Programme_init_40 : decode b_Programme_init 40 = .ok (.putfield 31, 3) := by decide +kernel
theorem d_Programme_init_43 : decode b_Programme_init 43 = .ok (.aload_n 0, 1) := by decide +kernel
theorem d_Programme_init_44 : decode b_Programme_init 44 = .ok (.iload_n 1, 1) := by decide +kernel
theorem d_Programme_init_45 : decode b_Programme_init 45 = .ok (.putfield 34, 3) := by decide +kernel
theorem d_Programme_init_48 : decode b_Programme_init 48 = .ok (.aload_n 0, 1) := by decide +kernel
theorem d_Programme_init_49 : decode b_Programme_init 49 = .ok (.iload_n 2, 1) := by decide +kernel
theorem d_Programme_init_50 : decode b_Programme_init 50 = .ok (.putfield 37, 3) := by decide +kernel
theorem d_Programme_init_53 : decode b_Programme_init 53 = .ok (.return_, 1) := by decide +kernel
/-! A programme is copied: its streams and orders are shared -/
theorem z_foc {WS : va_W} {o : Nat × va_E} (h : o ∈ WS) : ∃ WR : va_W, ∀ X : va_W, (X ++ WS).Perm ((X ++ [o]) ++ WR) := by
  obtain ⟨a, b, rfl⟩ := List.append_of_mem h
  refine ⟨a ++ b, fun X => ?_⟩
  rw [List.append_assoc]
  exact List.Perm.append_left X List.perm_middle
theorem scn_le (x : Option (Nat × (Nat → Option Nat))) : scn x ≤ 1 := by
  cases x with
  | none => exact Nat.zero_le _
  | some q => exact Nat.le_refl _
theorem cp_take {Wl : WL9} {j : Nat} (h : j < Wl.length) : Wl.take (j + 1) = Wl.take j ++ [Wl.getD j (0, oz0)] := by
  rw [List.take_succ, List.getD_eq_getElem?_getD, List.getElem?_eq_getElem h]
  rfl
theorem cp_step {WS : va_W} {g : Nat → Option Nat} {Wl : WL9} {j : Nat} (h : elO WS g (Wl.take j)) (hj : j < Wl.length) (hm : ((Wl.getD j (0, oz0)).1, orE (Wl.getD j (0, oz0)).2) ∈ WS) : elO WS (va_up g j (some (Wl.getD j (0, oz0)).1)) (Wl.take (j + 1)) := by
  rw [cp_take hj]
  have e : (Wl.take j).length = j := by rw [List.length_take]; omega
  have h2 := el_add (o := Wl.getD j (0, oz0)) h
  rw [e] at h2
  exact el_mono h2 (fun x hx => by
    rcases List.mem_cons.mp hx with q | q
    · rw [q]; exact hm
    · exact q)
theorem cp_0 {Wl : WL9} {j : Nat} (h : Wl.take j = []) (hj : j < Wl.length) : j = 0 := by
  have := congrArg List.length h
  rw [List.length_take] at this
  simp at this
  rcases this with q | q
  · exact q
  · rw [q] at hj; exact absurd hj (Nat.not_lt_zero _)

set_option maxHeartbeats 4000000 in
set_option maxRecDepth 100000 in
theorem c_Programme_init (l : Launch) (D : va_G) (B0 : State) (hG : zG B0) (sz : Nat) (h e0 : Nat) (x y : Int32) (he0 : zE0 B0 e0) : Met l y_Programme_init [Cond.code y_Programme_init b_Programme_init 3 none] ({ frames := 4, cells := 2, slots := 6, locals := 72 }) (zMo [.ref h, .int x, .int y] D [(h, .inr (7, [.int 0, .int 0, .int 0, .int 0, .null, .int 0, .long 0, .null]))] [] sz B0) (va_Qv (fun (u : Nat × Nat) => True) (fun (u : Nat × Nat) t => zW D (va_A [(h, .inr (7, [.int 0, .int 0, .int 0, .int 0, .null, .int 0, .long 0, .null]))] sz) [(h, .inr (7, [.int x, .int y, .int (-1), .int (-1), .ref u.1, .int 0, .long (-1), .ref u.2])), (u.1, .inr (12, [.ref e0, .int 0, .int 0])), (u.2, .inr (12, [.ref e0, .int 0, .int 0]))] [] t) (va_A [(h, .inr (7, [.int 0, .int 0, .int 0, .int 0, .null, .int 0, .long 0, .null]))] sz)) 2 6 (va_A [(h, .inr (7, [.int 0, .int 0, .int 0, .int 0, .null, .int 0, .long 0, .null]))] sz) := by
  refine Met.ofW (cc := b_Programme_init) (maxL := 3) (ret := none) (by decide) rfl ?_
  intro p e s m args below meth cd s₁ Bd hml hv
  obtain ⟨rfl, hsz, hP, hK, hN, hD0, hO⟩ := hv
  have hx := Bd.exec
  have hb := Bd.bytes
  have hr := Bd.returns
  have hts := hN.use (a := ([.ref h, .int x, .int y]).toArray)
  have hown : s.vm.findClass R_Programme = some m.cls := findClass_of_methodNamed Bd.named
  have hlocks := Bd.notSynchronized
  have hin : meth.name = "<init>" := (name_of_methodNamed Bd.named Bd.method).1
  subst hsz
  have hD := hD0.self (sz := s.heap.size)
  have hAO := z_AO hD0 hO
  clear hD0
  have hA : ∀ q : Nat, s.heap.size ≤ q → va_A [(h, .inr (7, [.int 0, .int 0, .int 0, .int 0, .null, .int 0, .long 0, .null]))] s.heap.size q := fun q h => Or.inr h
  have hS : va_S (va_A [(h, .inr (7, [.int 0, .int 0, .int 0, .int 0, .null, .int 0, .long 0, .null]))] s.heap.size) s.heap s.heap [] := va_S.rf
  generalize hAe : va_A [(h, .inr (7, [.int 0, .int 0, .int 0, .int 0, .null, .int 0, .long 0, .null]))] s.heap.size = A at hD hA hS hAO ⊢
  have hP : va_P D classes [(h, .inr (7, [.int 0, .int 0, .int 0, .int 0, .null, .int 0, .long 0, .null]))] s.heap := hP
  have hl := lv_entry ([.ref h, .int x, .int y]) (n := 3) (Nat.le_of_ble_eq_true rfl)
  rw [lg_entry_eq]
  generalize (lg_sl ([.ref h, .int x, .int y]) ++ List.replicate (3 - (lg_sl ([.ref h, .int x, .int y])).length) Slot.unset).toArray = ls at hl ⊢
  have hl : lv_has ls 3 [(0, .ref h), (1, .int x), (2, .int y)] := hl
  refine lv_aload_n hx hb d_Programme_init_0 rfl (lv_at hl 0 rfl) ?_
  refine W.objInit hx hb hown (hts _ wd_572) (hts _ wd_92) (hts _ wd_93) rfl (by rw [hml]; exact hl.1) rfl d_Programme_init_1 (Nat.le_of_ble_eq_true rfl) (Nat.le_of_ble_eq_true rfl) ?_
  refine W.eq (g2 := F0 m 4 ls []) rfl ?_
  refine lv_aload_n hx hb d_Programme_init_4 rfl (lv_at hl 0 rfl) ?_
  refine lv_iconst (v := (-1)) hx hb d_Programme_init_5 (by decide) ?_
  refine va_put (D := D) (ci := 7) (v := .int (-1)) (ty := .int) (C := R_Programme) (T := F_Programme) (N := 8) hx hb hts i_Programme t_Programme t_Programme_ok n_Programme hown hK hP hD hS 0 rfl rfl 2 (by decide) (hts _ wd_581) (fun _ h9 => h9) rfl (by decide +kernel) rfl rfl (Nat.le_of_ble_eq_true rfl) d_Programme_init_6 (fun H locs hP hD hS => ?_)
  have hP : va_P D classes [(h, .inr (7, [.int 0, .int 0, .int (-1), .int 0, .null, .int 0, .long 0, .null]))] H := hP
  have hD : va_D A [(h, .inr (7, [.int 0, .int 0, .int (-1), .int 0, .null, .int 0, .long 0, .null]))] := hD
  refine lv_aload_n hx hb d_Programme_init_9 rfl (lv_at hl 0 rfl) ?_
  refine lv_iconst (v := (-1)) hx hb d_Programme_init_10 (by decide) ?_
  refine va_put (D := D) (ci := 7) (v := .int (-1)) (ty := .int) (C := R_Programme) (T := F_Programme) (N := 8) hx hb hts i_Programme t_Programme t_Programme_ok n_Programme hown hK hP hD hS 0 rfl rfl 3 (by decide) (hts _ wd_584) (fun _ h9 => h9) rfl (by decide +kernel) rfl rfl (Nat.le_of_ble_eq_true rfl) d_Programme_init_11 (fun H locs hP hD hS => ?_)
  have hP : va_P D classes [(h, .inr (7, [.int 0, .int 0, .int (-1), .int (-1), .null, .int 0, .long 0, .null]))] H := hP
  have hD : va_D A [(h, .inr (7, [.int 0, .int 0, .int (-1), .int (-1), .null, .int 0, .long 0, .null]))] := hD
  refine lv_aload_n hx hb d_Programme_init_14 rfl (lv_at hl 0 rfl) ?_
  refine va_new (ci := 12) (fs := [.null, .int 0, .int 0]) (C := R_AL) (T := F_AL) (N := 3) hx hb hts i_AL t_AL t_AL_ok hown (hts _ wd_573) (hts _ wd_139) (hts _ wd_66) hK hP hD hS hA rfl (fs_AL) (by show 0 + 1 ≤ 2; omega) (by show 0 + 3 ≤ 6; omega) d_Programme_init_15 (fun q15 H hP hD hS => ?_)
  have hP : va_P D classes [(h, .inr (7, [.int 0, .int 0, .int (-1), .int (-1), .null, .int 0, .long 0, .null])), (q15, .inr (12, [.null, .int 0, .int 0]))] H := hP
  have hD : va_D A [(h, .inr (7, [.int 0, .int 0, .int (-1), .int (-1), .null, .int 0, .long 0, .null])), (q15, .inr (12, [.null, .int 0, .int 0]))] := hD
  refine lv_dup hx hb d_Programme_init_18 rfl ?_
  have hPc := hP.sub (ws' := [(q15, .inr (12, [.null, .int 0, .int 0]))]) [1] rfl
  have hKc := hK.sub (tys' := []) [] rfl
  have hDc := hD.sub (ws' := [(q15, .inr (12, [.null, .int 0, .int 0]))]) [1] (by decide) rfl
  have hFc := va_free (wc := [(q15, .inr (12, [.null, .int 0, .int 0]))]) hD hS hA [1] rfl
  refine va_callv (va_runI (As := []) (rest := [.ref q15, .ref h]) ⟨hx, hb, hml, hown, hts⟩ (c_AL_init l D B0 hG H.size q15 e0 he0) (z_cI hN wd_142 wd_66 wd_574 hd_AL_init rfl rfl ⟨Nat.le_of_ble_eq_true rfl, Nat.le_of_ble_eq_true rfl⟩ wd_141 rfl) (z_preSo hPc hKc hN hDc hO hS hAO) rfl rfl hl.1 rfl (lv_room (Nat.le_of_ble_eq_true rfl)) d_Programme_init_19 ⟨Nat.le_of_ble_eq_true rfl, Nat.le_of_ble_eq_true rfl⟩) hS (fun q _ h => hFc q h) hFc (fun u19 t H locs ht hvm e19 hB hz1 hk1 hS => ?_)
  obtain ⟨hP1, hK1, hD1⟩ := hB
  rw [ht] at hP1
  obtain ⟨hP, hD⟩ := va_join (wr := [(h, .inr (7, [.int 0, .int 0, .int (-1), .int (-1), .null, .int 0, .long 0, .null]))]) (w1 := [(q15, .inr (12, [.ref e0, .int 0, .int 0]))]) hP hD [1] [0] rfl rfl (by decide) (by decide) hk1 hFc hP1 hD1
  clear hk1 hP1 hD1 hFc hPc hDc hz1
  have hP : va_P D classes [(h, .inr (7, [.int 0, .int 0, .int (-1), .int (-1), .null, .int 0, .long 0, .null])), (q15, .inr (12, [.ref e0, .int 0, .int 0]))] H := hP
  have hD : va_D A [(h, .inr (7, [.int 0, .int 0, .int (-1), .int (-1), .null, .int 0, .long 0, .null])), (q15, .inr (12, [.ref e0, .int 0, .int 0]))] := hD
  refine va_put (D := D) (ci := 7) (v := .ref q15) (ty := (.object "java/util/ArrayList")) (C := R_Programme) (T := F_Programme) (N := 8) hx hb hts i_Programme t_Programme t_Programme_ok n_Programme hown hK hP hD hS 0 rfl rfl 4 (by decide) (hts _ wd_587) (fun _ h9 => h9) rfl (by decide +kernel) rfl rfl (Nat.le_of_ble_eq_true rfl) d_Programme_init_22 (fun H locs hP hD hS => ?_)
  have hP : va_P D classes [(h, .inr (7, [.int 0, .int 0, .int (-1), .int (-1), .ref q15, .int 0, .long 0, .null])), (q15, .inr (12, [.ref e0, .int 0, .int 0]))] H := hP
  have hD : va_D A [(h, .inr (7, [.int 0, .int 0, .int (-1), .int (-1), .ref q15, .int 0, .long 0, .null])), (q15, .inr (12, [.ref e0, .int 0, .int 0]))] := hD
  refine lv_aload_n hx hb d_Programme_init_25 rfl (lv_at hl 0 rfl) ?_
  refine lv_ldc2 hx hb hown (hts _ wd_435) d_Programme_init_26 ?_
  refine va_put (D := D) (ci := 7) (v := .long (-1)) (ty := .long) (C := R_Programme) (T := F_Programme) (N := 8) hx hb hts i_Programme t_Programme t_Programme_ok n_Programme hown hK hP hD hS 0 rfl rfl 6 (by decide) (hts _ wd_592) (fun _ h9 => h9) rfl (by decide +kernel) rfl rfl (Nat.le_of_ble_eq_true rfl) d_Programme_init_29 (fun H locs hP hD hS => ?_)
  have hP : va_P D classes [(h, .inr (7, [.int 0, .int 0, .int (-1), .int (-1), .ref q15, .int 0, .long (-1), .null])), (q15, .inr (12, [.ref e0, .int 0, .int 0]))] H := hP
  have hD : va_D A [(h, .inr (7, [.int 0, .int 0, .int (-1), .int (-1), .ref q15, .int 0, .long (-1), .null])), (q15, .inr (12, [.ref e0, .int 0, .int 0]))] := hD
  refine lv_aload_n hx hb d_Programme_init_32 rfl (lv_at hl 0 rfl) ?_
  refine va_new (ci := 12) (fs := [.null, .int 0, .int 0]) (C := R_AL) (T := F_AL) (N := 3) hx hb hts i_AL t_AL t_AL_ok hown (hts _ wd_573) (hts _ wd_139) (hts _ wd_66) hK hP hD hS hA rfl (fs_AL) (by show 0 + 1 + 1 ≤ 2; omega) (by show 0 + 3 + 3 ≤ 6; omega) d_Programme_init_33 (fun q33 H hP hD hS => ?_)
  have hP : va_P D classes [(h, .inr (7, [.int 0, .int 0, .int (-1), .int (-1), .ref q15, .int 0, .long (-1), .null])), (q15, .inr (12, [.ref e0, .int 0, .int 0])), (q33, .inr (12, [.null, .int 0, .int 0]))] H := hP
  have hD : va_D A [(h, .inr (7, [.int 0, .int 0, .int (-1), .int (-1), .ref q15, .int 0, .long (-1), .null])), (q15, .inr (12, [.ref e0, .int 0, .int 0])), (q33, .inr (12, [.null, .int 0, .int 0]))] := hD
  refine lv_dup hx hb d_Programme_init_36 rfl ?_
  have hPc := hP.sub (ws' := [(q33, .inr (12, [.null, .int 0, .int 0]))]) [2] rfl
  have hKc := hK.sub (tys' := []) [] rfl
  have hDc := hD.sub (ws' := [(q33, .inr (12, [.null, .int 0, .int 0]))]) [2] (by decide) rfl
  have hFc := va_free (wc := [(q33, .inr (12, [.null, .int 0, .int 0]))]) hD hS hA [2] rfl
  refine va_callv (va_runI (As := []) (rest := [.ref q33, .ref h]) ⟨hx, hb, hml, hown, hts⟩ (c_AL_init l D B0 hG H.size q33 e0 he0) (z_cI hN wd_142 wd_66 wd_574 hd_AL_init rfl rfl ⟨Nat.le_of_ble_eq_true rfl, Nat.le_of_ble_eq_true rfl⟩ wd_141 rfl) (z_preSo hPc hKc hN hDc hO hS hAO) rfl rfl hl.1 rfl (lv_room (Nat.le_of_ble_eq_true rfl)) d_Programme_init_37 ⟨Nat.le_of_ble_eq_true rfl, Nat.le_of_ble_eq_true rfl⟩) hS (fun q _ h => hFc q h) hFc (fun u37 t H locs ht hvm e37 hB hz1 hk1 hS => ?_)
  obtain ⟨hP1, hK1, hD1⟩ := hB
  rw [ht] at hP1
  obtain ⟨hP, hD⟩ := va_join (wr := [(h, .inr (7, [.int 0, .int 0, .int (-1), .int (-1), .ref q15, .int 0, .long (-1), .null])), (q15, .inr (12, [.ref e0, .int 0, .int 0]))]) (w1 := [(q33, .inr (12, [.ref e0, .int 0, .int 0]))]) hP hD [2] [0, 1] rfl rfl (by decide) (by decide) hk1 hFc hP1 hD1
  clear hk1 hP1 hD1 hFc hPc hDc hz1
  have hP : va_P D classes [(h, .inr (7, [.int 0, .int 0, .int (-1), .int (-1), .ref q15, .int 0, .long (-1), .null])), (q15, .inr (12, [.ref e0, .int 0, .int 0])), (q33, .inr (12, [.ref e0, .int 0, .int 0]))] H := hP
  have hD : va_D A [(h, .inr (7, [.int 0, .int 0, .int (-1), .int (-1), .ref q15, .int 0, .long (-1), .null])), (q15, .inr (12, [.ref e0, .int 0, .int 0])), (q33, .inr (12, [.ref e0, .int 0, .int 0]))] := hD
  refine va_putF (D := D) (ci := 7) (v := .ref q33) (ty := (.object "java/util/ArrayList")) (C := R_Programme) (T := F_Programme) (N := 8) hx hb hts i_Programme t_Programme t_Programme_ok n_Programme hown hK hP hD hS 0 rfl rfl 7 (by decide) (hts _ wd_595) (fun _ h9 => h9) rfl hin rfl (by decide +kernel) rfl rfl (Nat.le_of_ble_eq_true rfl) d_Programme_init_40 (fun H locs hP hD hS => ?_)
  have hP : va_P D classes [(h, .inr (7, [.int 0, .int 0, .int (-1), .int (-1), .ref q15, .int 0, .long (-1), .ref q33])), (q15, .inr (12, [.ref e0, .int 0, .int 0])), (q33, .inr (12, [.ref e0, .int 0, .int 0]))] H := hP
  have hD : va_D A [(h, .inr (7, [.int 0, .int 0, .int (-1), .int (-1), .ref q15, .int 0, .long (-1), .ref q33])), (q15, .inr (12, [.ref e0, .int 0, .int 0])), (q33, .inr (12, [.ref e0, .int 0, .int 0]))] := hD
  refine lv_aload_n hx hb d_Programme_init_43 rfl (lv_at hl 0 rfl) ?_
  refine lv_iload_n hx hb d_Programme_init_44 rfl (lv_at hl 1 rfl) ?_
  refine va_putF (D := D) (ci := 7) (v := .int x) (ty := .int) (C := R_Programme) (T := F_Programme) (N := 8) hx hb hts i_Programme t_Programme t_Programme_ok n_Programme hown hK hP hD hS 0 rfl rfl 0 (by decide) (hts _ wd_575) (fun _ h9 => h9) rfl hin rfl (by decide +kernel) rfl rfl (Nat.le_of_ble_eq_true rfl) d_Programme_init_45 (fun H locs hP hD hS => ?_)
  have hP : va_P D classes [(h, .inr (7, [.int x, .int 0, .int (-1), .int (-1), .ref q15, .int 0, .long (-1), .ref q33])), (q15, .inr (12, [.ref e0, .int 0, .int 0])), (q33, .inr (12, [.ref e0, .int 0, .int 0]))] H := hP
  have hD : va_D A [(h, .inr (7, [.int x, .int 0, .int (-1), .int (-1), .ref q15, .int 0, .long (-1), .ref q33])), (q15, .inr (12, [.ref e0, .int 0, .int 0])), (q33, .inr (12, [.ref e0, .int 0, .int 0]))] := hD
  refine lv_aload_n hx hb d_Programme_init_48 rfl (lv_at hl 0 rfl) ?_
  refine lv_iload_n hx hb d_Programme_init_49 rfl (lv_at hl 2 rfl) ?_
  refine va_putF (D := D) (ci := 7) (v := .int y) (ty := .int) (C := R_Programme) (T := F_Programme) (N := 8) hx hb hts i_Programme t_Programme t_Programme_ok n_Programme hown hK hP hD hS 0 rfl rfl 1 (by decide) (hts _ wd_578) (fun _ h9 => h9) rfl hin rfl (by decide +kernel) rfl rfl (Nat.le_of_ble_eq_true rfl) d_Programme_init_50 (fun H locs hP hD hS => ?_)
  have hP : va_P D classes [(h, .inr (7, [.int x, .int y, .int (-1), .int (-1), .ref q15, .int 0, .long (-1), .ref q33])), (q15, .inr (12, [.ref e0, .int 0, .int 0])), (q33, .inr (12, [.ref e0, .int 0, .int 0]))] H := hP
  have hD : va_D A [(h, .inr (7, [.int x, .int y, .int (-1), .int (-1), .ref q15, .int 0, .long (-1), .ref q33])), (q15, .inr (12, [.ref e0, .int 0, .int 0])), (q33, .inr (12, [.ref e0, .int 0, .int 0]))] := hD
  have hP9 := hP.sub (ws' := [(h, .inr (7, [.int x, .int y, .int (-1), .int (-1), .ref q15, .int 0, .long (-1), .ref q33])), (q15, .inr (12, [.ref e0, .int 0, .int 0])), (q33, .inr (12, [.ref e0, .int 0, .int 0]))]) [0, 1, 2] rfl
  have hD9 := hD.sub (ws' := [(h, .inr (7, [.int x, .int y, .int (-1), .int (-1), .ref q15, .int 0, .long (-1), .ref q33])), (q15, .inr (12, [.ref e0, .int 0, .int 0])), (q33, .inr (12, [.ref e0, .int 0, .int 0]))]) [0, 1, 2] (by decide) rfl
  have hK9 := hK.sub (tys' := []) [] rfl
  refine W.widen (k := 2) (n := 6) (by omega) (by omega) ?_
  exact W.vret hx hb hr (fun t ht hW => ⟨⟨(q15, q33), rfl, trivial, ⟨by rw [ht]; exact hP9, va_K.moved hW.alike hK9, hD9⟩⟩, hS.F ht⟩) hS.2.2 d_Programme_init_53
set_option maxHeartbeats 16000000 in
set_option maxRecDepth 100000 in
theorem c_Programme_copied (l : Launch) (D : va_G) (B0 : State) (hG : zG B0) (sz : Nat) (cO : ClassId) (e0 : Nat) (WS : va_W) (z : PZ) (Wl : List (Nat × Int64 × Int32 × Int32 × Int64)) (he0 : zE0 B0 e0) (hzm : (z.1, pgE z) ∈ WS) (hW : isW WS cO z.2.2.2.2.2.2.2.2 Wl) (haw : z.2.2.2.2.2.2.1 = 0 ∨ z.2.2.2.2.2.2.1 = 1) : Met l y_Programme_copied [Cond.code y_Programme_copied b_Programme_copied 3 (some (.object "StreamSplitter$Programme"))] ({ frames := 5, cells := 4, slots := 24, locals := 101 }) (zMo [.ref z.1] D ([] ++ WS) [(cO, .object "java/lang/Object")] sz B0) (va_Qr (fun (u : Nat × Int32 × Option (Nat × (Nat → Option Nat))) => wok WS u.2.2 Wl) (fun (u : Nat × Int32 × Option (Nat × (Nat → Option Nat))) ra t => zW D (va_A ([] ++ WS) sz) ([(ra, .inr (7, [.int z.2.1, .int (nI z.2.2.1), .int z.2.2.2.1, .int z.2.2.2.2.1, .ref z.2.2.2.2.2.1, .int z.2.2.2.2.2.2.1, .long z.2.2.2.2.2.2.2.1, .ref u.1]))] ++ (wlc cO e0 u.1 Wl.length u.2.1 u.2.2 ++ WS)) [(cO, .object "java/lang/Object")] t) (va_A ([] ++ WS) sz)) 4 24 (va_A ([] ++ WS) sz) := by
  refine Met.ofW (cc := b_Programme_copied) (maxL := 3) (ret := (some (.object "StreamSplitter$Programme"))) (by decide) rfl ?_
  intro p e s m args below meth cd s₁ Bd hml hv
  obtain ⟨rfl, hsz, hP, hK, hN, hD0, hO⟩ := hv
  have hx := Bd.exec
  have hb := Bd.bytes
  have hr := Bd.returns
  have hts := hN.use (a := ([.ref z.1]).toArray)
  have hown : s.vm.findClass R_Programme = some m.cls := findClass_of_methodNamed Bd.named
  have hlocks := Bd.notSynchronized
  subst hsz
  have hD := hD0.self (sz := s.heap.size)
  have hAO := z_AO hD0 hO
  clear hD0
  have hA : ∀ q : Nat, s.heap.size ≤ q → va_A ([] ++ WS) s.heap.size q := fun q h => Or.inr h
  have hS : va_S (va_A ([] ++ WS) s.heap.size) s.heap s.heap [] := va_S.rf
  generalize hAe : va_A ([] ++ WS) s.heap.size = A at hD hA hS hAO ⊢
  have hP : va_P D classes ([] ++ WS) s.heap := hP
  have hl := lv_entry ([.ref z.1]) (n := 3) (Nat.le_of_ble_eq_true rfl)
  rw [lg_entry_eq]
  generalize (lg_sl ([.ref z.1]) ++ List.replicate (3 - (lg_sl ([.ref z.1])).length) Slot.unset).toArray = ls at hl ⊢
  have hl : lv_has ls 3 [(0, .ref z.1)] := hl
  obtain ⟨wb, mo, g, ⟨hLm, hL6, hLa⟩, hE⟩ := hW
  refine va_new (ci := 7) (fs := [.int 0, .int 0, .int 0, .int 0, .null, .int 0, .long 0, .null]) (C := R_Programme) (T := F_Programme) (N := 8) hx hb hts i_Programme t_Programme t_Programme_ok hown (hts _ wd_618) (hts _ wd_415) (hts _ wd_82) hK hP hD hS hA rfl (fs_Programme) (by show 0 + 1 ≤ 4; omega) (by show 0 + 8 ≤ 24; omega) d_Programme_copied_0 (fun q0 H hP hD hS => ?_)
  have hP := hP.swap
  have hD := hD.swap
  have hP : va_P D classes ([(q0, .inr (7, [.int 0, .int 0, .int 0, .int 0, .null, .int 0, .long 0, .null]))] ++ WS) H := hP
  have hD : va_D A ([(q0, .inr (7, [.int 0, .int 0, .int 0, .int 0, .null, .int 0, .long 0, .null]))] ++ WS) := hD
  refine lv_dup hx hb d_Programme_copied_3 rfl ?_
  have hm4 : (z.1, pgE z) ∈ ([(q0, .inr (7, [.int 0, .int 0, .int 0, .int 0, .null, .int 0, .long 0, .null]))] ++ WS) := List.mem_append_right _ hzm
  obtain ⟨q4z, hq4z⟩ := List.getElem?_of_mem hm4
  have hL4 : (z.2.2.2.2.2.2.2.2, alE wb Wl.length mo) ∈ ([(q0, .inr (7, [.int 0, .int 0, .int 0, .int 0, .null, .int 0, .long 0, .null]))] ++ WS) := List.mem_append_right _ hLm
  obtain ⟨q4w, hq4w⟩ := List.getElem?_of_mem hL4
  refine lv_aload_n hx hb d_Programme_copied_4 rfl (lv_at hl 0 rfl) ?_
  refine va_get (D := D) (ci := 7) (v := .int z.2.1) (C := R_Programme) (T := F_Programme) (N := 8) hx hb hts i_Programme hown hK hP q4z hq4z rfl 0 (by decide) (hts _ wd_575) (fun _ h9 => h9) rfl d_Programme_copied_5 ?_
  refine lv_aload_n hx hb d_Programme_copied_8 rfl (lv_at hl 0 rfl) ?_
  refine va_get (D := D) (ci := 7) (v := .int (nI z.2.2.1)) (C := R_Programme) (T := F_Programme) (N := 8) hx hb hts i_Programme hown hK hP q4z hq4z rfl 1 (by decide) (hts _ wd_578) (fun _ h9 => h9) rfl d_Programme_copied_9 ?_
  have hPc := hP.sub (ws' := [(q0, .inr (7, [.int 0, .int 0, .int 0, .int 0, .null, .int 0, .long 0, .null]))]) [0] rfl
  have hKc := hK.sub (tys' := []) [] rfl
  have hDc := hD.sub (ws' := [(q0, .inr (7, [.int 0, .int 0, .int 0, .int 0, .null, .int 0, .long 0, .null]))]) [0] (by decide) rfl
  have hFc := va_free (wc := [(q0, .inr (7, [.int 0, .int 0, .int 0, .int 0, .null, .int 0, .long 0, .null]))]) hD hS hA [0] rfl
  refine va_callv (va_runI (As := [.int z.2.1, .int (nI z.2.2.1)]) (rest := [.ref q0]) ⟨hx, hb, hml, hown, hts⟩ (c_Programme_init l D B0 hG H.size q0 e0 z.2.1 (nI z.2.2.1) he0) (z_cI hN wd_571 wd_82 wd_619 hd_Programme_init rfl rfl ⟨Nat.le_of_ble_eq_true rfl, Nat.le_of_ble_eq_true rfl⟩ wd_570 rfl) (z_preSo hPc hKc hN hDc hO hS hAO) rfl rfl hl.1 rfl (lv_room (Nat.le_of_ble_eq_true rfl)) d_Programme_copied_12 ⟨Nat.le_of_ble_eq_true rfl, Nat.le_of_ble_eq_true rfl⟩) hS (fun q _ h => hFc q h) hFc (fun i9 t H locs ht hvm e12 hB hz1 hk1 hS => ?_)
  obtain ⟨hP1, hK1, hD1⟩ := hB
  rw [ht] at hP1
  obtain ⟨hP, hD⟩ := va_joinQ (cx := [(q0, .inr (7, [.int 0, .int 0, .int 0, .int 0, .null, .int 0, .long 0, .null]))]) (wr := []) (w1 := [(q0, .inr (7, [.int z.2.1, .int (nI z.2.2.1), .int (-1), .int (-1), .ref i9.1, .int 0, .long (-1), .ref i9.2])), (i9.1, .inr (12, [.ref e0, .int 0, .int 0])), (i9.2, .inr (12, [.ref e0, .int 0, .int 0]))]) hP hD [0] [] rfl rfl (by decide) (by decide) hk1 hFc hP1 hD1
  clear hk1 hP1 hD1 hFc hPc hDc hz1
  have hP : va_P D classes ([(q0, .inr (7, [.int z.2.1, .int (nI z.2.2.1), .int (-1), .int (-1), .ref i9.1, .int 0, .long (-1), .ref i9.2])), (i9.1, .inr (12, [.ref e0, .int 0, .int 0])), (i9.2, .inr (12, [.ref e0, .int 0, .int 0]))] ++ WS) H := hP
  have hD : va_D A ([(q0, .inr (7, [.int z.2.1, .int (nI z.2.2.1), .int (-1), .int (-1), .ref i9.1, .int 0, .long (-1), .ref i9.2])), (i9.1, .inr (12, [.ref e0, .int 0, .int 0])), (i9.2, .inr (12, [.ref e0, .int 0, .int 0]))] ++ WS) := hD
  refine lv_astore_n (lv' := [(1, .ref q0), (0, .ref z.1)]) hx hb d_Programme_copied_15 rfl hl (by decide) rfl (fun ls hl => ?_)
  refine lv_aload_n hx hb d_Programme_copied_16 rfl (lv_at hl 0 rfl) ?_
  have hm17 : (z.1, pgE z) ∈ ([(q0, .inr (7, [.int z.2.1, .int (nI z.2.2.1), .int (-1), .int (-1), .ref i9.1, .int 0, .long (-1), .ref i9.2])), (i9.1, .inr (12, [.ref e0, .int 0, .int 0])), (i9.2, .inr (12, [.ref e0, .int 0, .int 0]))] ++ WS) := List.mem_append_right _ hzm
  obtain ⟨q17z, hq17z⟩ := List.getElem?_of_mem hm17
  have hL17 : (z.2.2.2.2.2.2.2.2, alE wb Wl.length mo) ∈ ([(q0, .inr (7, [.int z.2.1, .int (nI z.2.2.1), .int (-1), .int (-1), .ref i9.1, .int 0, .long (-1), .ref i9.2])), (i9.1, .inr (12, [.ref e0, .int 0, .int 0])), (i9.2, .inr (12, [.ref e0, .int 0, .int 0]))] ++ WS) := List.mem_append_right _ hLm
  obtain ⟨q17w, hq17w⟩ := List.getElem?_of_mem hL17
  refine lv_aload_n hx hb d_Programme_copied_17 rfl (lv_at hl 1 rfl) ?_
  refine va_get (D := D) (ci := 7) (v := .int z.2.2.2.1) (C := R_Programme) (T := F_Programme) (N := 8) hx hb hts i_Programme hown hK hP q17z hq17z rfl 2 (by decide) (hts _ wd_581) (fun _ h9 => h9) rfl d_Programme_copied_18 ?_
  refine va_put (D := D) (ci := 7) (v := .int z.2.2.2.1) (ty := .int) (C := R_Programme) (T := F_Programme) (N := 8) hx hb hts i_Programme t_Programme t_Programme_ok n_Programme hown hK hP hD hS 0 rfl rfl 2 (by decide) (hts _ wd_581) (fun _ h9 => h9) rfl (by decide +kernel) rfl rfl (Nat.le_of_ble_eq_true rfl) d_Programme_copied_21 (fun H locs hP hD hS => ?_)
  have hP : va_P D classes ([(q0, .inr (7, [.int z.2.1, .int (nI z.2.2.1), .int z.2.2.2.1, .int (-1), .ref i9.1, .int 0, .long (-1), .ref i9.2])), (i9.1, .inr (12, [.ref e0, .int 0, .int 0])), (i9.2, .inr (12, [.ref e0, .int 0, .int 0]))] ++ WS) H := hP
  have hD : va_D A ([(q0, .inr (7, [.int z.2.1, .int (nI z.2.2.1), .int z.2.2.2.1, .int (-1), .ref i9.1, .int 0, .long (-1), .ref i9.2])), (i9.1, .inr (12, [.ref e0, .int 0, .int 0])), (i9.2, .inr (12, [.ref e0, .int 0, .int 0]))] ++ WS) := hD
  refine lv_aload_n hx hb d_Programme_copied_24 rfl (lv_at hl 0 rfl) ?_
  have hm25 : (z.1, pgE z) ∈ ([(q0, .inr (7, [.int z.2.1, .int (nI z.2.2.1), .int z.2.2.2.1, .int (-1), .ref i9.1, .int 0, .long (-1), .ref i9.2])), (i9.1, .inr (12, [.ref e0, .int 0, .int 0])), (i9.2, .inr (12, [.ref e0, .int 0, .int 0]))] ++ WS) := List.mem_append_right _ hzm
  obtain ⟨q25z, hq25z⟩ := List.getElem?_of_mem hm25
  have hL25 : (z.2.2.2.2.2.2.2.2, alE wb Wl.length mo) ∈ ([(q0, .inr (7, [.int z.2.1, .int (nI z.2.2.1), .int z.2.2.2.1, .int (-1), .ref i9.1, .int 0, .long (-1), .ref i9.2])), (i9.1, .inr (12, [.ref e0, .int 0, .int 0])), (i9.2, .inr (12, [.ref e0, .int 0, .int 0]))] ++ WS) := List.mem_append_right _ hLm
  obtain ⟨q25w, hq25w⟩ := List.getElem?_of_mem hL25
  refine lv_aload_n hx hb d_Programme_copied_25 rfl (lv_at hl 1 rfl) ?_
  refine va_get (D := D) (ci := 7) (v := .int z.2.2.2.2.1) (C := R_Programme) (T := F_Programme) (N := 8) hx hb hts i_Programme hown hK hP q25z hq25z rfl 3 (by decide) (hts _ wd_584) (fun _ h9 => h9) rfl d_Programme_copied_26 ?_
  refine va_put (D := D) (ci := 7) (v := .int z.2.2.2.2.1) (ty := .int) (C := R_Programme) (T := F_Programme) (N := 8) hx hb hts i_Programme t_Programme t_Programme_ok n_Programme hown hK hP hD hS 0 rfl rfl 3 (by decide) (hts _ wd_584) (fun _ h9 => h9) rfl (by decide +kernel) rfl rfl (Nat.le_of_ble_eq_true rfl) d_Programme_copied_29 (fun H locs hP hD hS => ?_)
  have hP : va_P D classes ([(q0, .inr (7, [.int z.2.1, .int (nI z.2.2.1), .int z.2.2.2.1, .int z.2.2.2.2.1, .ref i9.1, .int 0, .long (-1), .ref i9.2])), (i9.1, .inr (12, [.ref e0, .int 0, .int 0])), (i9.2, .inr (12, [.ref e0, .int 0, .int 0]))] ++ WS) H := hP
  have hD : va_D A ([(q0, .inr (7, [.int z.2.1, .int (nI z.2.2.1), .int z.2.2.2.1, .int z.2.2.2.2.1, .ref i9.1, .int 0, .long (-1), .ref i9.2])), (i9.1, .inr (12, [.ref e0, .int 0, .int 0])), (i9.2, .inr (12, [.ref e0, .int 0, .int 0]))] ++ WS) := hD
  refine lv_aload_n hx hb d_Programme_copied_32 rfl (lv_at hl 0 rfl) ?_
  have hm33 : (z.1, pgE z) ∈ ([(q0, .inr (7, [.int z.2.1, .int (nI z.2.2.1), .int z.2.2.2.1, .int z.2.2.2.2.1, .ref i9.1, .int 0, .long (-1), .ref i9.2])), (i9.1, .inr (12, [.ref e0, .int 0, .int 0])), (i9.2, .inr (12, [.ref e0, .int 0, .int 0]))] ++ WS) := List.mem_append_right _ hzm
  obtain ⟨q33z, hq33z⟩ := List.getElem?_of_mem hm33
  have hL33 : (z.2.2.2.2.2.2.2.2, alE wb Wl.length mo) ∈ ([(q0, .inr (7, [.int z.2.1, .int (nI z.2.2.1), .int z.2.2.2.1, .int z.2.2.2.2.1, .ref i9.1, .int 0, .long (-1), .ref i9.2])), (i9.1, .inr (12, [.ref e0, .int 0, .int 0])), (i9.2, .inr (12, [.ref e0, .int 0, .int 0]))] ++ WS) := List.mem_append_right _ hLm
  obtain ⟨q33w, hq33w⟩ := List.getElem?_of_mem hL33
  refine lv_aload_n hx hb d_Programme_copied_33 rfl (lv_at hl 1 rfl) ?_
  refine va_get (D := D) (ci := 7) (v := .ref z.2.2.2.2.2.1) (C := R_Programme) (T := F_Programme) (N := 8) hx hb hts i_Programme hown hK hP q33z hq33z rfl 4 (by decide) (hts _ wd_587) (fun _ h9 => h9) rfl d_Programme_copied_34 ?_
  refine va_put (D := D) (ci := 7) (v := .ref z.2.2.2.2.2.1) (ty := (.object "java/util/ArrayList")) (C := R_Programme) (T := F_Programme) (N := 8) hx hb hts i_Programme t_Programme t_Programme_ok n_Programme hown hK hP hD hS 0 rfl rfl 4 (by decide) (hts _ wd_587) (fun _ h9 => h9) rfl (by decide +kernel) rfl rfl (Nat.le_of_ble_eq_true rfl) d_Programme_copied_37 (fun H locs hP hD hS => ?_)
  have hP : va_P D classes ([(q0, .inr (7, [.int z.2.1, .int (nI z.2.2.1), .int z.2.2.2.1, .int z.2.2.2.2.1, .ref z.2.2.2.2.2.1, .int 0, .long (-1), .ref i9.2])), (i9.1, .inr (12, [.ref e0, .int 0, .int 0])), (i9.2, .inr (12, [.ref e0, .int 0, .int 0]))] ++ WS) H := hP
  have hD : va_D A ([(q0, .inr (7, [.int z.2.1, .int (nI z.2.2.1), .int z.2.2.2.1, .int z.2.2.2.2.1, .ref z.2.2.2.2.2.1, .int 0, .long (-1), .ref i9.2])), (i9.1, .inr (12, [.ref e0, .int 0, .int 0])), (i9.2, .inr (12, [.ref e0, .int 0, .int 0]))] ++ WS) := hD
  refine lv_aload_n hx hb d_Programme_copied_40 rfl (lv_at hl 0 rfl) ?_
  have hm41 : (z.1, pgE z) ∈ ([(q0, .inr (7, [.int z.2.1, .int (nI z.2.2.1), .int z.2.2.2.1, .int z.2.2.2.2.1, .ref z.2.2.2.2.2.1, .int 0, .long (-1), .ref i9.2])), (i9.1, .inr (12, [.ref e0, .int 0, .int 0])), (i9.2, .inr (12, [.ref e0, .int 0, .int 0]))] ++ WS) := List.mem_append_right _ hzm
  obtain ⟨q41z, hq41z⟩ := List.getElem?_of_mem hm41
  have hL41 : (z.2.2.2.2.2.2.2.2, alE wb Wl.length mo) ∈ ([(q0, .inr (7, [.int z.2.1, .int (nI z.2.2.1), .int z.2.2.2.1, .int z.2.2.2.2.1, .ref z.2.2.2.2.2.1, .int 0, .long (-1), .ref i9.2])), (i9.1, .inr (12, [.ref e0, .int 0, .int 0])), (i9.2, .inr (12, [.ref e0, .int 0, .int 0]))] ++ WS) := List.mem_append_right _ hLm
  obtain ⟨q41w, hq41w⟩ := List.getElem?_of_mem hL41
  refine lv_aload_n hx hb d_Programme_copied_41 rfl (lv_at hl 1 rfl) ?_
  refine va_get (D := D) (ci := 7) (v := .int z.2.2.2.2.2.2.1) (C := R_Programme) (T := F_Programme) (N := 8) hx hb hts i_Programme hown hK hP q41z hq41z rfl 5 (by decide) (hts _ wd_590) (fun _ h9 => h9) rfl d_Programme_copied_42 ?_
  refine va_put (D := D) (ci := 7) (v := .int z.2.2.2.2.2.2.1) (ty := .boolean) (C := R_Programme) (T := F_Programme) (N := 8) hx hb hts i_Programme t_Programme t_Programme_ok n_Programme hown hK hP hD hS 0 rfl rfl 5 (by decide) (hts _ wd_590) (fun _ h9 => h9) rfl (by decide +kernel) (by rcases haw with q9 | q9 <;> rw [q9] <;> rfl) (by rcases haw with q9 | q9 <;> rw [q9] <;> rfl) (Nat.le_of_ble_eq_true rfl) d_Programme_copied_45 (fun H locs hP hD hS => ?_)
  have hP : va_P D classes ([(q0, .inr (7, [.int z.2.1, .int (nI z.2.2.1), .int z.2.2.2.1, .int z.2.2.2.2.1, .ref z.2.2.2.2.2.1, .int z.2.2.2.2.2.2.1, .long (-1), .ref i9.2])), (i9.1, .inr (12, [.ref e0, .int 0, .int 0])), (i9.2, .inr (12, [.ref e0, .int 0, .int 0]))] ++ WS) H := hP
  have hD : va_D A ([(q0, .inr (7, [.int z.2.1, .int (nI z.2.2.1), .int z.2.2.2.1, .int z.2.2.2.2.1, .ref z.2.2.2.2.2.1, .int z.2.2.2.2.2.2.1, .long (-1), .ref i9.2])), (i9.1, .inr (12, [.ref e0, .int 0, .int 0])), (i9.2, .inr (12, [.ref e0, .int 0, .int 0]))] ++ WS) := hD
  refine lv_aload_n hx hb d_Programme_copied_48 rfl (lv_at hl 0 rfl) ?_
  have hm49 : (z.1, pgE z) ∈ ([(q0, .inr (7, [.int z.2.1, .int (nI z.2.2.1), .int z.2.2.2.1, .int z.2.2.2.2.1, .ref z.2.2.2.2.2.1, .int z.2.2.2.2.2.2.1, .long (-1), .ref i9.2])), (i9.1, .inr (12, [.ref e0, .int 0, .int 0])), (i9.2, .inr (12, [.ref e0, .int 0, .int 0]))] ++ WS) := List.mem_append_right _ hzm
  obtain ⟨q49z, hq49z⟩ := List.getElem?_of_mem hm49
  have hL49 : (z.2.2.2.2.2.2.2.2, alE wb Wl.length mo) ∈ ([(q0, .inr (7, [.int z.2.1, .int (nI z.2.2.1), .int z.2.2.2.1, .int z.2.2.2.2.1, .ref z.2.2.2.2.2.1, .int z.2.2.2.2.2.2.1, .long (-1), .ref i9.2])), (i9.1, .inr (12, [.ref e0, .int 0, .int 0])), (i9.2, .inr (12, [.ref e0, .int 0, .int 0]))] ++ WS) := List.mem_append_right _ hLm
  obtain ⟨q49w, hq49w⟩ := List.getElem?_of_mem hL49
  refine lv_aload_n hx hb d_Programme_copied_49 rfl (lv_at hl 1 rfl) ?_
  refine va_get (D := D) (ci := 7) (v := .long z.2.2.2.2.2.2.2.1) (C := R_Programme) (T := F_Programme) (N := 8) hx hb hts i_Programme hown hK hP q49z hq49z rfl 6 (by decide) (hts _ wd_592) (fun _ h9 => h9) rfl d_Programme_copied_50 ?_
  refine va_put (D := D) (ci := 7) (v := .long z.2.2.2.2.2.2.2.1) (ty := .long) (C := R_Programme) (T := F_Programme) (N := 8) hx hb hts i_Programme t_Programme t_Programme_ok n_Programme hown hK hP hD hS 0 rfl rfl 6 (by decide) (hts _ wd_592) (fun _ h9 => h9) rfl (by decide +kernel) rfl rfl (Nat.le_of_ble_eq_true rfl) d_Programme_copied_53 (fun H locs hP hD hS => ?_)
  have hP : va_P D classes ([(q0, .inr (7, [.int z.2.1, .int (nI z.2.2.1), .int z.2.2.2.1, .int z.2.2.2.2.1, .ref z.2.2.2.2.2.1, .int z.2.2.2.2.2.2.1, .long z.2.2.2.2.2.2.2.1, .ref i9.2])), (i9.1, .inr (12, [.ref e0, .int 0, .int 0])), (i9.2, .inr (12, [.ref e0, .int 0, .int 0]))] ++ WS) H := hP
  have hD : va_D A ([(q0, .inr (7, [.int z.2.1, .int (nI z.2.2.1), .int z.2.2.2.1, .int z.2.2.2.2.1, .ref z.2.2.2.2.2.1, .int z.2.2.2.2.2.2.1, .long z.2.2.2.2.2.2.2.1, .ref i9.2])), (i9.1, .inr (12, [.ref e0, .int 0, .int 0])), (i9.2, .inr (12, [.ref e0, .int 0, .int 0]))] ++ WS) := hD
  refine lv_iconst (v := 0) hx hb d_Programme_copied_56 (by decide) ?_
  refine lv_istore_n (lv' := [(2, .int 0), (1, .ref q0), (0, .ref z.1)]) hx hb d_Programme_copied_57 rfl hl (by decide) rfl (fun ls hl => ?_)
  have hP := hP.part (cx := [(q0, .inr (7, [.int z.2.1, .int (nI z.2.2.1), .int z.2.2.2.1, .int z.2.2.2.2.1, .ref z.2.2.2.2.2.1, .int z.2.2.2.2.2.2.1, .long z.2.2.2.2.2.2.2.1, .ref i9.2])), (i9.2, .inr (12, [.ref e0, .int 0, .int 0]))]) [0, 2] rfl
  have hD := hD.part (cx := [(q0, .inr (7, [.int z.2.1, .int (nI z.2.2.1), .int z.2.2.2.1, .int z.2.2.2.2.1, .ref z.2.2.2.2.2.1, .int z.2.2.2.2.2.2.1, .long z.2.2.2.2.2.2.2.1, .ref i9.2])), (i9.2, .inr (12, [.ref e0, .int 0, .int 0]))]) [0, 2] (by decide) rfl
  have hP : va_P D classes ([(q0, .inr (7, [.int z.2.1, .int (nI z.2.2.1), .int z.2.2.2.1, .int z.2.2.2.2.1, .ref z.2.2.2.2.2.1, .int z.2.2.2.2.2.2.1, .long z.2.2.2.2.2.2.2.1, .ref i9.2]))] ++ (wlc cO e0 i9.2 0 0 none ++ WS)) H := hP
  have hD : va_D A ([(q0, .inr (7, [.int z.2.1, .int (nI z.2.2.1), .int z.2.2.2.1, .int z.2.2.2.2.1, .ref z.2.2.2.2.2.1, .int z.2.2.2.2.2.2.1, .long z.2.2.2.2.2.2.2.1, .ref i9.2]))] ++ (wlc cO e0 i9.2 0 0 none ++ WS)) := hD
  have loop58 : ∀ (N : Nat) (j : Nat) (mo1 : Int32) (wst1 : Option (Nat × (Nat → Option Nat))) (H : Heap) (locs : List Loc) (ls : Array Slot) (hm : Wl.length - j < N) (hj : j ≤ Wl.length) (hwk : wok WS wst1 (Wl.take j)) (hl : lv_has ls 3 [(0, .ref z.1), (1, .ref q0), (2, .int (nI j))]) (hP : va_P D classes ([(q0, .inr (7, [.int z.2.1, .int (nI z.2.2.1), .int z.2.2.2.1, .int z.2.2.2.2.1, .ref z.2.2.2.2.2.1, .int z.2.2.2.2.2.2.1, .long z.2.2.2.2.2.2.2.1, .ref i9.2]))] ++ (wlc cO e0 i9.2 j mo1 wst1 ++ WS)) H) (hD : va_D A ([(q0, .inr (7, [.int z.2.1, .int (nI z.2.2.1), .int z.2.2.2.1, .int z.2.2.2.2.1, .ref z.2.2.2.2.2.1, .int z.2.2.2.2.2.2.1, .long z.2.2.2.2.2.2.2.1, .ref i9.2]))] ++ (wlc cO e0 i9.2 j mo1 wst1 ++ WS))) (hS : va_S A s.heap H locs), W p l e ({ frames := 5, cells := 4, slots := 24, locals := 101 }) s m ([.ref z.1]).toArray below meth cd H locs (3 + scn wst1) (14 + 10 * scn wst1) (MQ below (va_Qr (fun (u : Nat × Int32 × Option (Nat × (Nat → Option Nat))) => wok WS u.2.2 Wl) (fun (u : Nat × Int32 × Option (Nat × (Nat → Option Nat))) ra t => zW D (A) ([(ra, .inr (7, [.int z.2.1, .int (nI z.2.2.1), .int z.2.2.2.1, .int z.2.2.2.2.1, .ref z.2.2.2.2.2.1, .int z.2.2.2.2.2.2.1, .long z.2.2.2.2.2.2.2.1, .ref u.1]))] ++ (wlc cO e0 u.1 Wl.length u.2.1 u.2.2 ++ WS)) [(cO, .object "java/lang/Object")] t) (A)) ([.ref z.1]).toArray s 4 24 (A)) (F0 m 58 ls []) := by
    intro N58
    induction N58 with
    | zero => intro j mo1 wst1 H locs ls hm hj hwk hl hP hD hS; exact absurd hm (Nat.not_lt_zero _)
    | succ N58 ih58 =>
      intro j mo1 wst1 H locs ls hm hj hwk hl hP hD hS
      refine lv_iload_n hx hb d_Programme_copied_58 rfl (lv_at hl 2 rfl) ?_
      have hm59 : (z.1, pgE z) ∈ ([(q0, .inr (7, [.int z.2.1, .int (nI z.2.2.1), .int z.2.2.2.1, .int z.2.2.2.2.1, .ref z.2.2.2.2.2.1, .int z.2.2.2.2.2.2.1, .long z.2.2.2.2.2.2.2.1, .ref i9.2]))] ++ (wlc cO e0 i9.2 j mo1 wst1 ++ WS)) := List.mem_append_right _ (List.mem_append_right _ hzm)
      obtain ⟨q59z, hq59z⟩ := List.getElem?_of_mem hm59
      have hL59 : (z.2.2.2.2.2.2.2.2, alE wb Wl.length mo) ∈ ([(q0, .inr (7, [.int z.2.1, .int (nI z.2.2.1), .int z.2.2.2.1, .int z.2.2.2.2.1, .ref z.2.2.2.2.2.1, .int z.2.2.2.2.2.2.1, .long z.2.2.2.2.2.2.2.1, .ref i9.2]))] ++ (wlc cO e0 i9.2 j mo1 wst1 ++ WS)) := List.mem_append_right _ (List.mem_append_right _ hLm)
      obtain ⟨q59w, hq59w⟩ := List.getElem?_of_mem hL59
      refine lv_aload_n hx hb d_Programme_copied_59 rfl (lv_at hl 0 rfl) ?_
      refine va_get (D := D) (ci := 7) (v := .ref z.2.2.2.2.2.2.2.2) (C := R_Programme) (T := F_Programme) (N := 8) hx hb hts i_Programme hown hK hP q59z hq59z rfl 7 (by decide) (hts _ wd_595) (fun _ h9 => h9) rfl d_Programme_copied_60 ?_
      have hPc : va_P D classes [(z.2.2.2.2.2.2.2.2, .inr (12, [.ref wb, .int (nI Wl.length), .int mo]))] H := z_Pm1 hL59 hP
      have hKc := hK.sub (tys' := []) [] rfl
      refine z_ci (va_runV (As := []) (rest := [.int (nI j)]) ⟨hx, hb, hml, hown, hts⟩ (c_AL_size l D z.2.2.2.2.2.2.2.2 wb (nI Wl.length) mo ) (z_cV hN wd_305 wd_66 wd_329 hd_AL_size rfl rfl ⟨Nat.le_of_ble_eq_true rfl, Nat.le_of_ble_eq_true rfl⟩ wd_303 wd_304) (z_preV (va_recv (ci := 12) (q0 := q59w) hK hP rfl hq59w) hPc hKc hN) rfl rfl hl.1 rfl (lv_room (Nat.le_of_ble_eq_true rfl)) d_Programme_copied_63 ⟨by have := scn_le wst1; show 3 + scn wst1 + 0 ≤ 4; omega, by have := scn_le wst1; show 14 + 10 * scn wst1 + 0 ≤ 24; omega⟩) (fun r63 e63 => ?_)
      refine z_topi (w := (nI Wl.length)) e63 ?_
      refine lv_icmp_ge (tgt := 94) hx hb d_Programme_copied_66 rfl (fun h66 => ?_) (fun h66 => ?_)
      · have h66 := (nI_leI (by omega) (by omega)).mp h66
        obtain rfl : j = Wl.length := by omega
        have hP : va_P D classes ([(q0, .inr (7, [.int z.2.1, .int (nI z.2.2.1), .int z.2.2.2.1, .int z.2.2.2.2.1, .ref z.2.2.2.2.2.1, .int z.2.2.2.2.2.2.1, .long z.2.2.2.2.2.2.2.1, .ref i9.2]))] ++ (wlc cO e0 i9.2 Wl.length mo1 wst1 ++ WS)) H := hP
        have hD : va_D A ([(q0, .inr (7, [.int z.2.1, .int (nI z.2.2.1), .int z.2.2.2.1, .int z.2.2.2.2.1, .ref z.2.2.2.2.2.1, .int z.2.2.2.2.2.2.1, .long z.2.2.2.2.2.2.2.1, .ref i9.2]))] ++ (wlc cO e0 i9.2 Wl.length mo1 wst1 ++ WS)) := hD
        refine lv_aload_n hx hb d_Programme_copied_94 rfl (lv_at hl 1 rfl) ?_
        have hP9 := hP.part (cx := [(q0, .inr (7, [.int z.2.1, .int (nI z.2.2.1), .int z.2.2.2.1, .int z.2.2.2.2.1, .ref z.2.2.2.2.2.1, .int z.2.2.2.2.2.2.1, .long z.2.2.2.2.2.2.2.1, .ref i9.2]))]) [0] rfl
        have hD9 := hD.part (cx := [(q0, .inr (7, [.int z.2.1, .int (nI z.2.2.1), .int z.2.2.2.1, .int z.2.2.2.2.1, .ref z.2.2.2.2.2.1, .int z.2.2.2.2.2.2.1, .long z.2.2.2.2.2.2.2.1, .ref i9.2]))]) [0] (by decide) rfl
        have hK9 := hK.sub (tys' := [(cO, .object "java/lang/Object")]) [0] rfl
        refine W.widen (k := 4) (n := 24) (by have := scn_le wst1; show 3 + scn wst1 ≤ 4; omega) (by have := scn_le wst1; show 14 + 10 * scn wst1 ≤ 24; omega) ?_
        exact W.aret (v := (.ref q0)) hx hb hr (Or.inl ⟨_, rfl⟩) (Or.inr ⟨_, rfl⟩) (fun t ht hW => ⟨⟨(i9.2, mo1, wst1), _, rfl, (by have z9 := hwk; rw [List.take_length] at z9; exact z9), ⟨by rw [ht]; exact hP9, va_K.moved hW.alike hK9, hD9⟩⟩, hS.F ht⟩) hS.2.2 d_Programme_copied_95
      · have h66 : j < Wl.length := by have := mt (nI_leI (a := Wl.length) (by omega) (by omega)).mpr h66; omega
        cases wst1 with
        | none =>
          obtain rfl : j = 0 := cp_0 hwk h66
          have hP : va_P D classes ([(q0, .inr (7, [.int z.2.1, .int (nI z.2.2.1), .int z.2.2.2.1, .int z.2.2.2.2.1, .ref z.2.2.2.2.2.1, .int z.2.2.2.2.2.2.1, .long z.2.2.2.2.2.2.2.1, .ref i9.2])), (i9.2, .inr (12, [.ref e0, .int 0, .int mo1]))] ++ WS) H := hP
          have hD : va_D A ([(q0, .inr (7, [.int z.2.1, .int (nI z.2.2.1), .int z.2.2.2.1, .int z.2.2.2.2.1, .ref z.2.2.2.2.2.1, .int z.2.2.2.2.2.2.1, .long z.2.2.2.2.2.2.2.1, .ref i9.2])), (i9.2, .inr (12, [.ref e0, .int 0, .int mo1]))] ++ WS) := hD
          refine lv_aload_n hx hb d_Programme_copied_69 rfl (lv_at hl 1 rfl) ?_
          refine va_get (D := D) (ci := 7) (v := .ref i9.2) (C := R_Programme) (T := F_Programme) (N := 8) hx hb hts i_Programme hown hK hP 0 rfl rfl 7 (by decide) (hts _ wd_595) (fun _ h9 => h9) rfl d_Programme_copied_70 ?_
          have hm73 : (z.1, pgE z) ∈ ([(q0, .inr (7, [.int z.2.1, .int (nI z.2.2.1), .int z.2.2.2.1, .int z.2.2.2.2.1, .ref z.2.2.2.2.2.1, .int z.2.2.2.2.2.2.1, .long z.2.2.2.2.2.2.2.1, .ref i9.2])), (i9.2, .inr (12, [.ref e0, .int 0, .int mo1]))] ++ WS) := List.mem_append_right _ hzm
          obtain ⟨q73z, hq73z⟩ := List.getElem?_of_mem hm73
          have hL73 : (z.2.2.2.2.2.2.2.2, alE wb Wl.length mo) ∈ ([(q0, .inr (7, [.int z.2.1, .int (nI z.2.2.1), .int z.2.2.2.1, .int z.2.2.2.2.1, .ref z.2.2.2.2.2.1, .int z.2.2.2.2.2.2.1, .long z.2.2.2.2.2.2.2.1, .ref i9.2])), (i9.2, .inr (12, [.ref e0, .int 0, .int mo1]))] ++ WS) := List.mem_append_right _ hLm
          obtain ⟨q73w, hq73w⟩ := List.getElem?_of_mem hL73
          refine lv_aload_n hx hb d_Programme_copied_73 rfl (lv_at hl 0 rfl) ?_
          refine va_get (D := D) (ci := 7) (v := .ref z.2.2.2.2.2.2.2.2) (C := R_Programme) (T := F_Programme) (N := 8) hx hb hts i_Programme hown hK hP q73z hq73z rfl 7 (by decide) (hts _ wd_595) (fun _ h9 => h9) rfl d_Programme_copied_74 ?_
          refine lv_iload_n hx hb d_Programme_copied_77 rfl (lv_at hl 2 rfl) ?_
          obtain ⟨hga, ham⟩ := hE 0 h66
          obtain ⟨q2, hq2⟩ := List.getElem?_of_mem (List.mem_append_right [(q0, .inr (7, [.int z.2.1, .int (nI z.2.2.1), .int z.2.2.2.1, .int z.2.2.2.2.1, .ref z.2.2.2.2.2.1, .int z.2.2.2.2.2.2.1, .long z.2.2.2.2.2.2.2.1, .ref i9.2])), (i9.2, .inr (12, [.ref e0, .int 0, .int mo1]))] ham)
          have hA9 : (wb, arE cO g) ∈ ([(q0, .inr (7, [.int z.2.1, .int (nI z.2.2.1), .int z.2.2.2.1, .int z.2.2.2.2.1, .ref z.2.2.2.2.2.1, .int z.2.2.2.2.2.2.1, .long z.2.2.2.2.2.2.2.1, .ref i9.2])), (i9.2, .inr (12, [.ref e0, .int 0, .int mo1]))] ++ WS) := List.mem_append_right _ (hLa.resolve_left (by omega))
          have hPc : va_P D classes [(z.2.2.2.2.2.2.2.2, .inr (12, [.ref wb, .int (nI Wl.length), .int mo])), (wb, .inl (cO, 10, .inr (.inr (.inr (.inr g)))))] H := z_Pm2 hL73 hA9 hP
          have hKc := hK.sub (tys' := [(cO, .object "java/lang/Object")]) [0] rfl
          refine z_cq (va_runV (As := [.int (nI 0)]) (rest := [.ref i9.2]) ⟨hx, hb, hml, hown, hts⟩ (c_AL_get l D cO z.2.2.2.2.2.2.2.2 wb Wl.length mo g 0 h66 (by omega)) (z_cV hN wd_309 wd_66 wd_330 hd_AL_get rfl rfl ⟨Nat.le_of_ble_eq_true rfl, Nat.le_of_ble_eq_true rfl⟩ wd_307 wd_308) (z_preV (va_recv (ci := 12) (q0 := q73w) hK hP rfl hq73w) hPc hKc hN) rfl rfl hl.1 rfl (lv_room (Nat.le_of_ble_eq_true rfl)) d_Programme_copied_78 ⟨Nat.le_of_ble_eq_true rfl, Nat.le_of_ble_eq_true rfl⟩) (fun r78 e78 => ?_)
          subst e78
          refine z_topq (w := some ((Wl.getD 0 (0, oz0)).1)) hga ?_
          refine va_castY hx hb hown (hts _ wd_417) (hN _ wd_1487) (va_recv (ci := 6) (q0 := q2) hK hP rfl hq2) d_Programme_copied_81 ?_
          obtain ⟨WR, hWR⟩ := z_foc (hE 0 h66).2
          have hP := z_Pp (hWR [(q0, .inr (7, [.int z.2.1, .int (nI z.2.2.1), .int z.2.2.2.1, .int z.2.2.2.2.1, .ref z.2.2.2.2.2.1, .int z.2.2.2.2.2.2.1, .long z.2.2.2.2.2.2.2.1, .ref i9.2])), (i9.2, .inr (12, [.ref e0, .int 0, .int mo1]))]) hP
          have hD := z_Dp (hWR [(q0, .inr (7, [.int z.2.1, .int (nI z.2.2.1), .int z.2.2.2.1, .int z.2.2.2.2.1, .ref z.2.2.2.2.2.1, .int z.2.2.2.2.2.2.1, .long z.2.2.2.2.2.2.2.1, .ref i9.2])), (i9.2, .inr (12, [.ref e0, .int 0, .int mo1]))]) hD
          have hP : va_P D classes ([(q0, .inr (7, [.int z.2.1, .int (nI z.2.2.1), .int z.2.2.2.1, .int z.2.2.2.2.1, .ref z.2.2.2.2.2.1, .int z.2.2.2.2.2.2.1, .long z.2.2.2.2.2.2.2.1, .ref i9.2])), (i9.2, .inr (12, [.ref e0, .int 0, .int mo1])), ((Wl.getD 0 (0, oz0)).1, .inr (6, [.long ((Wl.getD 0 (0, oz0)).2.1), .int ((Wl.getD 0 (0, oz0)).2.2.1), .int ((Wl.getD 0 (0, oz0)).2.2.2.1), .long ((Wl.getD 0 (0, oz0)).2.2.2.2)]))] ++ WR) H := hP
          have hD : va_D A ([(q0, .inr (7, [.int z.2.1, .int (nI z.2.2.1), .int z.2.2.2.1, .int z.2.2.2.2.1, .ref z.2.2.2.2.2.1, .int z.2.2.2.2.2.2.1, .long z.2.2.2.2.2.2.2.1, .ref i9.2])), (i9.2, .inr (12, [.ref e0, .int 0, .int mo1])), ((Wl.getD 0 (0, oz0)).1, .inr (6, [.long ((Wl.getD 0 (0, oz0)).2.1), .int ((Wl.getD 0 (0, oz0)).2.2.1), .int ((Wl.getD 0 (0, oz0)).2.2.2.1), .long ((Wl.getD 0 (0, oz0)).2.2.2.2)]))] ++ WR) := hD
          have hPc := hP.sub (ws' := [(i9.2, .inr (12, [.ref e0, .int 0, .int mo1])), (((Wl.getD 0 (0, oz0)).1), .inr (6, [.long (Wl.getD 0 (0, oz0)).2.1, .int (Wl.getD 0 (0, oz0)).2.2.1, .int (Wl.getD 0 (0, oz0)).2.2.2.1, .long (Wl.getD 0 (0, oz0)).2.2.2.2]))]) [1, 2] rfl
          have hKc := hK.sub (tys' := [(cO, .object "java/lang/Object")]) [0] rfl
          have hDc := hD.sub (ws' := [(i9.2, .inr (12, [.ref e0, .int 0, .int mo1])), (((Wl.getD 0 (0, oz0)).1), .inr (6, [.long (Wl.getD 0 (0, oz0)).2.1, .int (Wl.getD 0 (0, oz0)).2.2.1, .int (Wl.getD 0 (0, oz0)).2.2.2.1, .long (Wl.getD 0 (0, oz0)).2.2.2.2]))]) [1, 2] (by decide) rfl
          have hFc := va_free (wc := [(i9.2, .inr (12, [.ref e0, .int 0, .int mo1])), (((Wl.getD 0 (0, oz0)).1), .inr (6, [.long (Wl.getD 0 (0, oz0)).2.1, .int (Wl.getD 0 (0, oz0)).2.2.1, .int (Wl.getD 0 (0, oz0)).2.2.2.1, .long (Wl.getD 0 (0, oz0)).2.2.2.2]))]) hD hS hA [1, 2] rfl
          refine va_calli (va_runV (As := [.ref ((Wl.getD 0 (0, oz0)).1)]) (rest := []) ⟨hx, hb, hml, hown, hts⟩ (c_AL_add0e l D B0 hG H.size cO i9.2 e0 mo1 ((Wl.getD 0 (0, oz0)).1) 6 [.long (Wl.getD 0 (0, oz0)).2.1, .int (Wl.getD 0 (0, oz0)).2.2.1, .int (Wl.getD 0 (0, oz0)).2.2.2.1, .long (Wl.getD 0 (0, oz0)).2.2.2.2] (R_Order, F_Order, 4) he0 rfl wd_1500) (z_cV hN wd_465 wd_66 wd_462 hd_AL_add0 rfl rfl ⟨Nat.le_of_ble_eq_true rfl, Nat.le_of_ble_eq_true rfl⟩ wd_463 wd_464) (z_preVo (va_recv (ci := 12) (q0 := 1) hK hP rfl rfl) hPc hKc hN hDc hO hS hAO) rfl rfl hl.1 rfl (lv_room (Nat.le_of_ble_eq_true rfl)) d_Programme_copied_84 ⟨Nat.le_of_ble_eq_true rfl, Nat.le_of_ble_eq_true rfl⟩) hS (fun q _ h => hFc q h) hFc (fun r84 q9 t H locs ht hvm e84 hB hz1 hk1 hS => ?_)
          obtain ⟨hP1, hK1, hD1⟩ := hB
          rw [ht] at hP1
          obtain ⟨hP, hD⟩ := va_joinQ (cx := [(i9.2, .inr (12, [.ref e0, .int 0, .int mo1])), (((Wl.getD 0 (0, oz0)).1), .inr (6, [.long (Wl.getD 0 (0, oz0)).2.1, .int (Wl.getD 0 (0, oz0)).2.2.1, .int (Wl.getD 0 (0, oz0)).2.2.2.1, .long (Wl.getD 0 (0, oz0)).2.2.2.2]))]) (wr := [(q0, .inr (7, [.int z.2.1, .int (nI z.2.2.1), .int z.2.2.2.1, .int z.2.2.2.2.1, .ref z.2.2.2.2.2.1, .int z.2.2.2.2.2.2.1, .long z.2.2.2.2.2.2.2.1, .ref i9.2]))]) (w1 := [(i9.2, .inr (12, [.ref q9, .int 1, .int (mo1 + 1)])), (q9, .inl (cO, 10, .inr (.inr (.inr (.inr (va_up (fun _ => none) 0 (some ((Wl.getD 0 (0, oz0)).1)))))))), (((Wl.getD 0 (0, oz0)).1), .inr (6, [.long (Wl.getD 0 (0, oz0)).2.1, .int (Wl.getD 0 (0, oz0)).2.2.1, .int (Wl.getD 0 (0, oz0)).2.2.2.1, .long (Wl.getD 0 (0, oz0)).2.2.2.2]))]) hP hD [1, 2] [0] rfl rfl (by decide) (by decide) hk1 hFc hP1 hD1
          clear hk1 hP1 hD1 hFc hPc hDc hz1
          have hP : va_P D classes ([(q0, .inr (7, [.int z.2.1, .int (nI z.2.2.1), .int z.2.2.2.1, .int z.2.2.2.2.1, .ref z.2.2.2.2.2.1, .int z.2.2.2.2.2.2.1, .long z.2.2.2.2.2.2.2.1, .ref i9.2])), (i9.2, .inr (12, [.ref q9, .int 1, .int (mo1 + 1)])), (q9, .inl (cO, 10, .inr (.inr (.inr (.inr (va_up (fun _ => none) 0 (some ((Wl.getD 0 (0, oz0)).1)))))))), (((Wl.getD 0 (0, oz0)).1), .inr (6, [.long (Wl.getD 0 (0, oz0)).2.1, .int (Wl.getD 0 (0, oz0)).2.2.1, .int (Wl.getD 0 (0, oz0)).2.2.2.1, .long (Wl.getD 0 (0, oz0)).2.2.2.2]))] ++ WR) H := hP
          have hD : va_D A ([(q0, .inr (7, [.int z.2.1, .int (nI z.2.2.1), .int z.2.2.2.1, .int z.2.2.2.2.1, .ref z.2.2.2.2.2.1, .int z.2.2.2.2.2.2.1, .long z.2.2.2.2.2.2.2.1, .ref i9.2])), (i9.2, .inr (12, [.ref q9, .int 1, .int (mo1 + 1)])), (q9, .inl (cO, 10, .inr (.inr (.inr (.inr (va_up (fun _ => none) 0 (some ((Wl.getD 0 (0, oz0)).1)))))))), (((Wl.getD 0 (0, oz0)).1), .inr (6, [.long (Wl.getD 0 (0, oz0)).2.1, .int (Wl.getD 0 (0, oz0)).2.2.1, .int (Wl.getD 0 (0, oz0)).2.2.2.1, .long (Wl.getD 0 (0, oz0)).2.2.2.2]))] ++ WR) := hD
          refine lv_pop hx hb d_Programme_copied_87 rfl ?_
          refine lv_iinc (k := 2) (v := nI (0 + 1)) (lv' := [(2, .int (nI (0 + 1))), (0, .ref z.1), (1, .ref q0)]) hx hb d_Programme_copied_88 hl rfl (nI_1 0) (by decide) rfl (fun ls hl => ?_)
          refine lv_goto (tgt := 58) hx hb d_Programme_copied_91 rfl ?_
          have hP := z_Pp (hWR [(q0, .inr (7, [.int z.2.1, .int (nI z.2.2.1), .int z.2.2.2.1, .int z.2.2.2.2.1, .ref z.2.2.2.2.2.1, .int z.2.2.2.2.2.2.1, .long z.2.2.2.2.2.2.2.1, .ref i9.2])), (i9.2, .inr (12, [.ref q9, .int 1, .int (mo1 + 1)])), (q9, .inl (cO, 10, .inr (.inr (.inr (.inr (va_up (fun _ => none) 0 (some ((Wl.getD 0 (0, oz0)).1))))))))]).symm hP
          have hD := z_Dp (hWR [(q0, .inr (7, [.int z.2.1, .int (nI z.2.2.1), .int z.2.2.2.1, .int z.2.2.2.2.1, .ref z.2.2.2.2.2.1, .int z.2.2.2.2.2.2.1, .long z.2.2.2.2.2.2.2.1, .ref i9.2])), (i9.2, .inr (12, [.ref q9, .int 1, .int (mo1 + 1)])), (q9, .inl (cO, 10, .inr (.inr (.inr (.inr (va_up (fun _ => none) 0 (some ((Wl.getD 0 (0, oz0)).1))))))))]).symm hD
          have hP : va_P D classes ([(q0, .inr (7, [.int z.2.1, .int (nI z.2.2.1), .int z.2.2.2.1, .int z.2.2.2.2.1, .ref z.2.2.2.2.2.1, .int z.2.2.2.2.2.2.1, .long z.2.2.2.2.2.2.2.1, .ref i9.2]))] ++ (wlc cO e0 i9.2 (0 + 1) (mo1 + 1) (some (q9, va_up (fun _ => none) 0 (some (Wl.getD 0 (0, oz0)).1))) ++ WS)) H := hP
          have hD : va_D A ([(q0, .inr (7, [.int z.2.1, .int (nI z.2.2.1), .int z.2.2.2.1, .int z.2.2.2.2.1, .ref z.2.2.2.2.2.1, .int z.2.2.2.2.2.2.1, .long z.2.2.2.2.2.2.2.1, .ref i9.2]))] ++ (wlc cO e0 i9.2 (0 + 1) (mo1 + 1) (some (q9, va_up (fun _ => none) 0 (some (Wl.getD 0 (0, oz0)).1))) ++ WS)) := hD
          exact ih58 (0 + 1) (mo1 + 1) (some (q9, va_up (fun _ => none) 0 (some (Wl.getD 0 (0, oz0)).1))) H locs ls (by omega) (by omega) (cp_step (fun i hi => absurd hi (by simp)) h66 (hE 0 h66).2) (lv_sub hl [1, 2, 0] rfl) hP hD hS
        | some wq =>
          have hel : elO WS wq.2 (Wl.take j) := hwk
          have hP : va_P D classes ([(q0, .inr (7, [.int z.2.1, .int (nI z.2.2.1), .int z.2.2.2.1, .int z.2.2.2.2.1, .ref z.2.2.2.2.2.1, .int z.2.2.2.2.2.2.1, .long z.2.2.2.2.2.2.2.1, .ref i9.2])), (i9.2, .inr (12, [.ref wq.1, .int (nI j), .int mo1])), (wq.1, .inl (cO, 10, .inr (.inr (.inr (.inr wq.2)))))] ++ WS) H := hP
          have hD : va_D A ([(q0, .inr (7, [.int z.2.1, .int (nI z.2.2.1), .int z.2.2.2.1, .int z.2.2.2.2.1, .ref z.2.2.2.2.2.1, .int z.2.2.2.2.2.2.1, .long z.2.2.2.2.2.2.2.1, .ref i9.2])), (i9.2, .inr (12, [.ref wq.1, .int (nI j), .int mo1])), (wq.1, .inl (cO, 10, .inr (.inr (.inr (.inr wq.2)))))] ++ WS) := hD
          refine lv_aload_n hx hb d_Programme_copied_69 rfl (lv_at hl 1 rfl) ?_
          refine va_get (D := D) (ci := 7) (v := .ref i9.2) (C := R_Programme) (T := F_Programme) (N := 8) hx hb hts i_Programme hown hK hP 0 rfl rfl 7 (by decide) (hts _ wd_595) (fun _ h9 => h9) rfl d_Programme_copied_70 ?_
          have hm73 : (z.1, pgE z) ∈ ([(q0, .inr (7, [.int z.2.1, .int (nI z.2.2.1), .int z.2.2.2.1, .int z.2.2.2.2.1, .ref z.2.2.2.2.2.1, .int z.2.2.2.2.2.2.1, .long z.2.2.2.2.2.2.2.1, .ref i9.2])), (i9.2, .inr (12, [.ref wq.1, .int (nI j), .int mo1])), (wq.1, .inl (cO, 10, .inr (.inr (.inr (.inr wq.2)))))] ++ WS) := List.mem_append_right _ hzm
          obtain ⟨q73z, hq73z⟩ := List.getElem?_of_mem hm73
          have hL73 : (z.2.2.2.2.2.2.2.2, alE wb Wl.length mo) ∈ ([(q0, .inr (7, [.int z.2.1, .int (nI z.2.2.1), .int z.2.2.2.1, .int z.2.2.2.2.1, .ref z.2.2.2.2.2.1, .int z.2.2.2.2.2.2.1, .long z.2.2.2.2.2.2.2.1, .ref i9.2])), (i9.2, .inr (12, [.ref wq.1, .int (nI j), .int mo1])), (wq.1, .inl (cO, 10, .inr (.inr (.inr (.inr wq.2)))))] ++ WS) := List.mem_append_right _ hLm
          obtain ⟨q73w, hq73w⟩ := List.getElem?_of_mem hL73
          refine lv_aload_n hx hb d_Programme_copied_73 rfl (lv_at hl 0 rfl) ?_
          refine va_get (D := D) (ci := 7) (v := .ref z.2.2.2.2.2.2.2.2) (C := R_Programme) (T := F_Programme) (N := 8) hx hb hts i_Programme hown hK hP q73z hq73z rfl 7 (by decide) (hts _ wd_595) (fun _ h9 => h9) rfl d_Programme_copied_74 ?_
          refine lv_iload_n hx hb d_Programme_copied_77 rfl (lv_at hl 2 rfl) ?_
          obtain ⟨hga, ham⟩ := hE j h66
          obtain ⟨q2, hq2⟩ := List.getElem?_of_mem (List.mem_append_right [(q0, .inr (7, [.int z.2.1, .int (nI z.2.2.1), .int z.2.2.2.1, .int z.2.2.2.2.1, .ref z.2.2.2.2.2.1, .int z.2.2.2.2.2.2.1, .long z.2.2.2.2.2.2.2.1, .ref i9.2])), (i9.2, .inr (12, [.ref wq.1, .int (nI j), .int mo1])), (wq.1, .inl (cO, 10, .inr (.inr (.inr (.inr wq.2)))))] ham)
          have hA9 : (wb, arE cO g) ∈ ([(q0, .inr (7, [.int z.2.1, .int (nI z.2.2.1), .int z.2.2.2.1, .int z.2.2.2.2.1, .ref z.2.2.2.2.2.1, .int z.2.2.2.2.2.2.1, .long z.2.2.2.2.2.2.2.1, .ref i9.2])), (i9.2, .inr (12, [.ref wq.1, .int (nI j), .int mo1])), (wq.1, .inl (cO, 10, .inr (.inr (.inr (.inr wq.2)))))] ++ WS) := List.mem_append_right _ (hLa.resolve_left (by omega))
          have hPc : va_P D classes [(z.2.2.2.2.2.2.2.2, .inr (12, [.ref wb, .int (nI Wl.length), .int mo])), (wb, .inl (cO, 10, .inr (.inr (.inr (.inr g)))))] H := z_Pm2 hL73 hA9 hP
          have hKc := hK.sub (tys' := [(cO, .object "java/lang/Object")]) [0] rfl
          refine z_cq (va_runV (As := [.int (nI j)]) (rest := [.ref i9.2]) ⟨hx, hb, hml, hown, hts⟩ (c_AL_get l D cO z.2.2.2.2.2.2.2.2 wb Wl.length mo g j h66 (by omega)) (z_cV hN wd_309 wd_66 wd_330 hd_AL_get rfl rfl ⟨Nat.le_of_ble_eq_true rfl, Nat.le_of_ble_eq_true rfl⟩ wd_307 wd_308) (z_preV (va_recv (ci := 12) (q0 := q73w) hK hP rfl hq73w) hPc hKc hN) rfl rfl hl.1 rfl (lv_room (Nat.le_of_ble_eq_true rfl)) d_Programme_copied_78 ⟨Nat.le_of_ble_eq_true rfl, Nat.le_of_ble_eq_true rfl⟩) (fun r78 e78 => ?_)
          subst e78
          refine z_topq (w := some ((Wl.getD j (0, oz0)).1)) hga ?_
          refine va_castY hx hb hown (hts _ wd_417) (hN _ wd_1487) (va_recv (ci := 6) (q0 := q2) hK hP rfl hq2) d_Programme_copied_81 ?_
          obtain ⟨WR, hWR⟩ := z_foc (hE j h66).2
          have hP := z_Pp (hWR [(q0, .inr (7, [.int z.2.1, .int (nI z.2.2.1), .int z.2.2.2.1, .int z.2.2.2.2.1, .ref z.2.2.2.2.2.1, .int z.2.2.2.2.2.2.1, .long z.2.2.2.2.2.2.2.1, .ref i9.2])), (i9.2, .inr (12, [.ref wq.1, .int (nI j), .int mo1])), (wq.1, .inl (cO, 10, .inr (.inr (.inr (.inr wq.2)))))]) hP
          have hD := z_Dp (hWR [(q0, .inr (7, [.int z.2.1, .int (nI z.2.2.1), .int z.2.2.2.1, .int z.2.2.2.2.1, .ref z.2.2.2.2.2.1, .int z.2.2.2.2.2.2.1, .long z.2.2.2.2.2.2.2.1, .ref i9.2])), (i9.2, .inr (12, [.ref wq.1, .int (nI j), .int mo1])), (wq.1, .inl (cO, 10, .inr (.inr (.inr (.inr wq.2)))))]) hD
          have hP : va_P D classes ([(q0, .inr (7, [.int z.2.1, .int (nI z.2.2.1), .int z.2.2.2.1, .int z.2.2.2.2.1, .ref z.2.2.2.2.2.1, .int z.2.2.2.2.2.2.1, .long z.2.2.2.2.2.2.2.1, .ref i9.2])), (i9.2, .inr (12, [.ref wq.1, .int (nI j), .int mo1])), (wq.1, .inl (cO, 10, .inr (.inr (.inr (.inr wq.2))))), ((Wl.getD j (0, oz0)).1, .inr (6, [.long ((Wl.getD j (0, oz0)).2.1), .int ((Wl.getD j (0, oz0)).2.2.1), .int ((Wl.getD j (0, oz0)).2.2.2.1), .long ((Wl.getD j (0, oz0)).2.2.2.2)]))] ++ WR) H := hP
          have hD : va_D A ([(q0, .inr (7, [.int z.2.1, .int (nI z.2.2.1), .int z.2.2.2.1, .int z.2.2.2.2.1, .ref z.2.2.2.2.2.1, .int z.2.2.2.2.2.2.1, .long z.2.2.2.2.2.2.2.1, .ref i9.2])), (i9.2, .inr (12, [.ref wq.1, .int (nI j), .int mo1])), (wq.1, .inl (cO, 10, .inr (.inr (.inr (.inr wq.2))))), ((Wl.getD j (0, oz0)).1, .inr (6, [.long ((Wl.getD j (0, oz0)).2.1), .int ((Wl.getD j (0, oz0)).2.2.1), .int ((Wl.getD j (0, oz0)).2.2.2.1), .long ((Wl.getD j (0, oz0)).2.2.2.2)]))] ++ WR) := hD
          have hPc := hP.sub (ws' := [(i9.2, .inr (12, [.ref wq.1, .int (nI j), .int mo1])), (wq.1, .inl (cO, 10, .inr (.inr (.inr (.inr wq.2))))), (((Wl.getD j (0, oz0)).1), .inr (6, [.long (Wl.getD j (0, oz0)).2.1, .int (Wl.getD j (0, oz0)).2.2.1, .int (Wl.getD j (0, oz0)).2.2.2.1, .long (Wl.getD j (0, oz0)).2.2.2.2]))]) [1, 2, 3] rfl
          have hKc := hK.sub (tys' := [(cO, .object "java/lang/Object")]) [0] rfl
          have hDc := hD.sub (ws' := [(i9.2, .inr (12, [.ref wq.1, .int (nI j), .int mo1])), (wq.1, .inl (cO, 10, .inr (.inr (.inr (.inr wq.2))))), (((Wl.getD j (0, oz0)).1), .inr (6, [.long (Wl.getD j (0, oz0)).2.1, .int (Wl.getD j (0, oz0)).2.2.1, .int (Wl.getD j (0, oz0)).2.2.2.1, .long (Wl.getD j (0, oz0)).2.2.2.2]))]) [1, 2, 3] (by decide) rfl
          have hFc := va_free (wc := [(i9.2, .inr (12, [.ref wq.1, .int (nI j), .int mo1])), (wq.1, .inl (cO, 10, .inr (.inr (.inr (.inr wq.2))))), (((Wl.getD j (0, oz0)).1), .inr (6, [.long (Wl.getD j (0, oz0)).2.1, .int (Wl.getD j (0, oz0)).2.2.1, .int (Wl.getD j (0, oz0)).2.2.2.1, .long (Wl.getD j (0, oz0)).2.2.2.2]))]) hD hS hA [1, 2, 3] rfl
          refine va_calli (va_runV (As := [.ref ((Wl.getD j (0, oz0)).1)]) (rest := []) ⟨hx, hb, hml, hown, hts⟩ (c_AL_add0 l D H.size cO i9.2 wq.1 j mo1 wq.2 ((Wl.getD j (0, oz0)).1) 6 [.long (Wl.getD j (0, oz0)).2.1, .int (Wl.getD j (0, oz0)).2.2.1, .int (Wl.getD j (0, oz0)).2.2.2.1, .long (Wl.getD j (0, oz0)).2.2.2.2] (R_Order, F_Order, 4) (by omega) rfl wd_1500) (z_cV hN wd_465 wd_66 wd_462 hd_AL_add0 rfl rfl ⟨Nat.le_of_ble_eq_true rfl, Nat.le_of_ble_eq_true rfl⟩ wd_463 wd_464) (z_preVm (va_recv (ci := 12) (q0 := 1) hK hP rfl rfl) hPc hKc hN hDc) rfl rfl hl.1 rfl (lv_room (Nat.le_of_ble_eq_true rfl)) d_Programme_copied_84 ⟨Nat.le_of_ble_eq_true rfl, Nat.le_of_ble_eq_true rfl⟩) hS (fun q _ h => hFc q h) hFc (fun r84 u84 t H locs ht hvm e84 hB hz1 hk1 hS => ?_)
          obtain ⟨hP1, hK1, hD1⟩ := hB
          rw [ht] at hP1
          obtain ⟨hP, hD⟩ := va_joinQ (cx := [(i9.2, .inr (12, [.ref wq.1, .int (nI j), .int mo1])), (wq.1, .inl (cO, 10, .inr (.inr (.inr (.inr wq.2))))), (((Wl.getD j (0, oz0)).1), .inr (6, [.long (Wl.getD j (0, oz0)).2.1, .int (Wl.getD j (0, oz0)).2.2.1, .int (Wl.getD j (0, oz0)).2.2.2.1, .long (Wl.getD j (0, oz0)).2.2.2.2]))]) (wr := [(q0, .inr (7, [.int z.2.1, .int (nI z.2.2.1), .int z.2.2.2.1, .int z.2.2.2.2.1, .ref z.2.2.2.2.2.1, .int z.2.2.2.2.2.2.1, .long z.2.2.2.2.2.2.2.1, .ref i9.2]))]) (w1 := [(i9.2, .inr (12, [.ref wq.1, .int (nI (j + 1)), .int (mo1 + 1)])), (wq.1, .inl (cO, 10, .inr (.inr (.inr (.inr (va_up wq.2 j (some ((Wl.getD j (0, oz0)).1)))))))), (((Wl.getD j (0, oz0)).1), .inr (6, [.long (Wl.getD j (0, oz0)).2.1, .int (Wl.getD j (0, oz0)).2.2.1, .int (Wl.getD j (0, oz0)).2.2.2.1, .long (Wl.getD j (0, oz0)).2.2.2.2]))]) hP hD [1, 2, 3] [0] rfl rfl (by decide) (by decide) hk1 hFc hP1 hD1
          clear hk1 hP1 hD1 hFc hPc hDc hz1
          have hP : va_P D classes ([(q0, .inr (7, [.int z.2.1, .int (nI z.2.2.1), .int z.2.2.2.1, .int z.2.2.2.2.1, .ref z.2.2.2.2.2.1, .int z.2.2.2.2.2.2.1, .long z.2.2.2.2.2.2.2.1, .ref i9.2])), (i9.2, .inr (12, [.ref wq.1, .int (nI (j + 1)), .int (mo1 + 1)])), (wq.1, .inl (cO, 10, .inr (.inr (.inr (.inr (va_up wq.2 j (some ((Wl.getD j (0, oz0)).1)))))))), (((Wl.getD j (0, oz0)).1), .inr (6, [.long (Wl.getD j (0, oz0)).2.1, .int (Wl.getD j (0, oz0)).2.2.1, .int (Wl.getD j (0, oz0)).2.2.2.1, .long (Wl.getD j (0, oz0)).2.2.2.2]))] ++ WR) H := hP
          have hD : va_D A ([(q0, .inr (7, [.int z.2.1, .int (nI z.2.2.1), .int z.2.2.2.1, .int z.2.2.2.2.1, .ref z.2.2.2.2.2.1, .int z.2.2.2.2.2.2.1, .long z.2.2.2.2.2.2.2.1, .ref i9.2])), (i9.2, .inr (12, [.ref wq.1, .int (nI (j + 1)), .int (mo1 + 1)])), (wq.1, .inl (cO, 10, .inr (.inr (.inr (.inr (va_up wq.2 j (some ((Wl.getD j (0, oz0)).1)))))))), (((Wl.getD j (0, oz0)).1), .inr (6, [.long (Wl.getD j (0, oz0)).2.1, .int (Wl.getD j (0, oz0)).2.2.1, .int (Wl.getD j (0, oz0)).2.2.2.1, .long (Wl.getD j (0, oz0)).2.2.2.2]))] ++ WR) := hD
          refine lv_pop hx hb d_Programme_copied_87 rfl ?_
          refine lv_iinc (k := 2) (v := nI (j + 1)) (lv' := [(2, .int (nI (j + 1))), (0, .ref z.1), (1, .ref q0)]) hx hb d_Programme_copied_88 hl rfl (nI_1 j) (by decide) rfl (fun ls hl => ?_)
          refine lv_goto (tgt := 58) hx hb d_Programme_copied_91 rfl ?_
          have hP := z_Pp (hWR [(q0, .inr (7, [.int z.2.1, .int (nI z.2.2.1), .int z.2.2.2.1, .int z.2.2.2.2.1, .ref z.2.2.2.2.2.1, .int z.2.2.2.2.2.2.1, .long z.2.2.2.2.2.2.2.1, .ref i9.2])), (i9.2, .inr (12, [.ref wq.1, .int (nI (j + 1)), .int (mo1 + 1)])), (wq.1, .inl (cO, 10, .inr (.inr (.inr (.inr (va_up wq.2 j (some ((Wl.getD j (0, oz0)).1))))))))]).symm hP
          have hD := z_Dp (hWR [(q0, .inr (7, [.int z.2.1, .int (nI z.2.2.1), .int z.2.2.2.1, .int z.2.2.2.2.1, .ref z.2.2.2.2.2.1, .int z.2.2.2.2.2.2.1, .long z.2.2.2.2.2.2.2.1, .ref i9.2])), (i9.2, .inr (12, [.ref wq.1, .int (nI (j + 1)), .int (mo1 + 1)])), (wq.1, .inl (cO, 10, .inr (.inr (.inr (.inr (va_up wq.2 j (some ((Wl.getD j (0, oz0)).1))))))))]).symm hD
          have hP : va_P D classes ([(q0, .inr (7, [.int z.2.1, .int (nI z.2.2.1), .int z.2.2.2.1, .int z.2.2.2.2.1, .ref z.2.2.2.2.2.1, .int z.2.2.2.2.2.2.1, .long z.2.2.2.2.2.2.2.1, .ref i9.2]))] ++ (wlc cO e0 i9.2 (j + 1) (mo1 + 1) (some (wq.1, va_up wq.2 j (some (Wl.getD j (0, oz0)).1))) ++ WS)) H := hP
          have hD : va_D A ([(q0, .inr (7, [.int z.2.1, .int (nI z.2.2.1), .int z.2.2.2.1, .int z.2.2.2.2.1, .ref z.2.2.2.2.2.1, .int z.2.2.2.2.2.2.1, .long z.2.2.2.2.2.2.2.1, .ref i9.2]))] ++ (wlc cO e0 i9.2 (j + 1) (mo1 + 1) (some (wq.1, va_up wq.2 j (some (Wl.getD j (0, oz0)).1))) ++ WS)) := hD
          exact ih58 (j + 1) (mo1 + 1) (some (wq.1, va_up wq.2 j (some (Wl.getD j (0, oz0)).1))) H locs ls (by omega) (by omega) (cp_step hel h66 (hE j h66).2) (lv_sub hl [1, 2, 0] rfl) hP hD hS
  exact loop58 _ 0 0 none H locs ls (Nat.lt_succ_self _) (Nat.zero_le _) rfl (lv_sub hl [2, 1, 0] rfl) hP hD hS
