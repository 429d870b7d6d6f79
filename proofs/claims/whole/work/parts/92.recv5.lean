theorem wd_77 : (Jvm.Cond.initialized "StreamSplitter$Piece") ∈ lw_ok := List.mem_filter.mpr ⟨List.mem_of_getElem? (i := 77) (by decide +kernel), rfl⟩
theorem wd_353 : (Jvm.Cond.methodLinkNest "StreamSplitter$Receiver" (175 : Nat) ({ cls := "StreamSplitter$Piece", name := "<init>", desc := "()V" } : Jvm.MethodName) "StreamSplitter") ∈ lw_ok := List.mem_filter.mpr ⟨List.mem_of_getElem? (i := 353) (by decide +kernel), rfl⟩
theorem wd_354 : (Jvm.Cond.instanceMethod ({ cls := "StreamSplitter$Piece", name := "<init>", desc := "()V" } : Jvm.MethodName)) ∈ lw_ok := List.mem_filter.mpr ⟨List.mem_of_getElem? (i := 354) (by decide +kernel), rfl⟩
set_option maxRecDepth 100000 in
theorem wd_355 : (Jvm.Cond.code ({ cls := "StreamSplitter$Piece", name := "<init>", desc := "()V" } : Jvm.MethodName) prog_6_method_1_code (1 : Nat) (Option.none : Option Jvm.ClassFile.FieldType)) ∈ lw_ok := List.mem_filter.mpr ⟨List.mem_of_getElem? (i := 355) (by rfl), rfl⟩
theorem wd_387 : (Jvm.Cond.methodLink "StreamSplitter$Receiver" (184 : Nat) ({ cls := "StreamSplitter$Piece", name := "copy", desc := "(LStreamSplitter$Piece;)V" } : Jvm.MethodName)) ∈ lw_ok := List.mem_filter.mpr ⟨List.mem_of_getElem? (i := 387) (by decide +kernel), rfl⟩
theorem wd_388 : (Jvm.Cond.instanceMethod ({ cls := "StreamSplitter$Piece", name := "copy", desc := "(LStreamSplitter$Piece;)V" } : Jvm.MethodName)) ∈ lw_ok := List.mem_filter.mpr ⟨List.mem_of_getElem? (i := 388) (by decide +kernel), rfl⟩
theorem wd_389 : (Jvm.Cond.selects "StreamSplitter$Piece" ({ cls := "StreamSplitter$Piece", name := "copy", desc := "(LStreamSplitter$Piece;)V" } : Jvm.MethodName) ({ cls := "StreamSplitter$Piece", name := "copy", desc := "(LStreamSplitter$Piece;)V" } : Jvm.MethodName)) ∈ lw_ok := List.mem_filter.mpr ⟨List.mem_of_getElem? (i := 389) (by decide +kernel), rfl⟩
set_option maxRecDepth 100000 in
theorem wd_390 : (Jvm.Cond.code ({ cls := "StreamSplitter$Piece", name := "copy", desc := "(LStreamSplitter$Piece;)V" } : Jvm.MethodName) prog_6_method_4_code (2 : Nat) (Option.none : Option Jvm.ClassFile.FieldType)) ∈ lw_ok := List.mem_filter.mpr ⟨List.mem_of_getElem? (i := 390) (by rfl), rfl⟩
theorem hd_Piece_copy : y_Piece_copy.cls ≠ "java/lang/invoke/MethodHandle" ∧ y_Piece_copy.cls ≠ "java/lang/invoke/VarHandle" ∧ (parseMethodDescriptor y_Piece_copy.desc).map (fun d => d.parameters.length) = some 1 := by decide +kernel
theorem hd_Piece_init : y_Piece_init.cls ≠ "java/lang/invoke/MethodHandle" ∧ y_Piece_init.cls ≠ "java/lang/invoke/VarHandle" ∧ (parseMethodDescriptor y_Piece_init.desc).map (fun d => d.parameters.length) = some 0 := by decide +kernel
theorem d_Receiver_keepDone_0 : decode b_Receiver_keepDone 0 = .ok (.aload_n 1, 1) := by decide +kernel
theorem d_Receiver_keepDone_1 : decode b_Receiver_keepDone 1 = .ok (.iconst 0, 1) := by decide +kernel
theorem d_Receiver_keepDone_2 : decode b_Receiver_keepDone 2 = .ok (.putfield 101, 3) := by decide +kernel
theorem d_Receiver_keepDone_5 : decode b_Receiver_keepDone 5 = .ok (.aload_n 0, 1) := by decide +kernel
theorem d_Receiver_keepDone_6 : decode b_Receiver_keepDone 6 = .ok (.getfield 34, 3) := by decide +kernel
theorem d_Receiver_keepDone_9 : decode b_Receiver_keepDone 9 = .ok (.bipush 9, 2) := by decide +kernel
theorem d_Receiver_keepDone_11 : decode b_Receiver_keepDone 11 = .ok (.iaload, 1) := by decide +kernel
theorem d_Receiver_keepDone_12 : decode b_Receiver_keepDone 12 = .ok (.bipush 15, 2) := by decide +kernel
theorem d_Receiver_keepDone_14 : decode b_Receiver_keepDone 14 = .ok (.iand, 1) := by decide +kernel
theorem d_Receiver_keepDone_15 : decode b_Receiver_keepDone 15 = .ok (.istore_n 2, 1) := by decide +kernel
theorem d_Receiver_keepDone_16 : decode b_Receiver_keepDone 16 = .ok (.aload_n 0, 1) := by decide +kernel
theorem d_Receiver_keepDone_17 : decode b_Receiver_keepDone 17 = .ok (.getfield 40, 3) := by decide +kernel
theorem d_Receiver_keepDone_20 : decode b_Receiver_keepDone 20 = .ok (.iload_n 2, 1) := by decide +kernel
theorem d_Receiver_keepDone_21 : decode b_Receiver_keepDone 21 = .ok (.aaload, 1) := by decide +kernel
theorem d_Receiver_keepDone_22 : decode b_Receiver_keepDone 22 = .ok (.ifnonnull 16, 3) := by decide +kernel
theorem d_Receiver_keepDone_25 : decode b_Receiver_keepDone 25 = .ok (.aload_n 0, 1) := by decide +kernel
theorem d_Receiver_keepDone_26 : decode b_Receiver_keepDone 26 = .ok (.getfield 40, 3) := by decide +kernel
theorem d_Receiver_keepDone_29 : decode b_Receiver_keepDone 29 = .ok (.iload_n 2, 1) := by decide +kernel
theorem d_Receiver_keepDone_30 : decode b_Receiver_keepDone 30 = .ok (.new 38, 3) := by decide +kernel
theorem d_Receiver_keepDone_33 : decode b_Receiver_keepDone 33 = .ok (.dup, 1) := by decide +kernel
theorem d_Receiver_keepDone_34 : decode b_Receiver_keepDone 34 = .ok (.invokespecial 175, 3) := by decide +kernel
theorem d_Receiver_keepDone_37 : decode b_Receiver_keepDone 37 = .ok (.aastore, 1) := by decide +kernel
theorem d_Receiver_keepDone_38 : decode b_Receiver_keepDone 38 = .ok (.aload_n 0, 1) := by decide +kernel
theorem d_Receiver_keepDone_39 : decode b_Receiver_keepDone 39 = .ok (.getfield 40, 3) := by decide +kernel
theorem d_Receiver_keepDone_42 : decode b_Receiver_keepDone 42 = .ok (.iload_n 2, 1) := by decide +kernel
theorem d_Receiver_keepDone_43 : decode b_Receiver_keepDone 43 = .ok (.aaload, 1) := by decide +kernel
theorem d_Receiver_keepDone_44 : decode b_Receiver_keepDone 44 = .ok (.aload_n 1, 1) := by decide +kernel
theorem d_Receiver_keepDone_45 : decode b_Receiver_keepDone 45 = .ok (.invokevirtual 184, 3) := by decide +kernel
theorem d_Receiver_keepDone_48 : decode b_Receiver_keepDone 48 = .ok (.aload_n 0, 1) := by decide +kernel
theorem d_Receiver_keepDone_49 : decode b_Receiver_keepDone 49 = .ok (.getfield 34, 3) := by decide +kernel
theorem d_Receiver_keepDone_52 : decode b_Receiver_keepDone 52 = .ok (.bipush 9, 2) := by decide +kernel
theorem d_Receiver_keepDone_54 : decode b_Receiver_keepDone 54 = .ok (.dup2, 1) := by decide +kernel
theorem d_Receiver_keepDone_55 : decode b_Receiver_keepDone 55 = .ok (.iaload, 1) := by decide +kernel
theorem d_Receiver_keepDone_56 : decode b_Receiver_keepDone 56 = .ok (.iconst 1, 1) := by decide +kernel
theorem d_Receiver_keepDone_57 : decode b_Receiver_keepDone 57 = .ok (.iadd, 1) := by decide +kernel
theorem d_Receiver_keepDone_58 : decode b_Receiver_keepDone 58 = .ok (.iastore, 1) := by decide +kernel
theorem d_Receiver_keepDone_59 : decode b_Receiver_keepDone 59 = .ok (.return_, 1) := by decide +kernel
set_option maxHeartbeats 4000000 in
set_option maxRecDepth 100000 in
theorem c_Receiver_keepDone (l : Launch) (D : va_G) (sz : Nat) (cI cQ : ClassId) (rv tp ln tb ca dp : Nat) (cn : Nat → Int32) (dpf : Nat → Option Nat) (dn : Nat → Option PQ9) (pa : Nat) (op pi kd by9 su du : Int32) (t0 : Int64) (Q : va_W) (hdp : dpok dpf dn) : Met l y_Receiver_keepDone [Cond.code y_Receiver_keepDone b_Receiver_keepDone 3 none] ({ frames := 2, cells := 1, slots := 7, locals := 32 }) (zM [.ref rv, .ref pa] D ([(rv, .inr (4, [.ref tp, .ref ln, .ref tb, .ref ca, .ref dp])), (ca, .inl (cI, 10, .inl cn)), (dp, .inl (cQ, 16, .inr (.inr (.inr (.inr dpf))))), (pa, .inr (3, [.int op, .int pi, .int kd, .long t0, .int by9, .int su, .int du]))] ++ (dpl dn ++ Q)) [(cI, .int), (cQ, .object "StreamSplitter$Piece")] sz) (va_Qv (fun (u : PQ9 × (Nat → Option Nat)) => (u.1.2.2 = (pi, kd, t0, by9, su, u.1.2.2.2.2.2.2.2)) ∧ dpok u.2 (va_up dn (kdI (cn 9)) (some u.1))) (fun (u : PQ9 × (Nat → Option Nat)) t => zW D (va_A ([(rv, .inr (4, [.ref tp, .ref ln, .ref tb, .ref ca, .ref dp])), (ca, .inl (cI, 10, .inl cn)), (dp, .inl (cQ, 16, .inr (.inr (.inr (.inr dpf))))), (pa, .inr (3, [.int op, .int pi, .int kd, .long t0, .int by9, .int su, .int du]))] ++ (dpl dn ++ Q)) sz) ([(rv, .inr (4, [.ref tp, .ref ln, .ref tb, .ref ca, .ref dp])), (ca, .inl (cI, 10, .inl (cup cn 9))), (dp, .inl (cQ, 16, .inr (.inr (.inr (.inr u.2))))), (pa, .inr (3, [.int 0, .int pi, .int kd, .long t0, .int by9, .int su, .int du]))] ++ (dpl (va_up dn (kdI (cn 9)) (some u.1)) ++ Q)) [(cI, .int), (cQ, .object "StreamSplitter$Piece")] t) (va_A ([(rv, .inr (4, [.ref tp, .ref ln, .ref tb, .ref ca, .ref dp])), (ca, .inl (cI, 10, .inl cn)), (dp, .inl (cQ, 16, .inr (.inr (.inr (.inr dpf))))), (pa, .inr (3, [.int op, .int pi, .int kd, .long t0, .int by9, .int su, .int du]))] ++ (dpl dn ++ Q)) sz)) 1 7 (va_A ([(rv, .inr (4, [.ref tp, .ref ln, .ref tb, .ref ca, .ref dp])), (ca, .inl (cI, 10, .inl cn)), (dp, .inl (cQ, 16, .inr (.inr (.inr (.inr dpf))))), (pa, .inr (3, [.int op, .int pi, .int kd, .long t0, .int by9, .int su, .int du]))] ++ (dpl dn ++ Q)) sz) := by
  refine Met.ofW (cc := b_Receiver_keepDone) (maxL := 3) (ret := none) (by decide) rfl ?_
  intro p e s m args below meth cd s₁ Bd hml hv
  obtain ⟨rfl, hsz, hP, hK, hN, hD0⟩ := hv
  have hx := Bd.exec
  have hb := Bd.bytes
  have hr := Bd.returns
  have hts := hN.use (a := ([.ref rv, .ref pa]).toArray)
  have hown : s.vm.findClass R_Receiver = some m.cls := findClass_of_methodNamed Bd.named
  have hlocks := Bd.notSynchronized
  subst hsz
  have hD := hD0.self (sz := s.heap.size)
  clear hD0
  have hA : ∀ q : Nat, s.heap.size ≤ q → va_A ([(rv, .inr (4, [.ref tp, .ref ln, .ref tb, .ref ca, .ref dp])), (ca, .inl (cI, 10, .inl cn)), (dp, .inl (cQ, 16, .inr (.inr (.inr (.inr dpf))))), (pa, .inr (3, [.int op, .int pi, .int kd, .long t0, .int by9, .int su, .int du]))] ++ (dpl dn ++ Q)) s.heap.size q := fun q h => Or.inr h
  have hS : va_S (va_A ([(rv, .inr (4, [.ref tp, .ref ln, .ref tb, .ref ca, .ref dp])), (ca, .inl (cI, 10, .inl cn)), (dp, .inl (cQ, 16, .inr (.inr (.inr (.inr dpf))))), (pa, .inr (3, [.int op, .int pi, .int kd, .long t0, .int by9, .int su, .int du]))] ++ (dpl dn ++ Q)) s.heap.size) s.heap s.heap [] := va_S.rf
  generalize hAe : va_A ([(rv, .inr (4, [.ref tp, .ref ln, .ref tb, .ref ca, .ref dp])), (ca, .inl (cI, 10, .inl cn)), (dp, .inl (cQ, 16, .inr (.inr (.inr (.inr dpf))))), (pa, .inr (3, [.int op, .int pi, .int kd, .long t0, .int by9, .int su, .int du]))] ++ (dpl dn ++ Q)) s.heap.size = A at hD hA hS ⊢
  have hP : va_P D classes ([(rv, .inr (4, [.ref tp, .ref ln, .ref tb, .ref ca, .ref dp])), (ca, .inl (cI, 10, .inl cn)), (dp, .inl (cQ, 16, .inr (.inr (.inr (.inr dpf))))), (pa, .inr (3, [.int op, .int pi, .int kd, .long t0, .int by9, .int su, .int du]))] ++ (dpl dn ++ Q)) s.heap := hP
  have hl := lv_entry ([.ref rv, .ref pa]) (n := 3) (Nat.le_of_ble_eq_true rfl)
  rw [lg_entry_eq]
  generalize (lg_sl ([.ref rv, .ref pa]) ++ List.replicate (3 - (lg_sl ([.ref rv, .ref pa])).length) Slot.unset).toArray = ls at hl ⊢
  have hl : lv_has ls 3 [(0, .ref rv), (1, .ref pa)] := hl
  obtain ⟨kp, hkp⟩ : ∃ kp, kp = kdI (cn 9) := ⟨_, rfl⟩
  have hkl : kp < 16 := by rw [hkp]; exact kdI_lt _
  have hP := z_Pp (dp_foc (X := [(rv, .inr (4, [.ref tp, .ref ln, .ref tb, .ref ca, .ref dp])), (ca, .inl (cI, 10, .inl cn)), (dp, .inl (cQ, 16, .inr (.inr (.inr (.inr dpf))))), (pa, .inr (3, [.int op, .int pi, .int kd, .long t0, .int by9, .int su, .int du]))]) (dn := dn) (Q := Q) hkl) hP
  have hD := z_Dp (dp_foc (X := [(rv, .inr (4, [.ref tp, .ref ln, .ref tb, .ref ca, .ref dp])), (ca, .inl (cI, 10, .inl cn)), (dp, .inl (cQ, 16, .inr (.inr (.inr (.inr dpf))))), (pa, .inr (3, [.int op, .int pi, .int kd, .long t0, .int by9, .int su, .int du]))]) (dn := dn) (Q := Q) hkl) hD
  obtain ⟨d0, hd0⟩ : ∃ d0, d0 = dn kp := ⟨_, rfl⟩
  rw [← hd0] at hP hD
  have hdk := hdp kp hkl
  rw [← hd0] at hdk
  cases d0 with
  | none =>
    have hP : va_P D classes ([(rv, .inr (4, [.ref tp, .ref ln, .ref tb, .ref ca, .ref dp])), (ca, .inl (cI, 10, .inl cn)), (dp, .inl (cQ, 16, .inr (.inr (.inr (.inr dpf))))), (pa, .inr (3, [.int op, .int pi, .int kd, .long t0, .int by9, .int su, .int du]))] ++ (dplx kp dn ++ Q)) s.heap := hP
    have hD : va_D A ([(rv, .inr (4, [.ref tp, .ref ln, .ref tb, .ref ca, .ref dp])), (ca, .inl (cI, 10, .inl cn)), (dp, .inl (cQ, 16, .inr (.inr (.inr (.inr dpf))))), (pa, .inr (3, [.int op, .int pi, .int kd, .long t0, .int by9, .int su, .int du]))] ++ (dplx kp dn ++ Q)) := hD
    refine lv_aload_n hx hb d_Receiver_keepDone_0 rfl (lv_at hl 1 rfl) ?_
    refine lv_iconst (v := 0) hx hb d_Receiver_keepDone_1 (by decide) ?_
    refine va_putN (D := D) (ci := 3) (v := .int 0) (ty := .boolean) (C := R_Piece) (T := F_Piece) (N := 7) hx hb hts i_Piece t_Piece t_Piece_ok n_Piece hown hK hP hD hS 3 rfl rfl 0 (by decide) (hts _ wd_359) (fun _ h9 => h9) rfl (by decide +kernel) rfl rfl (Nat.le_of_ble_eq_true rfl) d_Receiver_keepDone_2 (fun H locs hP hD hS => ?_)
    have hP : va_P D classes ([(rv, .inr (4, [.ref tp, .ref ln, .ref tb, .ref ca, .ref dp])), (ca, .inl (cI, 10, .inl cn)), (dp, .inl (cQ, 16, .inr (.inr (.inr (.inr dpf))))), (pa, .inr (3, [.int 0, .int pi, .int kd, .long t0, .int by9, .int su, .int du]))] ++ (dplx kp dn ++ Q)) H := hP
    have hD : va_D A ([(rv, .inr (4, [.ref tp, .ref ln, .ref tb, .ref ca, .ref dp])), (ca, .inl (cI, 10, .inl cn)), (dp, .inl (cQ, 16, .inr (.inr (.inr (.inr dpf))))), (pa, .inr (3, [.int 0, .int pi, .int kd, .long t0, .int by9, .int su, .int du]))] ++ (dplx kp dn ++ Q)) := hD
    refine lv_aload_n hx hb d_Receiver_keepDone_5 rfl (lv_at hl 0 rfl) ?_
    refine va_get (D := D) (ci := 4) (v := .ref ca) (C := R_Receiver) (T := F_Receiver) (N := 5) hx hb hts i_Receiver hown hK hP 0 rfl rfl 3 (by decide) (hts _ wd_181) (fun _ h9 => h9) rfl d_Receiver_keepDone_6 ?_
    refine lv_bipush (v := 9) hx hb d_Receiver_keepDone_9 (by decide) ?_
    refine z_iald hx hb hK hP 1 0 rfl rfl 9 rfl (by decide) (by decide) d_Receiver_keepDone_11 ?_
    refine lv_bipush (v := 15) hx hb d_Receiver_keepDone_12 (by decide) ?_
    refine lv_iand hx hb d_Receiver_keepDone_14 ?_
    refine z_topi (w := nI kp) (by rw [hkp]; exact pk_and _ 4 (by decide)) ?_
    refine lv_istore_n (lv' := [(2, .int (nI kp)), (0, .ref rv), (1, .ref pa)]) hx hb d_Receiver_keepDone_15 rfl hl (by decide) rfl (fun ls hl => ?_)
    refine lv_aload_n hx hb d_Receiver_keepDone_16 rfl (lv_at hl 1 rfl) ?_
    refine va_get (D := D) (ci := 4) (v := .ref dp) (C := R_Receiver) (T := F_Receiver) (N := 5) hx hb hts i_Receiver hown hK hP 0 rfl rfl 4 (by decide) (hts _ wd_183) (fun _ h9 => h9) rfl d_Receiver_keepDone_17 ?_
    refine lv_iload_n hx hb d_Receiver_keepDone_20 rfl (lv_at hl 0 rfl) ?_
    refine z_aldq hx hb hK hP 2 1 rfl rfl kp rfl (by omega) (by omega) d_Receiver_keepDone_21 ?_
    refine z_topq (w := none) hdk ?_
    refine lv_ifnonnullN hx hb d_Receiver_keepDone_22 ?_
    refine lv_aload_n hx hb d_Receiver_keepDone_25 rfl (lv_at hl 1 rfl) ?_
    refine va_get (D := D) (ci := 4) (v := .ref dp) (C := R_Receiver) (T := F_Receiver) (N := 5) hx hb hts i_Receiver hown hK hP 0 rfl rfl 4 (by decide) (hts _ wd_183) (fun _ h9 => h9) rfl d_Receiver_keepDone_26 ?_
    refine lv_iload_n hx hb d_Receiver_keepDone_29 rfl (lv_at hl 0 rfl) ?_
    refine va_new (ci := 3) (fs := [.int 0, .int 0, .int 0, .long 0, .int 0, .int 0, .int 0]) (C := R_Piece) (T := F_Piece) (N := 7) hx hb hts i_Piece t_Piece t_Piece_ok hown (hts _ wd_173) (hts _ wd_352) (hts _ wd_77) hK hP hD hS hA rfl (fs_Piece) (by show 0 + 1 ≤ 1; omega) (by show 0 + 7 ≤ 7; omega) d_Receiver_keepDone_30 (fun q30 H hP hD hS => ?_)
    have hP := hP.swap
    have hD := hD.swap
    have hP : va_P D classes ([(rv, .inr (4, [.ref tp, .ref ln, .ref tb, .ref ca, .ref dp])), (ca, .inl (cI, 10, .inl cn)), (dp, .inl (cQ, 16, .inr (.inr (.inr (.inr dpf))))), (pa, .inr (3, [.int 0, .int pi, .int kd, .long t0, .int by9, .int su, .int du])), (q30, .inr (3, [.int 0, .int 0, .int 0, .long 0, .int 0, .int 0, .int 0]))] ++ (dplx kp dn ++ Q)) H := hP
    have hD : va_D A ([(rv, .inr (4, [.ref tp, .ref ln, .ref tb, .ref ca, .ref dp])), (ca, .inl (cI, 10, .inl cn)), (dp, .inl (cQ, 16, .inr (.inr (.inr (.inr dpf))))), (pa, .inr (3, [.int 0, .int pi, .int kd, .long t0, .int by9, .int su, .int du])), (q30, .inr (3, [.int 0, .int 0, .int 0, .long 0, .int 0, .int 0, .int 0]))] ++ (dplx kp dn ++ Q)) := hD
    refine lv_dup hx hb d_Receiver_keepDone_33 rfl ?_
    have hPc := hP.sub (ws' := [(q30, .inr (3, [.int 0, .int 0, .int 0, .long 0, .int 0, .int 0, .int 0]))]) [4] rfl
    have hKc := hK.sub (tys' := []) [] rfl
    have hDc := hD.sub (ws' := [(q30, .inr (3, [.int 0, .int 0, .int 0, .long 0, .int 0, .int 0, .int 0]))]) [4] (by decide) rfl
    have hFc := va_free (wc := [(q30, .inr (3, [.int 0, .int 0, .int 0, .long 0, .int 0, .int 0, .int 0]))]) hD hS hA [4] rfl
    refine va_callv (va_runIN (As := []) (rest := [.ref q30, .int (nI kp), .ref dp]) ⟨hx, hb, hml, hown, hts⟩ (c_Piece_init l D H.size q30 0 0 0 0 0 0 0 ) (z_cIn hN wd_355 wd_77 wd_353 hd_Piece_init rfl rfl ⟨Nat.le_of_ble_eq_true rfl, Nat.le_of_ble_eq_true rfl⟩ wd_354 rfl) (z_preSm hPc hKc hN hDc) rfl rfl hl.1 rfl (lv_room (Nat.le_of_ble_eq_true rfl)) d_Receiver_keepDone_34 ⟨Nat.le_of_ble_eq_true rfl, Nat.le_of_ble_eq_true rfl⟩) hS (fun q _ h => hFc q h) hFc (fun u34 t H locs ht hvm e34 hB hz1 hk1 hS => ?_)
    obtain ⟨hP1, hK1, hD1⟩ := hB
    rw [ht] at hP1
    obtain ⟨hP, hD⟩ := va_joinQ (cx := [(q30, .inr (3, [.int 0, .int 0, .int 0, .long 0, .int 0, .int 0, .int 0]))]) (wr := [(rv, .inr (4, [.ref tp, .ref ln, .ref tb, .ref ca, .ref dp])), (ca, .inl (cI, 10, .inl cn)), (dp, .inl (cQ, 16, .inr (.inr (.inr (.inr dpf))))), (pa, .inr (3, [.int 0, .int pi, .int kd, .long t0, .int by9, .int su, .int du]))]) (w1 := [(q30, .inr (3, [.int 0, .int 0, .int 0, .long 0, .int 0, .int 0, .int 0]))]) hP hD [4] [0, 1, 2, 3] rfl rfl (by decide) (by decide) hk1 hFc hP1 hD1
    clear hk1 hP1 hD1 hFc hPc hDc hz1
    have hP : va_P D classes ([(rv, .inr (4, [.ref tp, .ref ln, .ref tb, .ref ca, .ref dp])), (ca, .inl (cI, 10, .inl cn)), (dp, .inl (cQ, 16, .inr (.inr (.inr (.inr dpf))))), (pa, .inr (3, [.int 0, .int pi, .int kd, .long t0, .int by9, .int su, .int du])), (q30, .inr (3, [.int 0, .int 0, .int 0, .long 0, .int 0, .int 0, .int 0]))] ++ (dplx kp dn ++ Q)) H := hP
    have hD : va_D A ([(rv, .inr (4, [.ref tp, .ref ln, .ref tb, .ref ca, .ref dp])), (ca, .inl (cI, 10, .inl cn)), (dp, .inl (cQ, 16, .inr (.inr (.inr (.inr dpf))))), (pa, .inr (3, [.int 0, .int pi, .int kd, .long t0, .int by9, .int su, .int du])), (q30, .inr (3, [.int 0, .int 0, .int 0, .long 0, .int 0, .int 0, .int 0]))] ++ (dplx kp dn ++ Q)) := hD
    refine z_astq hx hb hK hP hD hS 2 1 4 3 rfl rfl rfl rfl kp rfl (by omega) (by omega) d_Receiver_keepDone_37 (fun H locs hP hD hS => ?_)
    have hP : va_P D classes ([(rv, .inr (4, [.ref tp, .ref ln, .ref tb, .ref ca, .ref dp])), (ca, .inl (cI, 10, .inl cn)), (dp, .inl (cQ, 16, .inr (.inr (.inr (.inr (va_up dpf kp (some q30))))))), (pa, .inr (3, [.int 0, .int pi, .int kd, .long t0, .int by9, .int su, .int du])), (q30, .inr (3, [.int 0, .int 0, .int 0, .long 0, .int 0, .int 0, .int 0]))] ++ (dplx kp dn ++ Q)) H := hP
    have hD : va_D A ([(rv, .inr (4, [.ref tp, .ref ln, .ref tb, .ref ca, .ref dp])), (ca, .inl (cI, 10, .inl cn)), (dp, .inl (cQ, 16, .inr (.inr (.inr (.inr (va_up dpf kp (some q30))))))), (pa, .inr (3, [.int 0, .int pi, .int kd, .long t0, .int by9, .int su, .int du])), (q30, .inr (3, [.int 0, .int 0, .int 0, .long 0, .int 0, .int 0, .int 0]))] ++ (dplx kp dn ++ Q)) := hD
    refine lv_aload_n hx hb d_Receiver_keepDone_38 rfl (lv_at hl 1 rfl) ?_
    refine va_get (D := D) (ci := 4) (v := .ref dp) (C := R_Receiver) (T := F_Receiver) (N := 5) hx hb hts i_Receiver hown hK hP 0 rfl rfl 4 (by decide) (hts _ wd_183) (fun _ h9 => h9) rfl d_Receiver_keepDone_39 ?_
    refine lv_iload_n hx hb d_Receiver_keepDone_42 rfl (lv_at hl 0 rfl) ?_
    refine z_aldq hx hb hK hP 2 1 rfl rfl kp rfl (by omega) (by omega) d_Receiver_keepDone_43 ?_
    refine z_topq (w := some q30) (va_up_self _ _ _) ?_
    refine lv_aload_n hx hb d_Receiver_keepDone_44 rfl (lv_at hl 2 rfl) ?_
    have hPc := hP.sub (ws' := [(q30, .inr (3, [.int 0, .int 0, .int 0, .long 0, .int 0, .int 0, .int 0])), (pa, .inr (3, [.int 0, .int pi, .int kd, .long t0, .int by9, .int su, .int du]))]) [4, 3] rfl
    have hKc := hK.sub (tys' := []) [] rfl
    have hDc := hD.sub (ws' := [(q30, .inr (3, [.int 0, .int 0, .int 0, .long 0, .int 0, .int 0, .int 0])), (pa, .inr (3, [.int 0, .int pi, .int kd, .long t0, .int by9, .int su, .int du]))]) [4, 3] (by decide) rfl
    have hFc := va_free (wc := [(q30, .inr (3, [.int 0, .int 0, .int 0, .long 0, .int 0, .int 0, .int 0])), (pa, .inr (3, [.int 0, .int pi, .int kd, .long t0, .int by9, .int su, .int du]))]) hD hS hA [4, 3] rfl
    refine va_callv (va_runV (As := [.ref pa]) (rest := []) ⟨hx, hb, hml, hown, hts⟩ (c_Piece_copy l D H.size q30 pa 0 0 0 0 0 0 0 0 pi kd by9 su du t0 ) (z_cV hN wd_390 wd_77 wd_387 hd_Piece_copy rfl rfl ⟨Nat.le_of_ble_eq_true rfl, Nat.le_of_ble_eq_true rfl⟩ wd_388 wd_389) (z_preVm (va_recv (ci := 3) (q0 := 4) hK hP rfl rfl) hPc hKc hN hDc) rfl rfl hl.1 rfl (lv_room (Nat.le_of_ble_eq_true rfl)) d_Receiver_keepDone_45 ⟨Nat.le_of_ble_eq_true rfl, Nat.le_of_ble_eq_true rfl⟩) hS (fun q _ h => hFc q h) hFc (fun u45 t H locs ht hvm e45 hB hz1 hk1 hS => ?_)
    obtain ⟨hP1, hK1, hD1⟩ := hB
    rw [ht] at hP1
    obtain ⟨hP, hD⟩ := va_joinQ (cx := [(q30, .inr (3, [.int 0, .int 0, .int 0, .long 0, .int 0, .int 0, .int 0])), (pa, .inr (3, [.int 0, .int pi, .int kd, .long t0, .int by9, .int su, .int du]))]) (wr := [(rv, .inr (4, [.ref tp, .ref ln, .ref tb, .ref ca, .ref dp])), (ca, .inl (cI, 10, .inl cn)), (dp, .inl (cQ, 16, .inr (.inr (.inr (.inr (va_up dpf kp (some q30)))))))]) (w1 := [(q30, .inr (3, [.int 0, .int pi, .int kd, .long t0, .int by9, .int su, .int 0])), (pa, .inr (3, [.int 0, .int pi, .int kd, .long t0, .int by9, .int su, .int du]))]) hP hD [4, 3] [0, 1, 2] rfl rfl (by decide) (by decide) hk1 hFc hP1 hD1
    clear hk1 hP1 hD1 hFc hPc hDc hz1
    have hP : va_P D classes ([(rv, .inr (4, [.ref tp, .ref ln, .ref tb, .ref ca, .ref dp])), (ca, .inl (cI, 10, .inl cn)), (dp, .inl (cQ, 16, .inr (.inr (.inr (.inr (va_up dpf kp (some q30))))))), (q30, .inr (3, [.int 0, .int pi, .int kd, .long t0, .int by9, .int su, .int 0])), (pa, .inr (3, [.int 0, .int pi, .int kd, .long t0, .int by9, .int su, .int du]))] ++ (dplx kp dn ++ Q)) H := hP
    have hD : va_D A ([(rv, .inr (4, [.ref tp, .ref ln, .ref tb, .ref ca, .ref dp])), (ca, .inl (cI, 10, .inl cn)), (dp, .inl (cQ, 16, .inr (.inr (.inr (.inr (va_up dpf kp (some q30))))))), (q30, .inr (3, [.int 0, .int pi, .int kd, .long t0, .int by9, .int su, .int 0])), (pa, .inr (3, [.int 0, .int pi, .int kd, .long t0, .int by9, .int su, .int du]))] ++ (dplx kp dn ++ Q)) := hD
    refine lv_aload_n hx hb d_Receiver_keepDone_48 rfl (lv_at hl 1 rfl) ?_
    refine va_get (D := D) (ci := 4) (v := .ref ca) (C := R_Receiver) (T := F_Receiver) (N := 5) hx hb hts i_Receiver hown hK hP 0 rfl rfl 3 (by decide) (hts _ wd_181) (fun _ h9 => h9) rfl d_Receiver_keepDone_49 ?_
    refine lv_bipush (v := 9) hx hb d_Receiver_keepDone_52 (by decide) ?_
    refine lv_dup2_11 hx hb d_Receiver_keepDone_54 rfl rfl ?_
    refine z_iald hx hb hK hP 1 0 rfl rfl 9 rfl (by decide) (by decide) d_Receiver_keepDone_55 ?_
    refine lv_iconst (v := 1) hx hb d_Receiver_keepDone_56 (by decide) ?_
    refine lv_iadd hx hb d_Receiver_keepDone_57 ?_
    refine z_iast hx hb hK hP hD hS 1 0 rfl rfl 9 rfl (by decide) (by decide) d_Receiver_keepDone_58 (fun H locs hP hD hS => ?_)
    have hP : va_P D classes ([(rv, .inr (4, [.ref tp, .ref ln, .ref tb, .ref ca, .ref dp])), (ca, .inl (cI, 10, .inl (upd cn 9 ((cn 9) + 1)))), (dp, .inl (cQ, 16, .inr (.inr (.inr (.inr (va_up dpf kp (some q30))))))), (q30, .inr (3, [.int 0, .int pi, .int kd, .long t0, .int by9, .int su, .int 0])), (pa, .inr (3, [.int 0, .int pi, .int kd, .long t0, .int by9, .int su, .int du]))] ++ (dplx kp dn ++ Q)) H := hP
    have hD : va_D A ([(rv, .inr (4, [.ref tp, .ref ln, .ref tb, .ref ca, .ref dp])), (ca, .inl (cI, 10, .inl (upd cn 9 ((cn 9) + 1)))), (dp, .inl (cQ, 16, .inr (.inr (.inr (.inr (va_up dpf kp (some q30))))))), (q30, .inr (3, [.int 0, .int pi, .int kd, .long t0, .int by9, .int su, .int 0])), (pa, .inr (3, [.int 0, .int pi, .int kd, .long t0, .int by9, .int su, .int du]))] ++ (dplx kp dn ++ Q)) := hD
    rw [show upd cn 9 ((cn 9) + 1) = cup cn 9 from rfl] at hP hD
    have hP : va_P D classes ([(rv, .inr (4, [.ref tp, .ref ln, .ref tb, .ref ca, .ref dp])), (ca, .inl (cI, 10, .inl (cup cn 9))), (dp, .inl (cQ, 16, .inr (.inr (.inr (.inr (va_up dpf kp (some q30))))))), (q30, .inr (3, [.int 0, .int pi, .int kd, .long t0, .int by9, .int su, .int 0])), (pa, .inr (3, [.int 0, .int pi, .int kd, .long t0, .int by9, .int su, .int du]))] ++ (dplx kp dn ++ Q)) H := hP
    have hD : va_D A ([(rv, .inr (4, [.ref tp, .ref ln, .ref tb, .ref ca, .ref dp])), (ca, .inl (cI, 10, .inl (cup cn 9))), (dp, .inl (cQ, 16, .inr (.inr (.inr (.inr (va_up dpf kp (some q30))))))), (q30, .inr (3, [.int 0, .int pi, .int kd, .long t0, .int by9, .int su, .int 0])), (pa, .inr (3, [.int 0, .int pi, .int kd, .long t0, .int by9, .int su, .int du]))] ++ (dplx kp dn ++ Q)) := hD
    have hP := hP.part (cx := [(rv, .inr (4, [.ref tp, .ref ln, .ref tb, .ref ca, .ref dp])), (ca, .inl (cI, 10, .inl (cup cn 9))), (dp, .inl (cQ, 16, .inr (.inr (.inr (.inr (va_up dpf kp (some q30))))))), (pa, .inr (3, [.int 0, .int pi, .int kd, .long t0, .int by9, .int su, .int du])), (q30, .inr (3, [.int 0, .int pi, .int kd, .long t0, .int by9, .int su, .int 0]))]) [0, 1, 2, 4, 3] rfl
    have hD := hD.part (cx := [(rv, .inr (4, [.ref tp, .ref ln, .ref tb, .ref ca, .ref dp])), (ca, .inl (cI, 10, .inl (cup cn 9))), (dp, .inl (cQ, 16, .inr (.inr (.inr (.inr (va_up dpf kp (some q30))))))), (pa, .inr (3, [.int 0, .int pi, .int kd, .long t0, .int by9, .int su, .int du])), (q30, .inr (3, [.int 0, .int pi, .int kd, .long t0, .int by9, .int su, .int 0]))]) [0, 1, 2, 4, 3] (by decide) rfl
    have hP := z_Pp (dp_foc (X := [(rv, .inr (4, [.ref tp, .ref ln, .ref tb, .ref ca, .ref dp])), (ca, .inl (cI, 10, .inl (cup cn 9))), (dp, .inl (cQ, 16, .inr (.inr (.inr (.inr (va_up dpf kp (some q30))))))), (pa, .inr (3, [.int 0, .int pi, .int kd, .long t0, .int by9, .int su, .int du]))]) (dn := va_up dn kp (some (q30, 0, pi, kd, t0, by9, su, 0))) (Q := Q) hkl).symm (show va_P D classes ([(rv, .inr (4, [.ref tp, .ref ln, .ref tb, .ref ca, .ref dp])), (ca, .inl (cI, 10, .inl (cup cn 9))), (dp, .inl (cQ, 16, .inr (.inr (.inr (.inr (va_up dpf kp (some q30))))))), (pa, .inr (3, [.int 0, .int pi, .int kd, .long t0, .int by9, .int su, .int du]))] ++ (lzI (va_up dn kp (some (q30, 0, pi, kd, t0, by9, su, 0)) kp) ++ (dplx kp (va_up dn kp (some (q30, 0, pi, kd, t0, by9, su, 0))) ++ Q))) H from by rw [va_up_self, dpx_up]; exact hP)
    have hD := z_Dp (dp_foc (X := [(rv, .inr (4, [.ref tp, .ref ln, .ref tb, .ref ca, .ref dp])), (ca, .inl (cI, 10, .inl (cup cn 9))), (dp, .inl (cQ, 16, .inr (.inr (.inr (.inr (va_up dpf kp (some q30))))))), (pa, .inr (3, [.int 0, .int pi, .int kd, .long t0, .int by9, .int su, .int du]))]) (dn := va_up dn kp (some (q30, 0, pi, kd, t0, by9, su, 0))) (Q := Q) hkl).symm (show va_D A ([(rv, .inr (4, [.ref tp, .ref ln, .ref tb, .ref ca, .ref dp])), (ca, .inl (cI, 10, .inl (cup cn 9))), (dp, .inl (cQ, 16, .inr (.inr (.inr (.inr (va_up dpf kp (some q30))))))), (pa, .inr (3, [.int 0, .int pi, .int kd, .long t0, .int by9, .int su, .int du]))] ++ (lzI (va_up dn kp (some (q30, 0, pi, kd, t0, by9, su, 0)) kp) ++ (dplx kp (va_up dn kp (some (q30, 0, pi, kd, t0, by9, su, 0))) ++ Q))) from by rw [va_up_self, dpx_up]; exact hD)
    rw [hkp] at hP hD
    have hP : va_P D classes ([(rv, .inr (4, [.ref tp, .ref ln, .ref tb, .ref ca, .ref dp])), (ca, .inl (cI, 10, .inl (cup cn 9))), (dp, .inl (cQ, 16, .inr (.inr (.inr (.inr (va_up dpf (kdI (cn 9)) (some q30))))))), (pa, .inr (3, [.int 0, .int pi, .int kd, .long t0, .int by9, .int su, .int du]))] ++ (dpl (va_up dn (kdI (cn 9)) (some (q30, 0, pi, kd, t0, by9, su, 0))) ++ Q)) H := hP
    have hD : va_D A ([(rv, .inr (4, [.ref tp, .ref ln, .ref tb, .ref ca, .ref dp])), (ca, .inl (cI, 10, .inl (cup cn 9))), (dp, .inl (cQ, 16, .inr (.inr (.inr (.inr (va_up dpf (kdI (cn 9)) (some q30))))))), (pa, .inr (3, [.int 0, .int pi, .int kd, .long t0, .int by9, .int su, .int du]))] ++ (dpl (va_up dn (kdI (cn 9)) (some (q30, 0, pi, kd, t0, by9, su, 0))) ++ Q)) := hD
    have hP9 := hP.part (cx := [(rv, .inr (4, [.ref tp, .ref ln, .ref tb, .ref ca, .ref dp])), (ca, .inl (cI, 10, .inl (cup cn 9))), (dp, .inl (cQ, 16, .inr (.inr (.inr (.inr (va_up dpf (kdI (cn 9)) (some q30))))))), (pa, .inr (3, [.int 0, .int pi, .int kd, .long t0, .int by9, .int su, .int du]))]) [0, 1, 2, 3] rfl
    have hD9 := hD.part (cx := [(rv, .inr (4, [.ref tp, .ref ln, .ref tb, .ref ca, .ref dp])), (ca, .inl (cI, 10, .inl (cup cn 9))), (dp, .inl (cQ, 16, .inr (.inr (.inr (.inr (va_up dpf (kdI (cn 9)) (some q30))))))), (pa, .inr (3, [.int 0, .int pi, .int kd, .long t0, .int by9, .int su, .int du]))]) [0, 1, 2, 3] (by decide) rfl
    have hK9 := hK.sub (tys' := [(cI, .int), (cQ, .object "StreamSplitter$Piece")]) [0, 1] rfl
    refine W.widen (k := 1) (n := 7) (by omega) (by omega) ?_
    exact W.vret hx hb hr (fun t ht hW => ⟨⟨((q30, 0, pi, kd, t0, by9, su, 0), va_up dpf (kdI (cn 9)) (some q30)), rfl, ⟨rfl, by rw [← hkp]; exact dpok_up (v := (q30, 0, pi, kd, t0, by9, su, 0)) hdp⟩, ⟨by rw [ht]; exact hP9, va_K.moved hW.alike hK9, hD9⟩⟩, hS.F ht⟩) hS.2.2 d_Receiver_keepDone_59
  | some w =>
    have hP : va_P D classes ([(rv, .inr (4, [.ref tp, .ref ln, .ref tb, .ref ca, .ref dp])), (ca, .inl (cI, 10, .inl cn)), (dp, .inl (cQ, 16, .inr (.inr (.inr (.inr dpf))))), (pa, .inr (3, [.int op, .int pi, .int kd, .long t0, .int by9, .int su, .int du])), (w.1, .inr (3, [.int w.2.1, .int w.2.2.1, .int w.2.2.2.1, .long w.2.2.2.2.1, .int w.2.2.2.2.2.1, .int w.2.2.2.2.2.2.1, .int w.2.2.2.2.2.2.2]))] ++ (dplx kp dn ++ Q)) s.heap := hP
    have hD : va_D A ([(rv, .inr (4, [.ref tp, .ref ln, .ref tb, .ref ca, .ref dp])), (ca, .inl (cI, 10, .inl cn)), (dp, .inl (cQ, 16, .inr (.inr (.inr (.inr dpf))))), (pa, .inr (3, [.int op, .int pi, .int kd, .long t0, .int by9, .int su, .int du])), (w.1, .inr (3, [.int w.2.1, .int w.2.2.1, .int w.2.2.2.1, .long w.2.2.2.2.1, .int w.2.2.2.2.2.1, .int w.2.2.2.2.2.2.1, .int w.2.2.2.2.2.2.2]))] ++ (dplx kp dn ++ Q)) := hD
    refine lv_aload_n hx hb d_Receiver_keepDone_0 rfl (lv_at hl 1 rfl) ?_
    refine lv_iconst (v := 0) hx hb d_Receiver_keepDone_1 (by decide) ?_
    refine va_putN (D := D) (ci := 3) (v := .int 0) (ty := .boolean) (C := R_Piece) (T := F_Piece) (N := 7) hx hb hts i_Piece t_Piece t_Piece_ok n_Piece hown hK hP hD hS 3 rfl rfl 0 (by decide) (hts _ wd_359) (fun _ h9 => h9) rfl (by decide +kernel) rfl rfl (Nat.le_of_ble_eq_true rfl) d_Receiver_keepDone_2 (fun H locs hP hD hS => ?_)
    have hP : va_P D classes ([(rv, .inr (4, [.ref tp, .ref ln, .ref tb, .ref ca, .ref dp])), (ca, .inl (cI, 10, .inl cn)), (dp, .inl (cQ, 16, .inr (.inr (.inr (.inr dpf))))), (pa, .inr (3, [.int 0, .int pi, .int kd, .long t0, .int by9, .int su, .int du])), (w.1, .inr (3, [.int w.2.1, .int w.2.2.1, .int w.2.2.2.1, .long w.2.2.2.2.1, .int w.2.2.2.2.2.1, .int w.2.2.2.2.2.2.1, .int w.2.2.2.2.2.2.2]))] ++ (dplx kp dn ++ Q)) H := hP
    have hD : va_D A ([(rv, .inr (4, [.ref tp, .ref ln, .ref tb, .ref ca, .ref dp])), (ca, .inl (cI, 10, .inl cn)), (dp, .inl (cQ, 16, .inr (.inr (.inr (.inr dpf))))), (pa, .inr (3, [.int 0, .int pi, .int kd, .long t0, .int by9, .int su, .int du])), (w.1, .inr (3, [.int w.2.1, .int w.2.2.1, .int w.2.2.2.1, .long w.2.2.2.2.1, .int w.2.2.2.2.2.1, .int w.2.2.2.2.2.2.1, .int w.2.2.2.2.2.2.2]))] ++ (dplx kp dn ++ Q)) := hD
    refine lv_aload_n hx hb d_Receiver_keepDone_5 rfl (lv_at hl 0 rfl) ?_
    refine va_get (D := D) (ci := 4) (v := .ref ca) (C := R_Receiver) (T := F_Receiver) (N := 5) hx hb hts i_Receiver hown hK hP 0 rfl rfl 3 (by decide) (hts _ wd_181) (fun _ h9 => h9) rfl d_Receiver_keepDone_6 ?_
    refine lv_bipush (v := 9) hx hb d_Receiver_keepDone_9 (by decide) ?_
    refine z_iald hx hb hK hP 1 0 rfl rfl 9 rfl (by decide) (by decide) d_Receiver_keepDone_11 ?_
    refine lv_bipush (v := 15) hx hb d_Receiver_keepDone_12 (by decide) ?_
    refine lv_iand hx hb d_Receiver_keepDone_14 ?_
    refine z_topi (w := nI kp) (by rw [hkp]; exact pk_and _ 4 (by decide)) ?_
    refine lv_istore_n (lv' := [(2, .int (nI kp)), (0, .ref rv), (1, .ref pa)]) hx hb d_Receiver_keepDone_15 rfl hl (by decide) rfl (fun ls hl => ?_)
    refine lv_aload_n hx hb d_Receiver_keepDone_16 rfl (lv_at hl 1 rfl) ?_
    refine va_get (D := D) (ci := 4) (v := .ref dp) (C := R_Receiver) (T := F_Receiver) (N := 5) hx hb hts i_Receiver hown hK hP 0 rfl rfl 4 (by decide) (hts _ wd_183) (fun _ h9 => h9) rfl d_Receiver_keepDone_17 ?_
    refine lv_iload_n hx hb d_Receiver_keepDone_20 rfl (lv_at hl 0 rfl) ?_
    refine z_aldq hx hb hK hP 2 1 rfl rfl kp rfl (by omega) (by omega) d_Receiver_keepDone_21 ?_
    refine z_topq (w := some w.1) hdk ?_
    refine lv_ifnonnull (tgt := 38) hx hb d_Receiver_keepDone_22 rfl ?_
    refine lv_aload_n hx hb d_Receiver_keepDone_38 rfl (lv_at hl 1 rfl) ?_
    refine va_get (D := D) (ci := 4) (v := .ref dp) (C := R_Receiver) (T := F_Receiver) (N := 5) hx hb hts i_Receiver hown hK hP 0 rfl rfl 4 (by decide) (hts _ wd_183) (fun _ h9 => h9) rfl d_Receiver_keepDone_39 ?_
    refine lv_iload_n hx hb d_Receiver_keepDone_42 rfl (lv_at hl 0 rfl) ?_
    refine z_aldq hx hb hK hP 2 1 rfl rfl kp rfl (by omega) (by omega) d_Receiver_keepDone_43 ?_
    refine z_topq (w := some w.1) hdk ?_
    refine lv_aload_n hx hb d_Receiver_keepDone_44 rfl (lv_at hl 2 rfl) ?_
    have hPc := hP.sub (ws' := [(w.1, .inr (3, [.int w.2.1, .int w.2.2.1, .int w.2.2.2.1, .long w.2.2.2.2.1, .int w.2.2.2.2.2.1, .int w.2.2.2.2.2.2.1, .int w.2.2.2.2.2.2.2])), (pa, .inr (3, [.int 0, .int pi, .int kd, .long t0, .int by9, .int su, .int du]))]) [4, 3] rfl
    have hKc := hK.sub (tys' := []) [] rfl
    have hDc := hD.sub (ws' := [(w.1, .inr (3, [.int w.2.1, .int w.2.2.1, .int w.2.2.2.1, .long w.2.2.2.2.1, .int w.2.2.2.2.2.1, .int w.2.2.2.2.2.2.1, .int w.2.2.2.2.2.2.2])), (pa, .inr (3, [.int 0, .int pi, .int kd, .long t0, .int by9, .int su, .int du]))]) [4, 3] (by decide) rfl
    have hFc := va_free (wc := [(w.1, .inr (3, [.int w.2.1, .int w.2.2.1, .int w.2.2.2.1, .long w.2.2.2.2.1, .int w.2.2.2.2.2.1, .int w.2.2.2.2.2.2.1, .int w.2.2.2.2.2.2.2])), (pa, .inr (3, [.int 0, .int pi, .int kd, .long t0, .int by9, .int su, .int du]))]) hD hS hA [4, 3] rfl
    refine va_callv (va_runV (As := [.ref pa]) (rest := []) ⟨hx, hb, hml, hown, hts⟩ (c_Piece_copy l D H.size w.1 pa w.2.1 w.2.2.1 w.2.2.2.1 w.2.2.2.2.2.1 w.2.2.2.2.2.2.1 w.2.2.2.2.2.2.2 w.2.2.2.2.1 0 pi kd by9 su du t0 ) (z_cV hN wd_390 wd_77 wd_387 hd_Piece_copy rfl rfl ⟨Nat.le_of_ble_eq_true rfl, Nat.le_of_ble_eq_true rfl⟩ wd_388 wd_389) (z_preVm (va_recv (ci := 3) (q0 := 4) hK hP rfl rfl) hPc hKc hN hDc) rfl rfl hl.1 rfl (lv_room (Nat.le_of_ble_eq_true rfl)) d_Receiver_keepDone_45 ⟨Nat.le_of_ble_eq_true rfl, Nat.le_of_ble_eq_true rfl⟩) hS (fun q _ h => hFc q h) hFc (fun u45 t H locs ht hvm e45 hB hz1 hk1 hS => ?_)
    obtain ⟨hP1, hK1, hD1⟩ := hB
    rw [ht] at hP1
    obtain ⟨hP, hD⟩ := va_joinQ (cx := [(w.1, .inr (3, [.int w.2.1, .int w.2.2.1, .int w.2.2.2.1, .long w.2.2.2.2.1, .int w.2.2.2.2.2.1, .int w.2.2.2.2.2.2.1, .int w.2.2.2.2.2.2.2])), (pa, .inr (3, [.int 0, .int pi, .int kd, .long t0, .int by9, .int su, .int du]))]) (wr := [(rv, .inr (4, [.ref tp, .ref ln, .ref tb, .ref ca, .ref dp])), (ca, .inl (cI, 10, .inl cn)), (dp, .inl (cQ, 16, .inr (.inr (.inr (.inr dpf)))))]) (w1 := [(w.1, .inr (3, [.int w.2.1, .int pi, .int kd, .long t0, .int by9, .int su, .int w.2.2.2.2.2.2.2])), (pa, .inr (3, [.int 0, .int pi, .int kd, .long t0, .int by9, .int su, .int du]))]) hP hD [4, 3] [0, 1, 2] rfl rfl (by decide) (by decide) hk1 hFc hP1 hD1
    clear hk1 hP1 hD1 hFc hPc hDc hz1
    have hP : va_P D classes ([(rv, .inr (4, [.ref tp, .ref ln, .ref tb, .ref ca, .ref dp])), (ca, .inl (cI, 10, .inl cn)), (dp, .inl (cQ, 16, .inr (.inr (.inr (.inr dpf))))), (w.1, .inr (3, [.int w.2.1, .int pi, .int kd, .long t0, .int by9, .int su, .int w.2.2.2.2.2.2.2])), (pa, .inr (3, [.int 0, .int pi, .int kd, .long t0, .int by9, .int su, .int du]))] ++ (dplx kp dn ++ Q)) H := hP
    have hD : va_D A ([(rv, .inr (4, [.ref tp, .ref ln, .ref tb, .ref ca, .ref dp])), (ca, .inl (cI, 10, .inl cn)), (dp, .inl (cQ, 16, .inr (.inr (.inr (.inr dpf))))), (w.1, .inr (3, [.int w.2.1, .int pi, .int kd, .long t0, .int by9, .int su, .int w.2.2.2.2.2.2.2])), (pa, .inr (3, [.int 0, .int pi, .int kd, .long t0, .int by9, .int su, .int du]))] ++ (dplx kp dn ++ Q)) := hD
    refine lv_aload_n hx hb d_Receiver_keepDone_48 rfl (lv_at hl 1 rfl) ?_
    refine va_get (D := D) (ci := 4) (v := .ref ca) (C := R_Receiver) (T := F_Receiver) (N := 5) hx hb hts i_Receiver hown hK hP 0 rfl rfl 3 (by decide) (hts _ wd_181) (fun _ h9 => h9) rfl d_Receiver_keepDone_49 ?_
    refine lv_bipush (v := 9) hx hb d_Receiver_keepDone_52 (by decide) ?_
    refine lv_dup2_11 hx hb d_Receiver_keepDone_54 rfl rfl ?_
    refine z_iald hx hb hK hP 1 0 rfl rfl 9 rfl (by decide) (by decide) d_Receiver_keepDone_55 ?_
    refine lv_iconst (v := 1) hx hb d_Receiver_keepDone_56 (by decide) ?_
    refine lv_iadd hx hb d_Receiver_keepDone_57 ?_
    refine z_iast hx hb hK hP hD hS 1 0 rfl rfl 9 rfl (by decide) (by decide) d_Receiver_keepDone_58 (fun H locs hP hD hS => ?_)
    have hP : va_P D classes ([(rv, .inr (4, [.ref tp, .ref ln, .ref tb, .ref ca, .ref dp])), (ca, .inl (cI, 10, .inl (upd cn 9 ((cn 9) + 1)))), (dp, .inl (cQ, 16, .inr (.inr (.inr (.inr dpf))))), (w.1, .inr (3, [.int w.2.1, .int pi, .int kd, .long t0, .int by9, .int su, .int w.2.2.2.2.2.2.2])), (pa, .inr (3, [.int 0, .int pi, .int kd, .long t0, .int by9, .int su, .int du]))] ++ (dplx kp dn ++ Q)) H := hP
    have hD : va_D A ([(rv, .inr (4, [.ref tp, .ref ln, .ref tb, .ref ca, .ref dp])), (ca, .inl (cI, 10, .inl (upd cn 9 ((cn 9) + 1)))), (dp, .inl (cQ, 16, .inr (.inr (.inr (.inr dpf))))), (w.1, .inr (3, [.int w.2.1, .int pi, .int kd, .long t0, .int by9, .int su, .int w.2.2.2.2.2.2.2])), (pa, .inr (3, [.int 0, .int pi, .int kd, .long t0, .int by9, .int su, .int du]))] ++ (dplx kp dn ++ Q)) := hD
    rw [show upd cn 9 ((cn 9) + 1) = cup cn 9 from rfl] at hP hD
    have hP : va_P D classes ([(rv, .inr (4, [.ref tp, .ref ln, .ref tb, .ref ca, .ref dp])), (ca, .inl (cI, 10, .inl (cup cn 9))), (dp, .inl (cQ, 16, .inr (.inr (.inr (.inr dpf))))), (w.1, .inr (3, [.int w.2.1, .int pi, .int kd, .long t0, .int by9, .int su, .int w.2.2.2.2.2.2.2])), (pa, .inr (3, [.int 0, .int pi, .int kd, .long t0, .int by9, .int su, .int du]))] ++ (dplx kp dn ++ Q)) H := hP
    have hD : va_D A ([(rv, .inr (4, [.ref tp, .ref ln, .ref tb, .ref ca, .ref dp])), (ca, .inl (cI, 10, .inl (cup cn 9))), (dp, .inl (cQ, 16, .inr (.inr (.inr (.inr dpf))))), (w.1, .inr (3, [.int w.2.1, .int pi, .int kd, .long t0, .int by9, .int su, .int w.2.2.2.2.2.2.2])), (pa, .inr (3, [.int 0, .int pi, .int kd, .long t0, .int by9, .int su, .int du]))] ++ (dplx kp dn ++ Q)) := hD
    have hP := hP.part (cx := [(rv, .inr (4, [.ref tp, .ref ln, .ref tb, .ref ca, .ref dp])), (ca, .inl (cI, 10, .inl (cup cn 9))), (dp, .inl (cQ, 16, .inr (.inr (.inr (.inr dpf))))), (pa, .inr (3, [.int 0, .int pi, .int kd, .long t0, .int by9, .int su, .int du])), (w.1, .inr (3, [.int w.2.1, .int pi, .int kd, .long t0, .int by9, .int su, .int w.2.2.2.2.2.2.2]))]) [0, 1, 2, 4, 3] rfl
    have hD := hD.part (cx := [(rv, .inr (4, [.ref tp, .ref ln, .ref tb, .ref ca, .ref dp])), (ca, .inl (cI, 10, .inl (cup cn 9))), (dp, .inl (cQ, 16, .inr (.inr (.inr (.inr dpf))))), (pa, .inr (3, [.int 0, .int pi, .int kd, .long t0, .int by9, .int su, .int du])), (w.1, .inr (3, [.int w.2.1, .int pi, .int kd, .long t0, .int by9, .int su, .int w.2.2.2.2.2.2.2]))]) [0, 1, 2, 4, 3] (by decide) rfl
    have hP := z_Pp (dp_foc (X := [(rv, .inr (4, [.ref tp, .ref ln, .ref tb, .ref ca, .ref dp])), (ca, .inl (cI, 10, .inl (cup cn 9))), (dp, .inl (cQ, 16, .inr (.inr (.inr (.inr dpf))))), (pa, .inr (3, [.int 0, .int pi, .int kd, .long t0, .int by9, .int su, .int du]))]) (dn := va_up dn kp (some (w.1, w.2.1, pi, kd, t0, by9, su, w.2.2.2.2.2.2.2))) (Q := Q) hkl).symm (show va_P D classes ([(rv, .inr (4, [.ref tp, .ref ln, .ref tb, .ref ca, .ref dp])), (ca, .inl (cI, 10, .inl (cup cn 9))), (dp, .inl (cQ, 16, .inr (.inr (.inr (.inr dpf))))), (pa, .inr (3, [.int 0, .int pi, .int kd, .long t0, .int by9, .int su, .int du]))] ++ (lzI (va_up dn kp (some (w.1, w.2.1, pi, kd, t0, by9, su, w.2.2.2.2.2.2.2)) kp) ++ (dplx kp (va_up dn kp (some (w.1, w.2.1, pi, kd, t0, by9, su, w.2.2.2.2.2.2.2))) ++ Q))) H from by rw [va_up_self, dpx_up]; exact hP)
    have hD := z_Dp (dp_foc (X := [(rv, .inr (4, [.ref tp, .ref ln, .ref tb, .ref ca, .ref dp])), (ca, .inl (cI, 10, .inl (cup cn 9))), (dp, .inl (cQ, 16, .inr (.inr (.inr (.inr dpf))))), (pa, .inr (3, [.int 0, .int pi, .int kd, .long t0, .int by9, .int su, .int du]))]) (dn := va_up dn kp (some (w.1, w.2.1, pi, kd, t0, by9, su, w.2.2.2.2.2.2.2))) (Q := Q) hkl).symm (show va_D A ([(rv, .inr (4, [.ref tp, .ref ln, .ref tb, .ref ca, .ref dp])), (ca, .inl (cI, 10, .inl (cup cn 9))), (dp, .inl (cQ, 16, .inr (.inr (.inr (.inr dpf))))), (pa, .inr (3, [.int 0, .int pi, .int kd, .long t0, .int by9, .int su, .int du]))] ++ (lzI (va_up dn kp (some (w.1, w.2.1, pi, kd, t0, by9, su, w.2.2.2.2.2.2.2)) kp) ++ (dplx kp (va_up dn kp (some (w.1, w.2.1, pi, kd, t0, by9, su, w.2.2.2.2.2.2.2))) ++ Q))) from by rw [va_up_self, dpx_up]; exact hD)
    rw [hkp] at hP hD
    have hP : va_P D classes ([(rv, .inr (4, [.ref tp, .ref ln, .ref tb, .ref ca, .ref dp])), (ca, .inl (cI, 10, .inl (cup cn 9))), (dp, .inl (cQ, 16, .inr (.inr (.inr (.inr dpf))))), (pa, .inr (3, [.int 0, .int pi, .int kd, .long t0, .int by9, .int su, .int du]))] ++ (dpl (va_up dn (kdI (cn 9)) (some (w.1, w.2.1, pi, kd, t0, by9, su, w.2.2.2.2.2.2.2))) ++ Q)) H := hP
    have hD : va_D A ([(rv, .inr (4, [.ref tp, .ref ln, .ref tb, .ref ca, .ref dp])), (ca, .inl (cI, 10, .inl (cup cn 9))), (dp, .inl (cQ, 16, .inr (.inr (.inr (.inr dpf))))), (pa, .inr (3, [.int 0, .int pi, .int kd, .long t0, .int by9, .int su, .int du]))] ++ (dpl (va_up dn (kdI (cn 9)) (some (w.1, w.2.1, pi, kd, t0, by9, su, w.2.2.2.2.2.2.2))) ++ Q)) := hD
    have hP9 := hP.part (cx := [(rv, .inr (4, [.ref tp, .ref ln, .ref tb, .ref ca, .ref dp])), (ca, .inl (cI, 10, .inl (cup cn 9))), (dp, .inl (cQ, 16, .inr (.inr (.inr (.inr dpf))))), (pa, .inr (3, [.int 0, .int pi, .int kd, .long t0, .int by9, .int su, .int du]))]) [0, 1, 2, 3] rfl
    have hD9 := hD.part (cx := [(rv, .inr (4, [.ref tp, .ref ln, .ref tb, .ref ca, .ref dp])), (ca, .inl (cI, 10, .inl (cup cn 9))), (dp, .inl (cQ, 16, .inr (.inr (.inr (.inr dpf))))), (pa, .inr (3, [.int 0, .int pi, .int kd, .long t0, .int by9, .int su, .int du]))]) [0, 1, 2, 3] (by decide) rfl
    have hK9 := hK.sub (tys' := [(cI, .int), (cQ, .object "StreamSplitter$Piece")]) [0, 1] rfl
    refine W.widen (k := 1) (n := 7) (by omega) (by omega) ?_
    exact W.vret hx hb hr (fun t ht hW => ⟨⟨((w.1, w.2.1, pi, kd, t0, by9, su, w.2.2.2.2.2.2.2), dpf), rfl, ⟨rfl, by rw [← hkp]; exact dpok_same hdp hd0.symm rfl⟩, ⟨by rw [ht]; exact hP9, va_K.moved hW.alike hK9, hD9⟩⟩, hS.F ht⟩) hS.2.2 d_Receiver_keepDone_59
