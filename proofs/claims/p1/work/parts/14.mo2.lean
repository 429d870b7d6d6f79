theorem wd_55 : (Jvm.Cond.selects "StreamSplitterModel" ({ cls := "StreamSplitterModel", name := "put", desc := "(JI)V" } : Jvm.MethodName) ({ cls := "StreamSplitterModel", name := "put", desc := "(JI)V" } : Jvm.MethodName)) ∈ lw_ok := List.mem_filter.mpr ⟨List.mem_of_getElem? (i := 55) (by decide +kernel), rfl⟩
theorem wd_1140 : (Jvm.Cond.fieldLink "StreamSplitterModel" (151 : Nat) "StreamSplitterModel" "row" "[I") ∈ lw_ok := List.mem_filter.mpr ⟨List.mem_of_getElem? (i := 1140) (by decide +kernel), rfl⟩
theorem wd_1141 : (Jvm.Cond.fieldLink "StreamSplitterModel" (280 : Nat) "StreamSplitterModel" "rowSize" "I") ∈ lw_ok := List.mem_filter.mpr ⟨List.mem_of_getElem? (i := 1141) (by decide +kernel), rfl⟩
theorem wd_1282 : (Jvm.Cond.methodLink "StreamSplitterModel" (169 : Nat) ({ cls := "StreamSplitterModel", name := "checkOn", desc := "(II)I" } : Jvm.MethodName)) ∈ lw_ok := List.mem_filter.mpr ⟨List.mem_of_getElem? (i := 1282) (by decide +kernel), rfl⟩
theorem wd_1283 : (Jvm.Cond.static ({ cls := "StreamSplitterModel", name := "checkOn", desc := "(II)I" } : Jvm.MethodName)) ∈ lw_ok := List.mem_filter.mpr ⟨List.mem_of_getElem? (i := 1283) (by decide +kernel), rfl⟩
set_option maxRecDepth 100000 in
theorem wd_1284 : (Jvm.Cond.code ({ cls := "StreamSplitterModel", name := "checkOn", desc := "(II)I" } : Jvm.MethodName) prog_14_method_8_code (5 : Nat) (Option.some Jvm.ClassFile.FieldType.int)) ∈ lw_ok := List.mem_filter.mpr ⟨List.mem_of_getElem? (i := 1284) (by rfl), rfl⟩
theorem wd_1414 : (Jvm.Cond.constantLong "StreamSplitterModel" (274 : Nat) (4294967295 : Int64)) ∈ lw_ok := List.mem_filter.mpr ⟨List.mem_of_getElem? (i := 1414) (by decide +kernel), rfl⟩
theorem wd_1448 : (Jvm.Cond.methodLink "StreamSplitterModel" (283 : Nat) ({ cls := "StreamSplitterModel", name := "put", desc := "(JI)V" } : Jvm.MethodName)) ∈ lw_ok := List.mem_filter.mpr ⟨List.mem_of_getElem? (i := 1448) (by decide +kernel), rfl⟩
theorem wd_1450 : (Jvm.Cond.instanceMethod ({ cls := "StreamSplitterModel", name := "put", desc := "(JI)V" } : Jvm.MethodName)) ∈ lw_ok := List.mem_filter.mpr ⟨List.mem_of_getElem? (i := 1450) (by decide +kernel), rfl⟩
set_option maxRecDepth 100000 in
theorem wd_1451 : (Jvm.Cond.code ({ cls := "StreamSplitterModel", name := "put", desc := "(JI)V" } : Jvm.MethodName) prog_14_method_46_code (5 : Nat) (Option.none : Option Jvm.ClassFile.FieldType)) ∈ lw_ok := List.mem_filter.mpr ⟨List.mem_of_getElem? (i := 1451) (by rfl), rfl⟩
theorem hd_Mo_checkOn : y_Mo_checkOn.cls ≠ "java/lang/invoke/MethodHandle" ∧ y_Mo_checkOn.cls ≠ "java/lang/invoke/VarHandle" ∧ (parseMethodDescriptor y_Mo_checkOn.desc).map (fun d => d.parameters.length) = some 2 := by decide +kernel
theorem hd_Mo_put : y_Mo_put.cls ≠ "java/lang/invoke/MethodHandle" ∧ y_Mo_put.cls ≠ "java/lang/invoke/VarHandle" ∧ (parseMethodDescriptor y_Mo_put.desc).map (fun d => d.parameters.length) = some 2 := by decide +kernel
theorem d_Mo_hasRoom_0 : decode b_Mo_hasRoom 0 = .ok (.aload_n 0, 1) := by decide +kernel
theorem d_Mo_hasRoom_1 : decode b_Mo_hasRoom 1 = .ok (.getfield 159, 3) := by decide +kernel
theorem d_Mo_hasRoom_4 : decode b_Mo_hasRoom 4 = .ok (.iload_n 1, 1) := by decide +kernel
theorem d_Mo_hasRoom_5 : decode b_Mo_hasRoom 5 = .ok (.sipush 183, 3) := by decide +kernel
theorem d_Mo_hasRoom_8 : decode b_Mo_hasRoom 8 = .ok (.iadd, 1) := by decide +kernel
theorem d_Mo_hasRoom_9 : decode b_Mo_hasRoom 9 = .ok (.sipush 184, 3) := by decide +kernel
theorem d_Mo_hasRoom_12 : decode b_Mo_hasRoom 12 = .ok (.idiv, 1) := by decide +kernel
theorem d_Mo_hasRoom_13 : decode b_Mo_hasRoom 13 = .ok (.sipush 188, 3) := by decide +kernel
theorem d_Mo_hasRoom_16 : decode b_Mo_hasRoom 16 = .ok (.imul, 1) := by decide +kernel
theorem d_Mo_hasRoom_17 : decode b_Mo_hasRoom 17 = .ok (.iadd, 1) := by decide +kernel
theorem d_Mo_hasRoom_18 : decode b_Mo_hasRoom 18 = .ok (.sipush 9400, 3) := by decide +kernel
theorem d_Mo_hasRoom_21 : decode b_Mo_hasRoom 21 = .ok (.if_icmp .gt 7, 3) := by decide +kernel
theorem d_Mo_hasRoom_24 : decode b_Mo_hasRoom 24 = .ok (.iconst 1, 1) := by decide +kernel
theorem d_Mo_hasRoom_25 : decode b_Mo_hasRoom 25 = .ok (.goto 4, 3) := by decide +kernel
theorem d_Mo_hasRoom_28 : decode b_Mo_hasRoom 28 = .ok (.iconst 0, 1) := by decide +kernel
theorem d_Mo_hasRoom_29 : decode b_Mo_hasRoom 29 = .ok (.ireturn, 1) := by decide +kernel
theorem d_Mo_put_0 : decode b_Mo_put 0 = .ok (.iload_n 3, 1) := by decide +kernel
theorem d_Mo_put_1 : decode b_Mo_put 1 = .ok (.iconst 1, 1) := by decide +kernel
theorem d_Mo_put_2 : decode b_Mo_put 2 = .ok (.isub, 1) := by decide +kernel
theorem d_Mo_put_3 : decode b_Mo_put 3 = .ok (.istore 4, 2) := by decide +kernel
theorem d_Mo_put_5 : decode b_Mo_put 5 = .ok (.iload 4, 2) := by decide +kernel
theorem d_Mo_put_7 : decode b_Mo_put 7 = .ok (.ifCond .lt 40, 3) := by decide +kernel
theorem d_Mo_put_10 : decode b_Mo_put 10 = .ok (.aload_n 0, 1) := by decide +kernel
theorem d_Mo_put_11 : decode b_Mo_put 11 = .ok (.getfield 151, 3) := by decide +kernel
theorem d_Mo_put_14 : decode b_Mo_put 14 = .ok (.aload_n 0, 1) := by decide +kernel
theorem d_Mo_put_15 : decode b_Mo_put 15 = .ok (.getfield 280, 3) := by decide +kernel
theorem d_Mo_put_18 : decode b_Mo_put 18 = .ok (.lload_n 1, 1) := by decide +kernel
theorem d_Mo_put_19 : decode b_Mo_put 19 = .ok (.bipush 8, 2) := by decide +kernel
theorem d_Mo_put_21 : decode b_Mo_put 21 = .ok (.iload 4, 2) := by decide +kernel
theorem d_Mo_put_23 : decode b_Mo_put 23 = .ok (.imul, 1) := by decide +kernel
theorem d_Mo_put_24 : decode b_Mo_put 24 = .ok (.lshr, 1) := by decide +kernel
theorem d_Mo_put_25 : decode b_Mo_put 25 = .ok (.ldc2_w 162, 3) := by decide +kernel
theorem d_Mo_put_28 : decode b_Mo_put 28 = .ok (.land, 1) := by decide +kernel
theorem d_Mo_put_29 : decode b_Mo_put 29 = .ok (.l2i, 1) := by decide +kernel
theorem d_Mo_put_30 : decode b_Mo_put 30 = .ok (.iastore, 1) := by decide +kernel
theorem d_Mo_put_31 : decode b_Mo_put 31 = .ok (.aload_n 0, 1) := by decide +kernel
theorem d_Mo_put_32 : decode b_Mo_put 32 = .ok (.dup, 1) := by decide +kernel
theorem d_Mo_put_33 : decode b_Mo_put 33 = .ok (.getfield 280, 3) := by decide +kernel
theorem d_Mo_put_36 : decode b_Mo_put 36 = .ok (.iconst 1, 1) := by decide +kernel
theorem d_Mo_put_37 : decode b_Mo_put 37 = .ok (.iadd, 1) := by decide +kernel
theorem d_Mo_put_38 : decode b_Mo_put 38 = .ok (.putfield 280, 3) := by decide +kernel
theorem d_Mo_put_41 : decode b_Mo_put 41 = .ok (.iinc 4 (-1), 3) := by decide +kernel
theorem d_Mo_put_44 : decode b_Mo_put 44 = .ok (.goto (-39), 3) := by decide +kernel
theorem d_Mo_put_47 : decode b_Mo_put 47 = .ok (.return_, 1) := by decide +kernel
theorem d_Mo_sealRow_0 : decode b_Mo_sealRow 0 = .ok (.aload_n 0, 1) := by decide +kernel
theorem d_Mo_sealRow_1 : decode b_Mo_sealRow 1 = .ok (.getfield 151, 3) := by decide +kernel
theorem d_Mo_sealRow_4 : decode b_Mo_sealRow 4 = .ok (.iconst 2, 1) := by decide +kernel
theorem d_Mo_sealRow_5 : decode b_Mo_sealRow 5 = .ok (.iload_n 1, 1) := by decide +kernel
theorem d_Mo_sealRow_6 : decode b_Mo_sealRow 6 = .ok (.iconst 4, 1) := by decide +kernel
theorem d_Mo_sealRow_7 : decode b_Mo_sealRow 7 = .ok (.ishl, 1) := by decide +kernel
theorem d_Mo_sealRow_8 : decode b_Mo_sealRow 8 = .ok (.aload_n 0, 1) := by decide +kernel
theorem d_Mo_sealRow_9 : decode b_Mo_sealRow 9 = .ok (.getfield 280, 3) := by decide +kernel
theorem d_Mo_sealRow_12 : decode b_Mo_sealRow 12 = .ok (.bipush 8, 2) := by decide +kernel
theorem d_Mo_sealRow_14 : decode b_Mo_sealRow 14 = .ok (.ishr, 1) := by decide +kernel
theorem d_Mo_sealRow_15 : decode b_Mo_sealRow 15 = .ok (.ior, 1) := by decide +kernel
theorem d_Mo_sealRow_16 : decode b_Mo_sealRow 16 = .ok (.iastore, 1) := by decide +kernel
theorem d_Mo_sealRow_17 : decode b_Mo_sealRow 17 = .ok (.aload_n 0, 1) := by decide +kernel
theorem d_Mo_sealRow_18 : decode b_Mo_sealRow 18 = .ok (.getfield 151, 3) := by decide +kernel
theorem d_Mo_sealRow_21 : decode b_Mo_sealRow 21 = .ok (.iconst 3, 1) := by decide +kernel
theorem d_Mo_sealRow_22 : decode b_Mo_sealRow 22 = .ok (.aload_n 0, 1) := by decide +kernel
theorem d_Mo_sealRow_23 : decode b_Mo_sealRow 23 = .ok (.getfield 280, 3) := by decide +kernel
theorem d_Mo_sealRow_26 : decode b_Mo_sealRow 26 = .ok (.sipush 255, 3) := by decide +kernel
theorem d_Mo_sealRow_29 : decode b_Mo_sealRow 29 = .ok (.iand, 1) := by decide +kernel
theorem d_Mo_sealRow_30 : decode b_Mo_sealRow 30 = .ok (.iastore, 1) := by decide +kernel
theorem d_Mo_sealRow_31 : decode b_Mo_sealRow 31 = .ok (.iconst (-1), 1) := by decide +kernel
theorem d_Mo_sealRow_32 : decode b_Mo_sealRow 32 = .ok (.istore_n 2, 1) := by decide +kernel
theorem d_Mo_sealRow_33 : decode b_Mo_sealRow 33 = .ok (.iconst 1, 1) := by decide +kernel
theorem d_Mo_sealRow_34 : decode b_Mo_sealRow 34 = .ok (.istore_n 3, 1) := by decide +kernel
theorem d_Mo_sealRow_35 : decode b_Mo_sealRow 35 = .ok (.iload_n 3, 1) := by decide +kernel
theorem d_Mo_sealRow_36 : decode b_Mo_sealRow 36 = .ok (.aload_n 0, 1) := by decide +kernel
theorem d_Mo_sealRow_37 : decode b_Mo_sealRow 37 = .ok (.getfield 280, 3) := by decide +kernel
theorem d_Mo_sealRow_40 : decode b_Mo_sealRow 40 = .ok (.if_icmp .ge 20, 3) := by decide +kernel
theorem d_Mo_sealRow_43 : decode b_Mo_sealRow 43 = .ok (.iload_n 2, 1) := by decide +kernel
theorem d_Mo_sealRow_44 : decode b_Mo_sealRow 44 = .ok (.aload_n 0, 1) := by decide +kernel
theorem d_Mo_sealRow_45 : decode b_Mo_sealRow 45 = .ok (.getfield 151, 3) := by decide +kernel
theorem d_Mo_sealRow_48 : decode b_Mo_sealRow 48 = .ok (.iload_n 3, 1) := by decide +kernel
theorem d_Mo_sealRow_49 : decode b_Mo_sealRow 49 = .ok (.iaload, 1) := by decide +kernel
theorem d_Mo_sealRow_50 : decode b_Mo_sealRow 50 = .ok (.invokestatic 169, 3) := by decide +kernel
theorem d_Mo_sealRow_53 : decode b_Mo_sealRow 53 = .ok (.istore_n 2, 1) := by decide +kernel
theorem d_Mo_sealRow_54 : decode b_Mo_sealRow 54 = .ok (.iinc 3 1, 3) := by decide +kernel
theorem d_Mo_sealRow_57 : decode b_Mo_sealRow 57 = .ok (.goto (-22), 3) := by decide +kernel
theorem d_Mo_sealRow_60 : decode b_Mo_sealRow 60 = .ok (.aload_n 0, 1) := by decide +kernel
theorem d_Mo_sealRow_61 : decode b_Mo_sealRow 61 = .ok (.iload_n 2, 1) := by decide +kernel
theorem d_Mo_sealRow_62 : decode b_Mo_sealRow 62 = .ok (.i2l, 1) := by decide +kernel
theorem d_Mo_sealRow_63 : decode b_Mo_sealRow 63 = .ok (.ldc2_w 274, 3) := by decide +kernel
theorem d_Mo_sealRow_66 : decode b_Mo_sealRow 66 = .ok (.land, 1) := by decide +kernel
theorem d_Mo_sealRow_67 : decode b_Mo_sealRow 67 = .ok (.iconst 4, 1) := by decide +kernel
theorem d_Mo_sealRow_68 : decode b_Mo_sealRow 68 = .ok (.invokevirtual 283, 3) := by decide +kernel
theorem d_Mo_sealRow_71 : decode b_Mo_sealRow 71 = .ok (.aload_n 0, 1) := by decide +kernel
theorem d_Mo_sealRow_72 : decode b_Mo_sealRow 72 = .ok (.getfield 280, 3) := by decide +kernel
theorem d_Mo_sealRow_75 : decode b_Mo_sealRow 75 = .ok (.sipush 184, 3) := by decide +kernel
theorem d_Mo_sealRow_78 : decode b_Mo_sealRow 78 = .ok (.irem, 1) := by decide +kernel
theorem d_Mo_sealRow_79 : decode b_Mo_sealRow 79 = .ok (.ifCond .eq 14, 3) := by decide +kernel
theorem d_Mo_sealRow_82 : decode b_Mo_sealRow 82 = .ok (.aload_n 0, 1) := by decide +kernel
theorem d_Mo_sealRow_83 : decode b_Mo_sealRow 83 = .ok (.ldc2_w 162, 3) := by decide +kernel
theorem d_Mo_sealRow_86 : decode b_Mo_sealRow 86 = .ok (.iconst 1, 1) := by decide +kernel
theorem d_Mo_sealRow_87 : decode b_Mo_sealRow 87 = .ok (.invokevirtual 283, 3) := by decide +kernel
theorem d_Mo_sealRow_90 : decode b_Mo_sealRow 90 = .ok (.goto (-19), 3) := by decide +kernel
theorem d_Mo_sealRow_93 : decode b_Mo_sealRow 93 = .ok (.return_, 1) := by decide +kernel
theorem pt_inv {g : Nat → Int32} {L : List Int32} {v : Int64} {c k : Nat} (hg : rl g (L ++ (bsL v c).take (c - (k + 1)))) (h : k < c) : rl (upd g (L.length + (c - (k + 1))) (pb v k)) (L ++ (bsL v c).take (c - k)) := by
  have e := rl_snoc (x := pb v k) hg
  rw [List.length_append, List.length_take, bs_len, Nat.min_eq_left (by omega), List.append_assoc, ← bs_take v h] at e
  exact e
theorem sl_rem {M : List Int32} (h : M.length ≤ 184) (h1 : 1 ≤ M.length) (h2 : nI M.length - nI M.length / 184 * 184 = 0) : M.length = 184 := by
  have h3 : nI M.length - nI M.length / nI 184 * nI 184 = 0 := h2
  rw [pk_rem (by omega) (by omega) (by omega)] at h3
  have h4 : M.length % 184 = 0 := (nI_eq (b := 0) (by omega) (by omega)).mp h3
  omega
theorem sl_nrem {M : List Int32} (h : M.length ≤ 184) (h2 : ¬ nI M.length - nI M.length / 184 * 184 = 0) : M.length < 184 := by
  apply Decidable.byContradiction
  intro h5
  have e : M.length = 184 := by omega
  apply h2
  rw [e]
  decide
theorem sl_pad {M X : List Int32} (h : M ++ List.replicate (184 - M.length) 255 = X) (h1 : M.length < 184) : (M ++ bsL 255 1) ++ List.replicate (184 - (M ++ bsL 255 1).length) 255 = X := by
  rw [← h, List.length_append, bs_len, bs_1, pb255, List.append_assoc]
  congr 1
  rw [show 184 - M.length = (184 - (M.length + 1)) + 1 by omega, List.replicate_succ]
  rfl

set_option maxHeartbeats 4000000 in
set_option maxRecDepth 100000 in
theorem c_Mo_put (l : Launch) (D : va_G) (sz : Nat) (cI : ClassId) (h : Nat) (r : Nat → Nat) (th si le lv pg pn pl : Int32) (L : List Int32) (ro : Nat → Int32) (v : Int64) (c : Nat) (hro : rl ro L) (hL : L.length + c ≤ 4200) (hc1 : 1 ≤ c) (hc : c ≤ 8) : Met l y_Mo_put [Cond.code y_Mo_put b_Mo_put 5 none] ({ frames := 0, cells := 0, slots := 0, locals := 0 }) (zM [.ref h, .long v, .int (nI c)] D [(h, .inr (13, mO r th si le lv pg pn pl (nI L.length))), (r 52, .inl (cI, 4200, .inl ro))] [(cI, .int)] sz) (va_Qv (fun (u : Nat → Int32) => rl u (L ++ bsL v c)) (fun (u : Nat → Int32) t => zW D (va_A [(h, .inr (13, mO r th si le lv pg pn pl (nI L.length))), (r 52, .inl (cI, 4200, .inl ro))] sz) [(h, .inr (13, mO r th si le lv pg pn pl (nI (L ++ bsL v c).length))), (r 52, .inl (cI, 4200, .inl u))] [(cI, .int)] t) (va_A [(h, .inr (13, mO r th si le lv pg pn pl (nI L.length))), (r 52, .inl (cI, 4200, .inl ro))] sz)) 0 0 (va_A [(h, .inr (13, mO r th si le lv pg pn pl (nI L.length))), (r 52, .inl (cI, 4200, .inl ro))] sz) := by
  refine Met.ofW (cc := b_Mo_put) (maxL := 5) (ret := none) (by decide) rfl ?_
  intro p e s m args below meth cd s₁ Bd hml hv
  obtain ⟨rfl, hsz, hP, hK, hN, hD0⟩ := hv
  have hx := Bd.exec
  have hb := Bd.bytes
  have hr := Bd.returns
  have hts := hN.use (a := ([.ref h, .long v, .int (nI c)]).toArray)
  have hown : s.vm.findClass R_Mo = some m.cls := findClass_of_methodNamed Bd.named
  have hlocks := Bd.notSynchronized
  subst hsz
  have hD := hD0.self (sz := s.heap.size)
  clear hD0
  have hA : ∀ q : Nat, s.heap.size ≤ q → va_A [(h, .inr (13, mO r th si le lv pg pn pl (nI L.length))), (r 52, .inl (cI, 4200, .inl ro))] s.heap.size q := fun q h => Or.inr h
  have hS : va_S (va_A [(h, .inr (13, mO r th si le lv pg pn pl (nI L.length))), (r 52, .inl (cI, 4200, .inl ro))] s.heap.size) s.heap s.heap [] := va_S.rf
  generalize hAe : va_A [(h, .inr (13, mO r th si le lv pg pn pl (nI L.length))), (r 52, .inl (cI, 4200, .inl ro))] s.heap.size = A at hD hA hS ⊢
  have hP : va_P D classes [(h, .inr (13, mO r th si le lv pg pn pl (nI L.length))), (r 52, .inl (cI, 4200, .inl ro))] s.heap := hP
  have hl := lv_entry ([.ref h, .long v, .int (nI c)]) (n := 5) (Nat.le_of_ble_eq_true rfl)
  rw [lg_entry_eq]
  generalize (lg_sl ([.ref h, .long v, .int (nI c)]) ++ List.replicate (5 - (lg_sl ([.ref h, .long v, .int (nI c)])).length) Slot.unset).toArray = ls at hl ⊢
  have hl : lv_has ls 5 [(0, .ref h), (1, .long v), (3, .int (nI c))] := hl
  refine lv_iload_n hx hb d_Mo_put_0 rfl (lv_at hl 2 rfl) ?_
  refine lv_iconst (v := 1) hx hb d_Mo_put_1 (by decide) ?_
  refine lv_isub hx hb d_Mo_put_2 ?_
  refine z_topi (w := nI c - 1) rfl ?_
  refine lv_istore (lv' := [(4, .int (nI c - 1)), (0, .ref h), (1, .long v), (3, .int (nI c))]) hx hb d_Mo_put_3 hl (by decide) rfl (fun ls hl => ?_)
  have loop5 : ∀ (N : Nat) (m9 : Nat) (g : Nat → Int32) (H : Heap) (locs : List Loc) (ls : Array Slot) (hm : m9 < N) (hm9 : m9 ≤ c) (hg : rl g (L ++ (bsL v c).take (c - m9))) (hl : lv_has ls 5 [(0, .ref h), (1, .long v), (4, .int (nI m9 - 1))]) (hP : va_P D classes [(h, .inr (13, mO r th si le lv pg pn pl (nI (L.length + (c - m9))))), (r 52, .inl (cI, 4200, .inl g))] H) (hD : va_D A [(h, .inr (13, mO r th si le lv pg pn pl (nI (L.length + (c - m9))))), (r 52, .inl (cI, 4200, .inl g))]) (hS : va_S A s.heap H locs), W p l e ({ frames := 0, cells := 0, slots := 0, locals := 0 }) s m ([.ref h, .long v, .int (nI c)]).toArray below meth cd H locs 0 0 (MQ below (va_Qv (fun (u : Nat → Int32) => rl u (L ++ bsL v c)) (fun (u : Nat → Int32) t => zW D (A) [(h, .inr (13, mO r th si le lv pg pn pl (nI (L ++ bsL v c).length))), (r 52, .inl (cI, 4200, .inl u))] [(cI, .int)] t) (A)) ([.ref h, .long v, .int (nI c)]).toArray s 0 0 (A)) (F0 m 5 ls []) := by
    intro N5
    induction N5 with
    | zero => intro m9 g H locs ls hm hm9 hg hl hP hD hS; exact absurd hm (Nat.not_lt_zero _)
    | succ N5 ih5 =>
      intro m9 g H locs ls hm hm9 hg hl hP hD hS
      refine lv_iload hx hb d_Mo_put_5 (lv_at hl 2 rfl) ?_
      refine lv_if_lt (tgt := 47) hx hb d_Mo_put_7 rfl (fun h7 => ?_) (fun h7 => ?_)
      · obtain rfl : m9 = 0 := pm_out (by omega) h7
        rw [show L.length + (c - 0) = (L ++ bsL v c).length by rw [List.length_append, bs_len]; omega] at hP hD
        have hP9 := hP.sub (ws' := [(h, .inr (13, mO r th si le lv pg pn pl (nI (L ++ bsL v c).length))), (r 52, .inl (cI, 4200, .inl g))]) [0, 1] rfl
        have hD9 := hD.sub (ws' := [(h, .inr (13, mO r th si le lv pg pn pl (nI (L ++ bsL v c).length))), (r 52, .inl (cI, 4200, .inl g))]) [0, 1] (by decide) rfl
        have hK9 := hK.sub (tys' := [(cI, .int)]) [0] rfl
        exact W.vret hx hb hr (fun t ht hW => ⟨⟨g, rfl, (by dsimp only; rw [Nat.sub_zero, show (bsL v c).take c = bsL v c from List.take_of_length_le (by rw [bs_len]; exact Nat.le_refl _)] at hg; exact hg), ⟨by rw [ht]; exact hP9, va_K.moved hW.alike hK9, hD9⟩⟩, hS.F ht⟩) hS.2.2 d_Mo_put_47
      · obtain ⟨k, hk⟩ := pm_in (by omega) h7
        subst hk
        refine lv_aload_n hx hb d_Mo_put_10 rfl (lv_at hl 0 rfl) ?_
        refine va_get (D := D) (ci := 13) (v := .ref (r 52)) (C := R_Mo) (T := F_Mo) (N := 54) hx hb hts i_Mo hown hK hP 0 rfl rfl 52 (by decide) (hts _ wd_1140) (fun _ h9 => h9) rfl d_Mo_put_11 ?_
        refine lv_aload_n hx hb d_Mo_put_14 rfl (lv_at hl 0 rfl) ?_
        refine va_get (D := D) (ci := 13) (v := .int (nI (L.length + (c - (k + 1))))) (C := R_Mo) (T := F_Mo) (N := 54) hx hb hts i_Mo hown hK hP 0 rfl rfl 53 (by decide) (hts _ wd_1141) (fun _ h9 => h9) rfl d_Mo_put_15 ?_
        refine lv_lload_n hx hb d_Mo_put_18 rfl (lv_at hl 1 rfl) ?_
        refine lv_bipush (v := 8) hx hb d_Mo_put_19 (by decide) ?_
        refine lv_iload hx hb d_Mo_put_21 (lv_at hl 2 rfl) ?_
        refine z_topi (w := nI k) (nI_pred k) ?_
        refine lv_imul hx hb d_Mo_put_23 ?_
        refine lv_lshr (v := v >>> ((8 * (nI k)).toInt64 &&& 63)) hx hb d_Mo_put_24 rfl ?_
        refine lv_ldc2 hx hb hown (hts _ wd_1261) d_Mo_put_25 ?_
        refine lv_land hx hb d_Mo_put_28 ?_
        refine lv_l2i (v := ((v >>> ((8 * (nI k)).toInt64 &&& 63)) &&& 255).toInt32) hx hb d_Mo_put_29 rfl ?_
        refine z_topi (w := pb v k) rfl ?_
        refine z_iast hx hb hK hP hD hS 1 0 rfl rfl (L.length + (c - (k + 1))) rfl (by omega) (by omega) d_Mo_put_30 (fun H locs hP hD hS => ?_)
        have hP : va_P D classes [(h, .inr (13, mO r th si le lv pg pn pl (nI (L.length + (c - (k + 1)))))), (r 52, .inl (cI, 4200, .inl (upd g (L.length + (c - (k + 1))) (pb v k))))] H := hP
        have hD : va_D A [(h, .inr (13, mO r th si le lv pg pn pl (nI (L.length + (c - (k + 1)))))), (r 52, .inl (cI, 4200, .inl (upd g (L.length + (c - (k + 1))) (pb v k))))] := hD
        refine lv_aload_n hx hb d_Mo_put_31 rfl (lv_at hl 0 rfl) ?_
        refine lv_dup hx hb d_Mo_put_32 rfl ?_
        refine va_get (D := D) (ci := 13) (v := .int (nI (L.length + (c - (k + 1))))) (C := R_Mo) (T := F_Mo) (N := 54) hx hb hts i_Mo hown hK hP 0 rfl rfl 53 (by decide) (hts _ wd_1141) (fun _ h9 => h9) rfl d_Mo_put_33 ?_
        refine lv_iconst (v := 1) hx hb d_Mo_put_36 (by decide) ?_
        refine lv_iadd hx hb d_Mo_put_37 ?_
        refine z_topi (w := nI (L.length + (c - k))) (by rw [nI_1]; congr 1; omega) ?_
        refine va_put (D := D) (ci := 13) (v := .int (nI (L.length + (c - k)))) (ty := .int) (C := R_Mo) (T := F_Mo) (N := 54) hx hb hts i_Mo t_Mo t_Mo_ok n_Mo hown hK hP hD hS 0 rfl rfl 53 (by decide) (hts _ wd_1141) (fun _ h9 => h9) rfl (by decide +kernel) rfl rfl (Nat.le_of_ble_eq_true rfl) d_Mo_put_38 (fun H locs hP hD hS => ?_)
        have hP : va_P D classes [(h, .inr (13, mO r th si le lv pg pn pl (nI (L.length + (c - k))))), (r 52, .inl (cI, 4200, .inl (upd g (L.length + (c - (k + 1))) (pb v k))))] H := hP
        have hD : va_D A [(h, .inr (13, mO r th si le lv pg pn pl (nI (L.length + (c - k))))), (r 52, .inl (cI, 4200, .inl (upd g (L.length + (c - (k + 1))) (pb v k))))] := hD
        refine lv_iinc (k := 2) (v := nI k - 1) (lv' := [(4, .int (nI k - 1)), (0, .ref h), (1, .long v)]) hx hb d_Mo_put_41 hl rfl (pm_dec k) (by decide) rfl (fun ls hl => ?_)
        refine lv_goto (tgt := 5) hx hb d_Mo_put_44 rfl ?_
        exact ih5 k (upd g (L.length + (c - (k + 1))) (pb v k)) H locs ls (by omega) (by omega) (pt_inv hg (by omega)) (lv_sub hl [1, 2, 0] rfl) hP hD hS
  have e0 : L.length = L.length + (c - c) := by omega
  rw [e0] at hP hD
  exact loop5 _ c ro s.heap [] ls (Nat.lt_succ_self _) (Nat.le_refl _) (by rw [Nat.sub_self, List.take_zero, List.append_nil]; exact hro) (lv_sub hl [1, 2, 0] rfl) hP hD hS
set_option maxHeartbeats 4000000 in
set_option maxRecDepth 100000 in
theorem c_Mo_hasRoom (l : Launch) (D : va_G) (cI : ClassId) (h : Nat) (r : Nat → Nat) (th le lv pg pn pl rs : Int32) (n k : Nat) (hn : n ≤ 9400) (hk : k ≤ 5000) : Met l y_Mo_hasRoom [Cond.code y_Mo_hasRoom b_Mo_hasRoom 2 (some .boolean)] ({ frames := 0, cells := 0, slots := 0, locals := 0 }) (zP [.ref h, .int (nI k)] D [(h, .inr (13, mO r th (nI n) le lv pg pn pl rs))] []) (vp_Si (fun r0 => r0 = if n + (k + 183) / 184 * 188 ≤ 9400 then 1 else 0)) 0 0 (fun _ => False) := by
  refine Met.ofW (cc := b_Mo_hasRoom) (maxL := 2) (ret := (some .boolean)) (by decide) rfl ?_
  intro p e s m args below meth cd s₁ Bd hml hv
  obtain ⟨rfl, hP, hK, hN⟩ := hv
  have hx := Bd.exec
  have hb := Bd.bytes
  have hr := Bd.returns
  have hts := hN.use (a := ([.ref h, .int (nI k)]).toArray)
  have hown : s.vm.findClass R_Mo = some m.cls := findClass_of_methodNamed Bd.named
  have hlocks := Bd.notSynchronized
  have hP : va_P D classes [(h, .inr (13, mO r th (nI n) le lv pg pn pl rs))] s.heap := hP
  have hl := lv_entry ([.ref h, .int (nI k)]) (n := 2) (Nat.le_of_ble_eq_true rfl)
  rw [lg_entry_eq]
  generalize (lg_sl ([.ref h, .int (nI k)]) ++ List.replicate (2 - (lg_sl ([.ref h, .int (nI k)])).length) Slot.unset).toArray = ls at hl ⊢
  have hl : lv_has ls 2 [(0, .ref h), (1, .int (nI k))] := hl
  refine lv_aload_n hx hb d_Mo_hasRoom_0 rfl (lv_at hl 0 rfl) ?_
  refine va_get (D := D) (ci := 13) (v := .int (nI n)) (C := R_Mo) (T := F_Mo) (N := 54) hx hb hts i_Mo hown hK hP 0 rfl rfl 2 (by decide) (hts _ wd_1090) (fun _ h9 => h9) rfl d_Mo_hasRoom_1 ?_
  refine lv_iload_n hx hb d_Mo_hasRoom_4 rfl (lv_at hl 1 rfl) ?_
  refine lv_sipush (v := 183) hx hb d_Mo_hasRoom_5 (by decide) ?_
  refine lv_iadd hx hb d_Mo_hasRoom_8 ?_
  refine z_topi (w := nI (k + 183)) (nI_add k 183) ?_
  refine lv_sipush (v := 184) hx hb d_Mo_hasRoom_9 (by decide) ?_
  refine lv_idiv hx hb d_Mo_hasRoom_12 (by decide) ?_
  refine z_topi (w := nI ((k + 183) / 184)) (pk_div (d := 184) (by omega) (by omega) (by omega)) ?_
  refine lv_sipush (v := 188) hx hb d_Mo_hasRoom_13 (by decide) ?_
  refine lv_imul hx hb d_Mo_hasRoom_16 ?_
  refine z_topi (w := nI ((k + 183) / 184 * 188)) (pk_mul _ 188) ?_
  refine lv_iadd hx hb d_Mo_hasRoom_17 ?_
  refine z_topi (w := nI (n + (k + 183) / 184 * 188)) (nI_add _ _) ?_
  refine lv_sipush (v := 9400) hx hb d_Mo_hasRoom_18 (by decide) ?_
  refine lv_icmp_gt (tgt := 28) hx hb d_Mo_hasRoom_21 rfl (fun h21 => ?_) (fun h21 => ?_)
  · have h21 : 9400 < n + (k + 183) / 184 * 188 := (nI_ltI (a := 9400) (by omega) (by omega)).mp h21
    refine lv_iconst (v := 0) hx hb d_Mo_hasRoom_28 (by decide) ?_
    exact W.zret (v := 0) hx hb hr rfl (fun t ht hW => ⟨_, rfl, (by first | rw [if_pos (by omega)] | rw [if_neg (by omega)]), ht⟩) (fun _ h => by cases h) d_Mo_hasRoom_29
  · have h21 : ¬ 9400 < n + (k + 183) / 184 * 188 := mt (nI_ltI (a := 9400) (by omega) (by omega)).mpr h21
    refine lv_iconst (v := 1) hx hb d_Mo_hasRoom_24 (by decide) ?_
    refine lv_goto (tgt := 29) hx hb d_Mo_hasRoom_25 rfl ?_
    exact W.zret (v := 1) hx hb hr rfl (fun t ht hW => ⟨_, rfl, (by first | rw [if_pos (by omega)] | rw [if_neg (by omega)]), ht⟩) (fun _ h => by cases h) d_Mo_hasRoom_29
set_option maxHeartbeats 4000000 in
set_option maxRecDepth 100000 in
theorem c_Mo_sealRow (l : Launch) (D : va_G) (sz : Nat) (cI : ClassId) (h : Nat) (r : Nat → Nat) (th si le lv pg pn pl : Int32) (L : List Int32) (ro : Nat → Int32) (tb : Int32) (hro : rl ro L) (hL : 4 ≤ L.length) (hL2 : L.length ≤ 180) : Met l y_Mo_sealRow [Cond.code y_Mo_sealRow b_Mo_sealRow 4 none] ({ frames := 1, cells := 0, slots := 0, locals := 24 }) (zM [.ref h, .int tb] D [(h, .inr (13, mO r th si le lv pg pn pl (nI L.length))), (r 52, .inl (cI, 4200, .inl ro))] [(cI, .int)] sz) (va_Qv (fun (u : Nat → Int32) => rl u (sealL tb L)) (fun (u : Nat → Int32) t => zW D (va_A [(h, .inr (13, mO r th si le lv pg pn pl (nI L.length))), (r 52, .inl (cI, 4200, .inl ro))] sz) [(h, .inr (13, mO r th si le lv pg pn pl (nI 184))), (r 52, .inl (cI, 4200, .inl u))] [(cI, .int)] t) (va_A [(h, .inr (13, mO r th si le lv pg pn pl (nI L.length))), (r 52, .inl (cI, 4200, .inl ro))] sz)) 0 0 (va_A [(h, .inr (13, mO r th si le lv pg pn pl (nI L.length))), (r 52, .inl (cI, 4200, .inl ro))] sz) := by
  refine Met.ofW (cc := b_Mo_sealRow) (maxL := 4) (ret := none) (by decide) rfl ?_
  intro p e s m args below meth cd s₁ Bd hml hv
  obtain ⟨rfl, hsz, hP, hK, hN, hD0⟩ := hv
  have hx := Bd.exec
  have hb := Bd.bytes
  have hr := Bd.returns
  have hts := hN.use (a := ([.ref h, .int tb]).toArray)
  have hown : s.vm.findClass R_Mo = some m.cls := findClass_of_methodNamed Bd.named
  have hlocks := Bd.notSynchronized
  subst hsz
  have hD := hD0.self (sz := s.heap.size)
  clear hD0
  have hA : ∀ q : Nat, s.heap.size ≤ q → va_A [(h, .inr (13, mO r th si le lv pg pn pl (nI L.length))), (r 52, .inl (cI, 4200, .inl ro))] s.heap.size q := fun q h => Or.inr h
  have hS : va_S (va_A [(h, .inr (13, mO r th si le lv pg pn pl (nI L.length))), (r 52, .inl (cI, 4200, .inl ro))] s.heap.size) s.heap s.heap [] := va_S.rf
  generalize hAe : va_A [(h, .inr (13, mO r th si le lv pg pn pl (nI L.length))), (r 52, .inl (cI, 4200, .inl ro))] s.heap.size = A at hD hA hS ⊢
  have hP : va_P D classes [(h, .inr (13, mO r th si le lv pg pn pl (nI L.length))), (r 52, .inl (cI, 4200, .inl ro))] s.heap := hP
  have hl := lv_entry ([.ref h, .int tb]) (n := 4) (Nat.le_of_ble_eq_true rfl)
  rw [lg_entry_eq]
  generalize (lg_sl ([.ref h, .int tb]) ++ List.replicate (4 - (lg_sl ([.ref h, .int tb])).length) Slot.unset).toArray = ls at hl ⊢
  have hl : lv_has ls 4 [(0, .ref h), (1, .int tb)] := hl
  refine lv_aload_n hx hb d_Mo_sealRow_0 rfl (lv_at hl 0 rfl) ?_
  refine va_get (D := D) (ci := 13) (v := .ref (r 52)) (C := R_Mo) (T := F_Mo) (N := 54) hx hb hts i_Mo hown hK hP 0 rfl rfl 52 (by decide) (hts _ wd_1140) (fun _ h9 => h9) rfl d_Mo_sealRow_1 ?_
  refine lv_iconst (v := 2) hx hb d_Mo_sealRow_4 (by decide) ?_
  refine lv_iload_n hx hb d_Mo_sealRow_5 rfl (lv_at hl 1 rfl) ?_
  refine lv_iconst (v := 4) hx hb d_Mo_sealRow_6 (by decide) ?_
  refine lv_ishl hx hb d_Mo_sealRow_7 ?_
  refine lv_aload_n hx hb d_Mo_sealRow_8 rfl (lv_at hl 0 rfl) ?_
  refine va_get (D := D) (ci := 13) (v := .int (nI L.length)) (C := R_Mo) (T := F_Mo) (N := 54) hx hb hts i_Mo hown hK hP 0 rfl rfl 53 (by decide) (hts _ wd_1141) (fun _ h9 => h9) rfl d_Mo_sealRow_9 ?_
  refine lv_bipush (v := 8) hx hb d_Mo_sealRow_12 (by decide) ?_
  refine lv_ishr hx hb d_Mo_sealRow_14 ?_
  refine lv_ior hx hb d_Mo_sealRow_15 ?_
  refine z_iast hx hb hK hP hD hS 1 0 rfl rfl 2 rfl (by omega) (by omega) d_Mo_sealRow_16 (fun H locs hP hD hS => ?_)
  have hP : va_P D classes [(h, .inr (13, mO r th si le lv pg pn pl (nI L.length))), (r 52, .inl (cI, 4200, .inl (upd ro 2 ((tb <<< (4 &&& 31)) ||| ((nI L.length) >>> (8 &&& 31))))))] H := hP
  have hD : va_D A [(h, .inr (13, mO r th si le lv pg pn pl (nI L.length))), (r 52, .inl (cI, 4200, .inl (upd ro 2 ((tb <<< (4 &&& 31)) ||| ((nI L.length) >>> (8 &&& 31))))))] := hD
  refine lv_aload_n hx hb d_Mo_sealRow_17 rfl (lv_at hl 0 rfl) ?_
  refine va_get (D := D) (ci := 13) (v := .ref (r 52)) (C := R_Mo) (T := F_Mo) (N := 54) hx hb hts i_Mo hown hK hP 0 rfl rfl 52 (by decide) (hts _ wd_1140) (fun _ h9 => h9) rfl d_Mo_sealRow_18 ?_
  refine lv_iconst (v := 3) hx hb d_Mo_sealRow_21 (by decide) ?_
  refine lv_aload_n hx hb d_Mo_sealRow_22 rfl (lv_at hl 0 rfl) ?_
  refine va_get (D := D) (ci := 13) (v := .int (nI L.length)) (C := R_Mo) (T := F_Mo) (N := 54) hx hb hts i_Mo hown hK hP 0 rfl rfl 53 (by decide) (hts _ wd_1141) (fun _ h9 => h9) rfl d_Mo_sealRow_23 ?_
  refine lv_sipush (v := 255) hx hb d_Mo_sealRow_26 (by decide) ?_
  refine lv_iand hx hb d_Mo_sealRow_29 ?_
  refine z_iast hx hb hK hP hD hS 1 0 rfl rfl 3 rfl (by omega) (by omega) d_Mo_sealRow_30 (fun H locs hP hD hS => ?_)
  have hP : va_P D classes [(h, .inr (13, mO r th si le lv pg pn pl (nI L.length))), (r 52, .inl (cI, 4200, .inl (upd (upd ro 2 ((tb <<< (4 &&& 31)) ||| ((nI L.length) >>> (8 &&& 31)))) 3 ((nI L.length) &&& 255))))] H := hP
  have hD : va_D A [(h, .inr (13, mO r th si le lv pg pn pl (nI L.length))), (r 52, .inl (cI, 4200, .inl (upd (upd ro 2 ((tb <<< (4 &&& 31)) ||| ((nI L.length) >>> (8 &&& 31)))) 3 ((nI L.length) &&& 255))))] := hD
  have hg0 := rl_set (x := nI L.length &&& 255) (rl_set (x := (tb <<< ((4 : Int32) &&& 31)) ||| (nI L.length >>> ((8 : Int32) &&& 31))) (k := 2) hro (by omega)) (k := 3) (by rw [List.length_set]; omega)
  have hg0 : rl _ (sealH tb L) := hg0
  generalize hge : upd (upd ro 2 ((tb <<< ((4 : Int32) &&& 31)) ||| (nI L.length >>> ((8 : Int32) &&& 31)))) 3 (nI L.length &&& 255) = g0 at hP hD hg0
  refine lv_iconst (v := (-1)) hx hb d_Mo_sealRow_31 (by decide) ?_
  refine lv_istore_n (lv' := [(2, .int (-1)), (0, .ref h), (1, .int tb)]) hx hb d_Mo_sealRow_32 rfl hl (by decide) rfl (fun ls hl => ?_)
  refine lv_iconst (v := 1) hx hb d_Mo_sealRow_33 (by decide) ?_
  refine lv_istore_n (lv' := [(3, .int 1), (2, .int (-1)), (0, .ref h), (1, .int tb)]) hx hb d_Mo_sealRow_34 rfl hl (by decide) rfl (fun ls hl => ?_)
  have loop35 : ∀ (N : Nat) (j : Nat) (H : Heap) (locs : List Loc) (ls : Array Slot) (hm : L.length - j < N) (hj : j + 1 ≤ L.length) (hl : lv_has ls 4 [(0, .ref h), (2, .int (ckl (((sealH tb L).drop 1).take j))), (3, .int (nI (1 + j)))]) (hP : va_P D classes [(h, .inr (13, mO r th si le lv pg pn pl (nI L.length))), (r 52, .inl (cI, 4200, .inl g0))] H) (hD : va_D A [(h, .inr (13, mO r th si le lv pg pn pl (nI L.length))), (r 52, .inl (cI, 4200, .inl g0))]) (hS : va_S A s.heap H locs), W p l e ({ frames := 1, cells := 0, slots := 0, locals := 24 }) s m ([.ref h, .int tb]).toArray below meth cd H locs 0 0 (MQ below (va_Qv (fun (u : Nat → Int32) => rl u (sealL tb L)) (fun (u : Nat → Int32) t => zW D (A) [(h, .inr (13, mO r th si le lv pg pn pl (nI 184))), (r 52, .inl (cI, 4200, .inl u))] [(cI, .int)] t) (A)) ([.ref h, .int tb]).toArray s 0 0 (A)) (F0 m 35 ls []) := by
    intro N35
    induction N35 with
    | zero => intro j H locs ls hm hj hl hP hD hS; exact absurd hm (Nat.not_lt_zero _)
    | succ N35 ih35 =>
      intro j H locs ls hm hj hl hP hD hS
      refine lv_iload_n hx hb d_Mo_sealRow_35 rfl (lv_at hl 2 rfl) ?_
      refine lv_aload_n hx hb d_Mo_sealRow_36 rfl (lv_at hl 0 rfl) ?_
      refine va_get (D := D) (ci := 13) (v := .int (nI L.length)) (C := R_Mo) (T := F_Mo) (N := 54) hx hb hts i_Mo hown hK hP 0 rfl rfl 53 (by decide) (hts _ wd_1141) (fun _ h9 => h9) rfl d_Mo_sealRow_37 ?_
      refine lv_icmp_ge (tgt := 60) hx hb d_Mo_sealRow_40 rfl (fun h40 => ?_) (fun h40 => ?_)
      · have h40 := (nI_leI (by omega) (by omega)).mp h40
        obtain rfl : j = L.length - 1 := by omega
        refine lv_aload_n hx hb d_Mo_sealRow_60 rfl (lv_at hl 0 rfl) ?_
        refine lv_iload_n hx hb d_Mo_sealRow_61 rfl (lv_at hl 1 rfl) ?_
        refine lv_i2l (v := (ckl (((sealH tb L).drop 1).take (L.length - 1))).toInt64) hx hb d_Mo_sealRow_62 rfl ?_
        refine lv_ldc2 hx hb hown (hts _ wd_1414) d_Mo_sealRow_63 ?_
        refine lv_land hx hb d_Mo_sealRow_66 ?_
        refine z_topl (w := (ckl ((sealH tb L).drop 1)).toInt64 &&& 4294967295) (by rw [show ((sealH tb L).drop 1).take (L.length - 1) = (sealH tb L).drop 1 from List.take_of_length_le (by rw [List.length_drop, sealH_len]; exact Nat.le_refl _)]) ?_
        refine lv_iconst (v := 4) hx hb d_Mo_sealRow_67 (by decide) ?_
        rw [← sealH_len tb L] at hP hD
        have hPc := hP.sub (ws' := [(h, .inr (13, mO r th si le lv pg pn pl (nI (sealH tb L).length))), (r 52, .inl (cI, 4200, .inl g0))]) [0, 1] rfl
        have hKc := hK.sub (tys' := [(cI, .int)]) [0] rfl
        have hDc := hD.sub (ws' := [(h, .inr (13, mO r th si le lv pg pn pl (nI (sealH tb L).length))), (r 52, .inl (cI, 4200, .inl g0))]) [0, 1] (by decide) rfl
        have hFc := va_free (wc := [(h, .inr (13, mO r th si le lv pg pn pl (nI (sealH tb L).length))), (r 52, .inl (cI, 4200, .inl g0))]) hD hS hA [0, 1] rfl
        refine va_callv (va_runV (As := [.long ((ckl ((sealH tb L).drop 1)).toInt64 &&& 4294967295), .int (nI 4)]) (rest := []) ⟨hx, hb, hml, hown, hts⟩ (c_Mo_put l D H.size cI h r th si le lv pg pn pl (sealH tb L) g0 ((ckl ((sealH tb L).drop 1)).toInt64 &&& 4294967295) 4 hg0 (by rw [sealH_len]; omega) (by omega) (by omega)) (z_cV hN wd_1451 wd_67 wd_1448 hd_Mo_put rfl rfl ⟨Nat.le_of_ble_eq_true rfl, Nat.le_of_ble_eq_true rfl⟩ wd_1450 wd_55) (z_preVm (va_recv (ci := 13) (q0 := 0) hK hP rfl rfl) hPc hKc hN hDc) rfl rfl hl.1 rfl (lv_room (Nat.le_of_ble_eq_true rfl)) d_Mo_sealRow_68 ⟨Nat.le_of_ble_eq_true rfl, Nat.le_of_ble_eq_true rfl⟩) hS (fun q _ h => hFc q h) hFc (fun g1 t H locs ht hvm e68 hB hz1 hk1 hS => ?_)
        obtain ⟨hP1, hK1, hD1⟩ := hB
        rw [ht] at hP1
        obtain ⟨hP, hD⟩ := va_join (wr := []) (w1 := [(h, .inr (13, mO r th si le lv pg pn pl (nI ((sealH tb L) ++ bsL ((ckl ((sealH tb L).drop 1)).toInt64 &&& 4294967295) 4).length))), (r 52, .inl (cI, 4200, .inl g1))]) hP hD [0, 1] [] rfl rfl (by decide) (by decide) hk1 hFc hP1 hD1
        clear hk1 hP1 hD1 hFc hPc hDc hz1
        have hP : va_P D classes [(h, .inr (13, mO r th si le lv pg pn pl (nI ((sealH tb L) ++ bsL ((ckl ((sealH tb L).drop 1)).toInt64 &&& 4294967295) 4).length))), (r 52, .inl (cI, 4200, .inl g1))] H := hP
        have hD : va_D A [(h, .inr (13, mO r th si le lv pg pn pl (nI ((sealH tb L) ++ bsL ((ckl ((sealH tb L).drop 1)).toInt64 &&& 4294967295) 4).length))), (r 52, .inl (cI, 4200, .inl g1))] := hD
        have loop71 : ∀ (N : Nat) (M : List Int32) (g : Nat → Int32) (H : Heap) (locs : List Loc) (ls : Array Slot) (hm : 184 - M.length < N) (hg : rl g M) (hM : M.length ≤ 184) (hM4 : 1 ≤ M.length) (hMe : M ++ List.replicate (184 - M.length) 255 = sealL tb L) (hl : lv_has ls 4 [(0, .ref h)]) (hP : va_P D classes [(h, .inr (13, mO r th si le lv pg pn pl (nI M.length))), (r 52, .inl (cI, 4200, .inl g))] H) (hD : va_D A [(h, .inr (13, mO r th si le lv pg pn pl (nI M.length))), (r 52, .inl (cI, 4200, .inl g))]) (hS : va_S A s.heap H locs), W p l e ({ frames := 1, cells := 0, slots := 0, locals := 24 }) s m ([.ref h, .int tb]).toArray below meth cd H locs 0 0 (MQ below (va_Qv (fun (u : Nat → Int32) => rl u (sealL tb L)) (fun (u : Nat → Int32) t => zW D (A) [(h, .inr (13, mO r th si le lv pg pn pl (nI 184))), (r 52, .inl (cI, 4200, .inl u))] [(cI, .int)] t) (A)) ([.ref h, .int tb]).toArray s 0 0 (A)) (F0 m 71 ls []) := by
          intro N71
          induction N71 with
          | zero => intro M g H locs ls hm hg hM hM4 hMe hl hP hD hS; exact absurd hm (Nat.not_lt_zero _)
          | succ N71 ih71 =>
            intro M g H locs ls hm hg hM hM4 hMe hl hP hD hS
            refine lv_aload_n hx hb d_Mo_sealRow_71 rfl (lv_at hl 0 rfl) ?_
            refine va_get (D := D) (ci := 13) (v := .int (nI M.length)) (C := R_Mo) (T := F_Mo) (N := 54) hx hb hts i_Mo hown hK hP 0 rfl rfl 53 (by decide) (hts _ wd_1141) (fun _ h9 => h9) rfl d_Mo_sealRow_72 ?_
            refine lv_sipush (v := 184) hx hb d_Mo_sealRow_75 (by decide) ?_
            refine lv_irem hx hb d_Mo_sealRow_78 (by decide) ?_
            refine lv_if_eq (tgt := 93) hx hb d_Mo_sealRow_79 rfl (fun h79 => ?_) (fun h79 => ?_)
            · have h79 := sl_rem hM hM4 h79
              rw [h79] at hP hD
              have hP9 := hP.sub (ws' := [(h, .inr (13, mO r th si le lv pg pn pl (nI 184))), (r 52, .inl (cI, 4200, .inl g))]) [0, 1] rfl
              have hD9 := hD.sub (ws' := [(h, .inr (13, mO r th si le lv pg pn pl (nI 184))), (r 52, .inl (cI, 4200, .inl g))]) [0, 1] (by decide) rfl
              have hK9 := hK.sub (tys' := [(cI, .int)]) [0] rfl
              exact W.vret hx hb hr (fun t ht hW => ⟨⟨g, rfl, (by dsimp only; rw [h79, Nat.sub_self, List.replicate_zero, List.append_nil] at hMe; rw [← hMe]; exact hg), ⟨by rw [ht]; exact hP9, va_K.moved hW.alike hK9, hD9⟩⟩, hS.F ht⟩) hS.2.2 d_Mo_sealRow_93
            · have h79 := sl_nrem hM h79
              refine lv_aload_n hx hb d_Mo_sealRow_82 rfl (lv_at hl 0 rfl) ?_
              refine lv_ldc2 hx hb hown (hts _ wd_1261) d_Mo_sealRow_83 ?_
              refine lv_iconst (v := 1) hx hb d_Mo_sealRow_86 (by decide) ?_
              have hPc := hP.sub (ws' := [(h, .inr (13, mO r th si le lv pg pn pl (nI M.length))), (r 52, .inl (cI, 4200, .inl g))]) [0, 1] rfl
              have hKc := hK.sub (tys' := [(cI, .int)]) [0] rfl
              have hDc := hD.sub (ws' := [(h, .inr (13, mO r th si le lv pg pn pl (nI M.length))), (r 52, .inl (cI, 4200, .inl g))]) [0, 1] (by decide) rfl
              have hFc := va_free (wc := [(h, .inr (13, mO r th si le lv pg pn pl (nI M.length))), (r 52, .inl (cI, 4200, .inl g))]) hD hS hA [0, 1] rfl
              refine va_callv (va_runV (As := [.long 255, .int (nI 1)]) (rest := []) ⟨hx, hb, hml, hown, hts⟩ (c_Mo_put l D H.size cI h r th si le lv pg pn pl M g 255 1 hg (by omega) (by omega) (by omega)) (z_cV hN wd_1451 wd_67 wd_1448 hd_Mo_put rfl rfl ⟨Nat.le_of_ble_eq_true rfl, Nat.le_of_ble_eq_true rfl⟩ wd_1450 wd_55) (z_preVm (va_recv (ci := 13) (q0 := 0) hK hP rfl rfl) hPc hKc hN hDc) rfl rfl hl.1 rfl (lv_room (Nat.le_of_ble_eq_true rfl)) d_Mo_sealRow_87 ⟨Nat.le_of_ble_eq_true rfl, Nat.le_of_ble_eq_true rfl⟩) hS (fun q _ h => hFc q h) hFc (fun g2 t H locs ht hvm e87 hB hz1 hk1 hS => ?_)
              obtain ⟨hP1, hK1, hD1⟩ := hB
              rw [ht] at hP1
              obtain ⟨hP, hD⟩ := va_join (wr := []) (w1 := [(h, .inr (13, mO r th si le lv pg pn pl (nI (M ++ bsL 255 1).length))), (r 52, .inl (cI, 4200, .inl g2))]) hP hD [0, 1] [] rfl rfl (by decide) (by decide) hk1 hFc hP1 hD1
              clear hk1 hP1 hD1 hFc hPc hDc hz1
              have hP : va_P D classes [(h, .inr (13, mO r th si le lv pg pn pl (nI (M ++ bsL 255 1).length))), (r 52, .inl (cI, 4200, .inl g2))] H := hP
              have hD : va_D A [(h, .inr (13, mO r th si le lv pg pn pl (nI (M ++ bsL 255 1).length))), (r 52, .inl (cI, 4200, .inl g2))] := hD
              refine lv_goto (tgt := 71) hx hb d_Mo_sealRow_90 rfl ?_
              exact ih71 (M ++ bsL 255 1) g2 H locs ls (by rw [List.length_append, bs_len]; omega) e87 (by rw [List.length_append, bs_len]; omega) (by rw [List.length_append, bs_len]; omega) (sl_pad hMe (by omega)) hl hP hD hS
        exact loop71 _ (sealC tb L) g1 H locs ls (Nat.lt_succ_self _) e68 (by rw [sealC_len]; omega) (by rw [sealC_len]; omega) (by rw [sealC_len]; unfold sealL; congr 2; omega) (lv_sub hl [0] rfl) hP hD hS
      · have h40 := mt (nI_leI (by omega) (by omega)).mpr h40
        refine lv_iload_n hx hb d_Mo_sealRow_43 rfl (lv_at hl 1 rfl) ?_
        refine lv_aload_n hx hb d_Mo_sealRow_44 rfl (lv_at hl 0 rfl) ?_
        refine va_get (D := D) (ci := 13) (v := .ref (r 52)) (C := R_Mo) (T := F_Mo) (N := 54) hx hb hts i_Mo hown hK hP 0 rfl rfl 52 (by decide) (hts _ wd_1140) (fun _ h9 => h9) rfl d_Mo_sealRow_45 ?_
        refine lv_iload_n hx hb d_Mo_sealRow_48 rfl (lv_at hl 2 rfl) ?_
        refine z_iald hx hb hK hP 1 0 rfl rfl (1 + j) rfl (by omega) (by omega) d_Mo_sealRow_49 ?_
        refine z_topi (w := ((sealH tb L).drop 1).getD j 0) (by rw [hg0 (1 + j) (by rw [sealH_len]; omega)]; simp [List.getD, Nat.add_comm]) ?_
        have hPc := hP.sub (ws' := []) [] rfl
        have hKc := hK.sub (tys' := []) [] rfl
        refine z_ci (va_runS (As := [.int (ckl (((sealH tb L).drop 1).take j)), .int (((sealH tb L).drop 1).getD j 0)]) (rest := []) ⟨hx, hb, hml, hown, hts⟩ (c_Mo_checkOn l D (ckl (((sealH tb L).drop 1).take j)) (((sealH tb L).drop 1).getD j 0) ) (z_cS hN wd_1284 wd_67 wd_1282 hd_Mo_checkOn rfl rfl ⟨Nat.le_of_ble_eq_true rfl, Nat.le_of_ble_eq_true rfl⟩ wd_1283) (z_preS hPc hKc hN) rfl rfl hl.1 rfl (lv_room (Nat.le_of_ble_eq_true rfl)) d_Mo_sealRow_50 ⟨Nat.le_of_ble_eq_true rfl, Nat.le_of_ble_eq_true rfl⟩) (fun r50 e50 => ?_)
        subst e50
        refine z_topi (w := ckl (((sealH tb L).drop 1).take (j + 1))) ((ckl_take (by rw [List.length_drop, sealH_len]; omega)).symm) ?_
        refine lv_istore_n (lv' := [(2, .int (ckl (((sealH tb L).drop 1).take (j + 1)))), (0, .ref h), (3, .int (nI (1 + j)))]) hx hb d_Mo_sealRow_53 rfl hl (by decide) rfl (fun ls hl => ?_)
        refine lv_iinc (k := 2) (v := nI (1 + (j + 1))) (lv' := [(3, .int (nI (1 + (j + 1)))), (2, .int (ckl (((sealH tb L).drop 1).take (j + 1)))), (0, .ref h)]) hx hb d_Mo_sealRow_54 hl rfl (nI_1 (1 + j)) (by decide) rfl (fun ls hl => ?_)
        refine lv_goto (tgt := 35) hx hb d_Mo_sealRow_57 rfl ?_
        exact ih35 (j + 1) H locs ls (by omega) (by omega) (lv_sub hl [2, 1, 0] rfl) hP hD hS
  exact loop35 _ 0 H locs ls (Nat.lt_succ_self _) (by omega) (lv_sub hl [2, 1, 0] rfl) hP hD hS
