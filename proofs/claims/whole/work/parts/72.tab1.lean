theorem wd_82 : (Jvm.Cond.initialized "StreamSplitter$Programme") ∈ lw_ok := List.mem_filter.mpr ⟨List.mem_of_getElem? (i := 82) (by decide +kernel), rfl⟩
theorem wd_306 : (Jvm.Cond.methodLink "StreamSplitter$Tables" (26 : Nat) ({ cls := "java/util/ArrayList", name := "get", desc := "(I)Ljava/lang/Object;" } : Jvm.MethodName)) ∈ lw_ok := List.mem_filter.mpr ⟨List.mem_of_getElem? (i := 306) (by decide +kernel), rfl⟩
theorem wd_307 : (Jvm.Cond.instanceMethod ({ cls := "java/util/ArrayList", name := "get", desc := "(I)Ljava/lang/Object;" } : Jvm.MethodName)) ∈ lw_ok := List.mem_filter.mpr ⟨List.mem_of_getElem? (i := 307) (by decide +kernel), rfl⟩
theorem wd_308 : (Jvm.Cond.selects "java/util/ArrayList" ({ cls := "java/util/ArrayList", name := "get", desc := "(I)Ljava/lang/Object;" } : Jvm.MethodName) ({ cls := "java/util/ArrayList", name := "get", desc := "(I)Ljava/lang/Object;" } : Jvm.MethodName)) ∈ lw_ok := List.mem_filter.mpr ⟨List.mem_of_getElem? (i := 308) (by decide +kernel), rfl⟩
set_option maxRecDepth 100000 in
theorem wd_309 : (Jvm.Cond.code ({ cls := "java/util/ArrayList", name := "get", desc := "(I)Ljava/lang/Object;" } : Jvm.MethodName) prog_28_method_20_code (2 : Nat) (Option.some (Jvm.ClassFile.FieldType.object "java/lang/Object"))) ∈ lw_ok := List.mem_filter.mpr ⟨List.mem_of_getElem? (i := 309) (by rfl), rfl⟩
theorem wd_320 : (Jvm.Cond.classLink "StreamSplitter$Tables" (30 : Nat) "StreamSplitter$Programme") ∈ lw_ok := List.mem_filter.mpr ⟨List.mem_of_getElem? (i := 320) (by decide +kernel), rfl⟩
theorem wd_325 : (Jvm.Cond.methodLink "StreamSplitter$Tables" (38 : Nat) ({ cls := "StreamSplitter$Programme", name := "streamWith", desc := "(I)LStreamSplitter$Stream;" } : Jvm.MethodName)) ∈ lw_ok := List.mem_filter.mpr ⟨List.mem_of_getElem? (i := 325) (by decide +kernel), rfl⟩
theorem wd_326 : (Jvm.Cond.instanceMethod ({ cls := "StreamSplitter$Programme", name := "streamWith", desc := "(I)LStreamSplitter$Stream;" } : Jvm.MethodName)) ∈ lw_ok := List.mem_filter.mpr ⟨List.mem_of_getElem? (i := 326) (by decide +kernel), rfl⟩
theorem wd_327 : (Jvm.Cond.selects "StreamSplitter$Programme" ({ cls := "StreamSplitter$Programme", name := "streamWith", desc := "(I)LStreamSplitter$Stream;" } : Jvm.MethodName) ({ cls := "StreamSplitter$Programme", name := "streamWith", desc := "(I)LStreamSplitter$Stream;" } : Jvm.MethodName)) ∈ lw_ok := List.mem_filter.mpr ⟨List.mem_of_getElem? (i := 327) (by decide +kernel), rfl⟩
set_option maxRecDepth 100000 in
theorem wd_328 : (Jvm.Cond.code ({ cls := "StreamSplitter$Programme", name := "streamWith", desc := "(I)LStreamSplitter$Stream;" } : Jvm.MethodName) prog_7_method_3_code (3 : Nat) (Option.some (Jvm.ClassFile.FieldType.object "StreamSplitter$Stream"))) ∈ lw_ok := List.mem_filter.mpr ⟨List.mem_of_getElem? (i := 328) (by rfl), rfl⟩
theorem wd_329 : (Jvm.Cond.methodLink "StreamSplitter$Programme" (47 : Nat) ({ cls := "java/util/ArrayList", name := "size", desc := "()I" } : Jvm.MethodName)) ∈ lw_ok := List.mem_filter.mpr ⟨List.mem_of_getElem? (i := 329) (by decide +kernel), rfl⟩
theorem wd_330 : (Jvm.Cond.methodLink "StreamSplitter$Programme" (51 : Nat) ({ cls := "java/util/ArrayList", name := "get", desc := "(I)Ljava/lang/Object;" } : Jvm.MethodName)) ∈ lw_ok := List.mem_filter.mpr ⟨List.mem_of_getElem? (i := 330) (by decide +kernel), rfl⟩
theorem wd_331 : (Jvm.Cond.classLink "StreamSplitter$Programme" (61 : Nat) "StreamSplitter$Stream") ∈ lw_ok := List.mem_filter.mpr ⟨List.mem_of_getElem? (i := 331) (by decide +kernel), rfl⟩
theorem wd_576 : (Jvm.Cond.fieldLinkNest "StreamSplitter$Tables" (32 : Nat) "StreamSplitter$Programme" "number" "I" "StreamSplitter") ∈ lw_ok := List.mem_filter.mpr ⟨List.mem_of_getElem? (i := 576) (by decide +kernel), rfl⟩
theorem wd_579 : (Jvm.Cond.fieldLinkNest "StreamSplitter$Tables" (35 : Nat) "StreamSplitter$Programme" "pid" "I" "StreamSplitter") ∈ lw_ok := List.mem_filter.mpr ⟨List.mem_of_getElem? (i := 579) (by decide +kernel), rfl⟩
theorem wd_587 : (Jvm.Cond.fieldLink "StreamSplitter$Programme" (21 : Nat) "StreamSplitter$Programme" "streams" "Ljava/util/ArrayList;") ∈ lw_ok := List.mem_filter.mpr ⟨List.mem_of_getElem? (i := 587) (by decide +kernel), rfl⟩
theorem wd_640 : (Jvm.Cond.fieldLinkNest "StreamSplitter$Programme" (63 : Nat) "StreamSplitter$Stream" "pid" "I" "StreamSplitter") ∈ lw_ok := List.mem_filter.mpr ⟨List.mem_of_getElem? (i := 640) (by decide +kernel), rfl⟩
theorem wd_1485 : (Jvm.Cond.castable "StreamSplitter$Programme" "StreamSplitter$Programme") ∈ lw_ok := List.mem_filter.mpr ⟨List.mem_of_getElem? (i := 1485) (by decide +kernel), rfl⟩
theorem wd_1486 : (Jvm.Cond.castable "StreamSplitter$Stream" "StreamSplitter$Stream") ∈ lw_ok := List.mem_filter.mpr ⟨List.mem_of_getElem? (i := 1486) (by decide +kernel), rfl⟩
theorem hd_AL_get : y_AL_get.cls ≠ "java/lang/invoke/MethodHandle" ∧ y_AL_get.cls ≠ "java/lang/invoke/VarHandle" ∧ (parseMethodDescriptor y_AL_get.desc).map (fun d => d.parameters.length) = some 1 := by decide +kernel
theorem hd_Programme_streamWith : y_Programme_streamWith.cls ≠ "java/lang/invoke/MethodHandle" ∧ y_Programme_streamWith.cls ≠ "java/lang/invoke/VarHandle" ∧ (parseMethodDescriptor y_Programme_streamWith.desc).map (fun d => d.parameters.length) = some 1 := by decide +kernel
theorem d_Programme_streamWith_0 : decode b_Programme_streamWith 0 = .ok (.iconst 0, 1) := by decide +kernel
theorem d_Programme_streamWith_1 : decode b_Programme_streamWith 1 = .ok (.istore_n 2, 1) := by decide +kernel
theorem d_Programme_streamWith_2 : decode b_Programme_streamWith 2 = .ok (.iload_n 2, 1) := by decide +kernel
theorem d_Programme_streamWith_3 : decode b_Programme_streamWith 3 = .ok (.aload_n 0, 1) := by decide +kernel
theorem d_Programme_streamWith_4 : decode b_Programme_streamWith 4 = .ok (.getfield 21, 3) := by decide +kernel
theorem d_Programme_streamWith_7 : decode b_Programme_streamWith 7 = .ok (.invokevirtual 47, 3) := by decide +kernel
theorem d_Programme_streamWith_10 : decode b_Programme_streamWith 10 = .ok (.if_icmp .ge 39, 3) := by decide +kernel
theorem d_Programme_streamWith_13 : decode b_Programme_streamWith 13 = .ok (.aload_n 0, 1) := by decide +kernel
theorem d_Programme_streamWith_14 : decode b_Programme_streamWith 14 = .ok (.getfield 21, 3) := by decide +kernel
theorem d_Programme_streamWith_17 : decode b_Programme_streamWith 17 = .ok (.iload_n 2, 1) := by decide +kernel
theorem d_Programme_streamWith_18 : decode b_Programme_streamWith 18 = .ok (.invokevirtual 51, 3) := by decide +kernel
theorem d_Programme_streamWith_21 : decode b_Programme_streamWith 21 = .ok (.checkcast 61, 3) := by decide +kernel
theorem d_Programme_streamWith_24 : decode b_Programme_streamWith 24 = .ok (.getfield 63, 3) := by decide +kernel
theorem d_Programme_streamWith_27 : decode b_Programme_streamWith 27 = .ok (.iload_n 1, 1) := by decide +kernel
theorem d_Programme_streamWith_28 : decode b_Programme_streamWith 28 = .ok (.if_icmp .ne 15, 3) := by decide +kernel
theorem d_Programme_streamWith_31 : decode b_Programme_streamWith 31 = .ok (.aload_n 0, 1) := by decide +kernel
theorem d_Programme_streamWith_32 : decode b_Programme_streamWith 32 = .ok (.getfield 21, 3) := by decide +kernel
theorem d_Programme_streamWith_35 : decode b_Programme_streamWith 35 = .ok (.iload_n 2, 1) := by decide +kernel
theorem d_Programme_streamWith_36 : decode b_Programme_streamWith 36 = .ok (.invokevirtual 51, 3) := by decide +kernel
theorem d_Programme_streamWith_39 : decode b_Programme_streamWith 39 = .ok (.checkcast 61, 3) := by decide +kernel
theorem d_Programme_streamWith_42 : decode b_Programme_streamWith 42 = .ok (.areturn, 1) := by decide +kernel
theorem d_Programme_streamWith_43 : decode b_Programme_streamWith 43 = .ok (.iinc 2 1, 3) := by decide +kernel
theorem d_Programme_streamWith_46 : decode b_Programme_streamWith 46 = .ok (.goto (-44), 3) := by decide +kernel
theorem d_Programme_streamWith_49 : decode b_Programme_streamWith 49 = .ok (.aconst_null, 1) := by decide +kernel
theorem d_Programme_streamWith_50 : decode b_Programme_streamWith 50 = .ok (.areturn, 1) := by decide +kernel
theorem d_Tables_firstWith_0 : decode b_Tables_firstWith 0 = .ok (.iconst 0, 1) := by decide +kernel
theorem d_Tables_firstWith_1 : decode b_Tables_firstWith 1 = .ok (.istore_n 3, 1) := by decide +kernel
theorem d_Tables_firstWith_2 : decode b_Tables_firstWith 2 = .ok (.iload_n 3, 1) := by decide +kernel
theorem d_Tables_firstWith_3 : decode b_Tables_firstWith 3 = .ok (.aload_n 0, 1) := by decide +kernel
theorem d_Tables_firstWith_4 : decode b_Tables_firstWith 4 = .ok (.getfield 18, 3) := by decide +kernel
theorem d_Tables_firstWith_7 : decode b_Tables_firstWith 7 = .ok (.invokevirtual 22, 3) := by decide +kernel
theorem d_Tables_firstWith_10 : decode b_Tables_firstWith 10 = .ok (.if_icmp .ge 43, 3) := by decide +kernel
theorem d_Tables_firstWith_13 : decode b_Tables_firstWith 13 = .ok (.aload_n 0, 1) := by decide +kernel
theorem d_Tables_firstWith_14 : decode b_Tables_firstWith 14 = .ok (.getfield 18, 3) := by decide +kernel
theorem d_Tables_firstWith_17 : decode b_Tables_firstWith 17 = .ok (.iload_n 3, 1) := by decide +kernel
theorem d_Tables_firstWith_18 : decode b_Tables_firstWith 18 = .ok (.invokevirtual 26, 3) := by decide +kernel
theorem d_Tables_firstWith_21 : decode b_Tables_firstWith 21 = .ok (.checkcast 30, 3) := by decide +kernel
theorem d_Tables_firstWith_24 : decode b_Tables_firstWith 24 = .ok (.astore 4, 2) := by decide +kernel
theorem d_Tables_firstWith_26 : decode b_Tables_firstWith 26 = .ok (.aload 4, 2) := by decide +kernel
theorem d_Tables_firstWith_28 : decode b_Tables_firstWith 28 = .ok (.getfield 32, 3) := by decide +kernel
theorem d_Tables_firstWith_31 : decode b_Tables_firstWith 31 = .ok (.iload_n 1, 1) := by decide +kernel
theorem d_Tables_firstWith_32 : decode b_Tables_firstWith 32 = .ok (.if_icmp .ne 15, 3) := by decide +kernel
theorem d_Tables_firstWith_35 : decode b_Tables_firstWith 35 = .ok (.aload 4, 2) := by decide +kernel
theorem d_Tables_firstWith_37 : decode b_Tables_firstWith 37 = .ok (.getfield 35, 3) := by decide +kernel
theorem d_Tables_firstWith_40 : decode b_Tables_firstWith 40 = .ok (.iload_n 2, 1) := by decide +kernel
theorem d_Tables_firstWith_41 : decode b_Tables_firstWith 41 = .ok (.if_icmp .ne 6, 3) := by decide +kernel
theorem d_Tables_firstWith_44 : decode b_Tables_firstWith 44 = .ok (.aload 4, 2) := by decide +kernel
theorem d_Tables_firstWith_46 : decode b_Tables_firstWith 46 = .ok (.areturn, 1) := by decide +kernel
theorem d_Tables_firstWith_47 : decode b_Tables_firstWith 47 = .ok (.iinc 3 1, 3) := by decide +kernel
theorem d_Tables_firstWith_50 : decode b_Tables_firstWith 50 = .ok (.goto (-48), 3) := by decide +kernel
theorem d_Tables_firstWith_53 : decode b_Tables_firstWith 53 = .ok (.aconst_null, 1) := by decide +kernel
theorem d_Tables_firstWith_54 : decode b_Tables_firstWith 54 = .ok (.areturn, 1) := by decide +kernel
theorem d_Tables_ownerOf_0 : decode b_Tables_ownerOf 0 = .ok (.iconst 0, 1) := by decide +kernel
theorem d_Tables_ownerOf_1 : decode b_Tables_ownerOf 1 = .ok (.istore_n 2, 1) := by decide +kernel
theorem d_Tables_ownerOf_2 : decode b_Tables_ownerOf 2 = .ok (.iload_n 2, 1) := by decide +kernel
theorem d_Tables_ownerOf_3 : decode b_Tables_ownerOf 3 = .ok (.aload_n 0, 1) := by decide +kernel
theorem d_Tables_ownerOf_4 : decode b_Tables_ownerOf 4 = .ok (.getfield 18, 3) := by decide +kernel
theorem d_Tables_ownerOf_7 : decode b_Tables_ownerOf 7 = .ok (.invokevirtual 22, 3) := by decide +kernel
theorem d_Tables_ownerOf_10 : decode b_Tables_ownerOf 10 = .ok (.if_icmp .ge 39, 3) := by decide +kernel
theorem d_Tables_ownerOf_13 : decode b_Tables_ownerOf 13 = .ok (.aload_n 0, 1) := by decide +kernel
theorem d_Tables_ownerOf_14 : decode b_Tables_ownerOf 14 = .ok (.getfield 18, 3) := by decide +kernel
theorem d_Tables_ownerOf_17 : decode b_Tables_ownerOf 17 = .ok (.iload_n 2, 1) := by decide +kernel
theorem d_Tables_ownerOf_18 : decode b_Tables_ownerOf 18 = .ok (.invokevirtual 26, 3) := by decide +kernel
theorem d_Tables_ownerOf_21 : decode b_Tables_ownerOf 21 = .ok (.checkcast 30, 3) := by decide +kernel
theorem d_Tables_ownerOf_24 : decode b_Tables_ownerOf 24 = .ok (.iload_n 1, 1) := by decide +kernel
theorem d_Tables_ownerOf_25 : decode b_Tables_ownerOf 25 = .ok (.invokevirtual 38, 3) := by decide +kernel
theorem d_Tables_ownerOf_28 : decode b_Tables_ownerOf 28 = .ok (.ifnull 15, 3) := by decide +kernel
theorem d_Tables_ownerOf_31 : decode b_Tables_ownerOf 31 = .ok (.aload_n 0, 1) := by decide +kernel
theorem d_Tables_ownerOf_32 : decode b_Tables_ownerOf 32 = .ok (.getfield 18, 3) := by decide +kernel
theorem d_Tables_ownerOf_35 : decode b_Tables_ownerOf 35 = .ok (.iload_n 2, 1) := by decide +kernel
theorem d_Tables_ownerOf_36 : decode b_Tables_ownerOf 36 = .ok (.invokevirtual 26, 3) := by decide +kernel
theorem d_Tables_ownerOf_39 : decode b_Tables_ownerOf 39 = .ok (.checkcast 30, 3) := by decide +kernel
theorem d_Tables_ownerOf_42 : decode b_Tables_ownerOf 42 = .ok (.areturn, 1) := by decide +kernel
theorem d_Tables_ownerOf_43 : decode b_Tables_ownerOf 43 = .ok (.iinc 2 1, 3) := by decide +kernel
theorem d_Tables_ownerOf_46 : decode b_Tables_ownerOf 46 = .ok (.goto (-44), 3) := by decide +kernel
theorem d_Tables_ownerOf_49 : decode b_Tables_ownerOf 49 = .ok (.aconst_null, 1) := by decide +kernel
theorem d_Tables_ownerOf_50 : decode b_Tables_ownerOf 50 = .ok (.areturn, 1) := by decide +kernel
set_option maxHeartbeats 4000000 in
set_option maxRecDepth 100000 in
theorem c_Programme_streamWith (l : Launch) (D : va_G) (cO : ClassId) (WS : va_W) (z : PZ) (S : List (Int32 × Nat)) (pid : Nat) (hm : (z.1, pgE z) ∈ WS) (hS : isS WS cO z.2.2.2.2.2.1 S) (hpid : pid < 8192) : Met l y_Programme_streamWith [Cond.code y_Programme_streamWith b_Programme_streamWith 3 (some (.object "StreamSplitter$Stream"))] ({ frames := 3, cells := 0, slots := 0, locals := 64 }) (zP [.ref z.1, .int (nI pid)] D ([] ++ WS) [(cO, .object "java/lang/Object")]) (va_Sq (fun r => stR WS S pid r)) 0 0 (fun _ => False) := by
  refine Met.ofW (cc := b_Programme_streamWith) (maxL := 3) (ret := (some (.object "StreamSplitter$Stream"))) (by decide) rfl ?_
  intro p e s m args below meth cd s₁ Bd hml hv
  obtain ⟨rfl, hP, hK, hN⟩ := hv
  have hx := Bd.exec
  have hb := Bd.bytes
  have hr := Bd.returns
  have hts := hN.use (a := ([.ref z.1, .int (nI pid)]).toArray)
  have hown : s.vm.findClass R_Programme = some m.cls := findClass_of_methodNamed Bd.named
  have hlocks := Bd.notSynchronized
  have hP : va_P D classes ([] ++ WS) s.heap := hP
  have hl := lv_entry ([.ref z.1, .int (nI pid)]) (n := 3) (Nat.le_of_ble_eq_true rfl)
  rw [lg_entry_eq]
  generalize (lg_sl ([.ref z.1, .int (nI pid)]) ++ List.replicate (3 - (lg_sl ([.ref z.1, .int (nI pid)])).length) Slot.unset).toArray = ls at hl ⊢
  have hl : lv_has ls 3 [(0, .ref z.1), (1, .int (nI pid))] := hl
  obtain ⟨q0, hq0⟩ := List.getElem?_of_mem hm
  obtain ⟨sb, mo, g, ⟨hLm, hL6, hLa⟩, hE⟩ := hS
  obtain ⟨q1, hq1⟩ := List.getElem?_of_mem hLm
  refine lv_iconst (v := 0) hx hb d_Programme_streamWith_0 (by decide) ?_
  refine lv_istore_n (lv' := [(2, .int 0), (0, .ref z.1), (1, .int (nI pid))]) hx hb d_Programme_streamWith_1 rfl hl (by decide) rfl (fun ls hl => ?_)
  have loop2 : ∀ (N : Nat) (j : Nat) (ls : Array Slot) (hm : S.length - j < N) (hj : j ≤ S.length) (hne : ∀ i, i < j → ¬ (S.getD i (0, 0)).2 = pid) (hl : lv_has ls 3 [(0, .ref z.1), (1, .int (nI pid)), (2, .int (nI j))]), W p l e ({ frames := 3, cells := 0, slots := 0, locals := 64 }) s m ([.ref z.1, .int (nI pid)]).toArray below meth cd s.heap [] 0 0 (MQ below (va_Sq (fun r => stR WS S pid r)) ([.ref z.1, .int (nI pid)]).toArray s 0 0 (fun _ => False)) (F0 m 2 ls []) := by
    intro N2
    induction N2 with
    | zero => intro j ls hm hj hne hl; exact absurd hm (Nat.not_lt_zero _)
    | succ N2 ih2 =>
      intro j ls hm hj hne hl
      refine lv_iload_n hx hb d_Programme_streamWith_2 rfl (lv_at hl 2 rfl) ?_
      refine lv_aload_n hx hb d_Programme_streamWith_3 rfl (lv_at hl 0 rfl) ?_
      refine va_get (D := D) (ci := 7) (v := .ref z.2.2.2.2.2.1) (C := R_Programme) (T := F_Programme) (N := 8) hx hb hts i_Programme hown hK hP q0 hq0 rfl 4 (by decide) (hts _ wd_587) (fun _ h9 => h9) rfl d_Programme_streamWith_4 ?_
      have hPc : va_P D classes [(z.2.2.2.2.2.1, .inr (12, [.ref sb, .int (nI S.length), .int mo]))] s.heap := z_Pm1 hLm hP
      have hKc := hK.sub (tys' := []) [] rfl
      refine z_ci (va_runV (As := []) (rest := [.int (nI j)]) ⟨hx, hb, hml, hown, hts⟩ (c_AL_size l D z.2.2.2.2.2.1 sb (nI S.length) mo ) (z_cV hN wd_305 wd_66 wd_329 hd_AL_size rfl rfl ⟨Nat.le_of_ble_eq_true rfl, Nat.le_of_ble_eq_true rfl⟩ wd_303 wd_304) (z_preV (va_recv (ci := 12) (q0 := q1) hK hP rfl hq1) hPc hKc hN) rfl rfl hl.1 rfl (lv_room (Nat.le_of_ble_eq_true rfl)) d_Programme_streamWith_7 ⟨Nat.le_of_ble_eq_true rfl, Nat.le_of_ble_eq_true rfl⟩) (fun r7 e7 => ?_)
      subst e7
      refine lv_icmp_ge (tgt := 49) hx hb d_Programme_streamWith_10 rfl (fun h10 => ?_) (fun h10 => ?_)
      · have h10 := (nI_leI (by omega) (by omega)).mp h10
        refine lv_null hx hb d_Programme_streamWith_49 ?_
        exact W.aret (v := va_rf none) hx hb hr (Or.inl ⟨_, rfl⟩) (va_rf_or _) (fun t ht hW => ⟨_, rfl, Or.inl ⟨rfl, fun i hi => hne i (by omega)⟩, ht⟩) (fun _ h => by cases h) d_Programme_streamWith_50
      · have h10 := mt (nI_leI (by omega) (by omega)).mpr h10
        refine lv_aload_n hx hb d_Programme_streamWith_13 rfl (lv_at hl 0 rfl) ?_
        refine va_get (D := D) (ci := 7) (v := .ref z.2.2.2.2.2.1) (C := R_Programme) (T := F_Programme) (N := 8) hx hb hts i_Programme hown hK hP q0 hq0 rfl 4 (by decide) (hts _ wd_587) (fun _ h9 => h9) rfl d_Programme_streamWith_14 ?_
        refine lv_iload_n hx hb d_Programme_streamWith_17 rfl (lv_at hl 2 rfl) ?_
        obtain ⟨a9, hga, ham, hap⟩ := hE j (by omega)
        obtain ⟨q2, hq2⟩ := List.getElem?_of_mem ham
        have hPc : va_P D classes [(z.2.2.2.2.2.1, .inr (12, [.ref sb, .int (nI S.length), .int mo])), (sb, .inl (cO, 10, .inr (.inr (.inr (.inr g)))))] s.heap := z_Pm2 hLm (hLa.resolve_left (by omega)) hP
        have hKc := hK.sub (tys' := [(cO, .object "java/lang/Object")]) [0] rfl
        refine z_cq (va_runV (As := [.int (nI j)]) (rest := []) ⟨hx, hb, hml, hown, hts⟩ (c_AL_get l D cO z.2.2.2.2.2.1 sb S.length mo g j (by omega) (by omega)) (z_cV hN wd_309 wd_66 wd_330 hd_AL_get rfl rfl ⟨Nat.le_of_ble_eq_true rfl, Nat.le_of_ble_eq_true rfl⟩ wd_307 wd_308) (z_preV (va_recv (ci := 12) (q0 := q1) hK hP rfl hq1) hPc hKc hN) rfl rfl hl.1 rfl (lv_room (Nat.le_of_ble_eq_true rfl)) d_Programme_streamWith_18 ⟨Nat.le_of_ble_eq_true rfl, Nat.le_of_ble_eq_true rfl⟩) (fun r18 e18 => ?_)
        subst e18
        refine z_topq (w := some a9) hga ?_
        refine va_castY hx hb hown (hts _ wd_331) (hN _ wd_1486) (va_recv (ci := 5) (q0 := q2) hK hP rfl hq2) d_Programme_streamWith_21 ?_
        refine va_getN (D := D) (ci := 5) (v := .int (nI (S.getD j (0, 0)).2)) (C := R_Stream) (T := F_Stream) (N := 2) hx hb hts i_Stream hown hK hP q2 hq2 rfl 1 (by decide) (hts _ wd_640) (fun _ h9 => h9) rfl d_Programme_streamWith_24 ?_
        refine lv_iload_n hx hb d_Programme_streamWith_27 rfl (lv_at hl 1 rfl) ?_
        refine lv_icmp_ne (tgt := 43) hx hb d_Programme_streamWith_28 rfl (fun h28 => ?_) (fun h28 => ?_)
        · have h28 : ¬ (S.getD j (0, 0)).2 = pid := fun q => h28 (by rw [q])
          refine lv_iinc (k := 2) (v := nI (j + 1)) (lv' := [(2, .int (nI (j + 1))), (0, .ref z.1), (1, .int (nI pid))]) hx hb d_Programme_streamWith_43 hl rfl (nI_1 j) (by decide) rfl (fun ls hl => ?_)
          refine lv_goto (tgt := 2) hx hb d_Programme_streamWith_46 rfl ?_
          exact ih2 (j + 1) ls (by omega) (by omega) (fun i hi => by by_cases c9 : i = j; rw [c9]; exact h28; exact hne i (by omega)) (lv_sub hl [1, 2, 0] rfl)
        · have h28 : (S.getD j (0, 0)).2 = pid := nI_inj (by omega) (by omega) (by first | exact h28 | exact Classical.not_not.mp h28)
          refine lv_aload_n hx hb d_Programme_streamWith_31 rfl (lv_at hl 0 rfl) ?_
          refine va_get (D := D) (ci := 7) (v := .ref z.2.2.2.2.2.1) (C := R_Programme) (T := F_Programme) (N := 8) hx hb hts i_Programme hown hK hP q0 hq0 rfl 4 (by decide) (hts _ wd_587) (fun _ h9 => h9) rfl d_Programme_streamWith_32 ?_
          refine lv_iload_n hx hb d_Programme_streamWith_35 rfl (lv_at hl 2 rfl) ?_
          have hPc : va_P D classes [(z.2.2.2.2.2.1, .inr (12, [.ref sb, .int (nI S.length), .int mo])), (sb, .inl (cO, 10, .inr (.inr (.inr (.inr g)))))] s.heap := z_Pm2 hLm (hLa.resolve_left (by omega)) hP
          have hKc := hK.sub (tys' := [(cO, .object "java/lang/Object")]) [0] rfl
          refine z_cq (va_runV (As := [.int (nI j)]) (rest := []) ⟨hx, hb, hml, hown, hts⟩ (c_AL_get l D cO z.2.2.2.2.2.1 sb S.length mo g j (by omega) (by omega)) (z_cV hN wd_309 wd_66 wd_330 hd_AL_get rfl rfl ⟨Nat.le_of_ble_eq_true rfl, Nat.le_of_ble_eq_true rfl⟩ wd_307 wd_308) (z_preV (va_recv (ci := 12) (q0 := q1) hK hP rfl hq1) hPc hKc hN) rfl rfl hl.1 rfl (lv_room (Nat.le_of_ble_eq_true rfl)) d_Programme_streamWith_36 ⟨Nat.le_of_ble_eq_true rfl, Nat.le_of_ble_eq_true rfl⟩) (fun r36 e36 => ?_)
          subst e36
          refine z_topq (w := some a9) hga ?_
          refine va_castY hx hb hown (hts _ wd_331) (hN _ wd_1486) (va_recv (ci := 5) (q0 := q2) hK hP rfl hq2) d_Programme_streamWith_39 ?_
          exact W.aret (v := va_rf (some a9)) hx hb hr (Or.inl ⟨_, rfl⟩) (va_rf_or _) (fun t ht hW => ⟨_, rfl, Or.inr ⟨j, a9, by omega, h28, hne, rfl, by rw [← h28]; exact ham⟩, ht⟩) (fun _ h => by cases h) d_Programme_streamWith_42
  exact loop2 _ 0 ls (Nat.lt_succ_self _) (Nat.zero_le _) (fun i hi => absurd hi (Nat.not_lt_zero i)) (lv_sub hl [1, 2, 0] rfl)
set_option maxHeartbeats 4000000 in
set_option maxRecDepth 100000 in
theorem c_Tables_ownerOf (l : Launch) (D : va_G) (cO : ClassId) (WS : va_W) (tb pr : Nat) (lv : Int32) (P : List (PZ × List (Int32 × Nat))) (pid : Nat) (hT : isT WS cO tb pr lv P) (hpid : pid < 8192) : Met l y_Tables_ownerOf [Cond.code y_Tables_ownerOf b_Tables_ownerOf 3 (some (.object "StreamSplitter$Programme"))] ({ frames := 4, cells := 0, slots := 0, locals := 86 }) (zP [.ref tb, .int (nI pid)] D ([] ++ WS) [(cO, .object "java/lang/Object")]) (va_Sq (fun r => owR P pid r)) 0 0 (fun _ => False) := by
  refine Met.ofW (cc := b_Tables_ownerOf) (maxL := 3) (ret := (some (.object "StreamSplitter$Programme"))) (by decide) rfl ?_
  intro p e s m args below meth cd s₁ Bd hml hv
  obtain ⟨rfl, hP, hK, hN⟩ := hv
  have hx := Bd.exec
  have hb := Bd.bytes
  have hr := Bd.returns
  have hts := hN.use (a := ([.ref tb, .int (nI pid)]).toArray)
  have hown : s.vm.findClass R_Tables = some m.cls := findClass_of_methodNamed Bd.named
  have hlocks := Bd.notSynchronized
  have hP : va_P D classes ([] ++ WS) s.heap := hP
  have hl := lv_entry ([.ref tb, .int (nI pid)]) (n := 3) (Nat.le_of_ble_eq_true rfl)
  rw [lg_entry_eq]
  generalize (lg_sl ([.ref tb, .int (nI pid)]) ++ List.replicate (3 - (lg_sl ([.ref tb, .int (nI pid)])).length) Slot.unset).toArray = ls at hl ⊢
  have hl : lv_has ls 3 [(0, .ref tb), (1, .int (nI pid))] := hl
  obtain ⟨hmt, pb, mo, g, ⟨hLm, hL6, hLa⟩, hE⟩ := hT
  obtain ⟨q0, hq0⟩ := List.getElem?_of_mem hmt
  obtain ⟨q1, hq1⟩ := List.getElem?_of_mem hLm
  refine lv_iconst (v := 0) hx hb d_Tables_ownerOf_0 (by decide) ?_
  refine lv_istore_n (lv' := [(2, .int 0), (0, .ref tb), (1, .int (nI pid))]) hx hb d_Tables_ownerOf_1 rfl hl (by decide) rfl (fun ls hl => ?_)
  have loop2 : ∀ (N : Nat) (j : Nat) (ls : Array Slot) (hm : P.length - j < N) (hj : j ≤ P.length) (hne : ∀ i, i < j → ¬ hasP (P.getD i (pz0, [])).2 pid) (hl : lv_has ls 3 [(0, .ref tb), (1, .int (nI pid)), (2, .int (nI j))]), W p l e ({ frames := 4, cells := 0, slots := 0, locals := 86 }) s m ([.ref tb, .int (nI pid)]).toArray below meth cd s.heap [] 0 0 (MQ below (va_Sq (fun r => owR P pid r)) ([.ref tb, .int (nI pid)]).toArray s 0 0 (fun _ => False)) (F0 m 2 ls []) := by
    intro N2
    induction N2 with
    | zero => intro j ls hm hj hne hl; exact absurd hm (Nat.not_lt_zero _)
    | succ N2 ih2 =>
      intro j ls hm hj hne hl
      refine lv_iload_n hx hb d_Tables_ownerOf_2 rfl (lv_at hl 2 rfl) ?_
      refine lv_aload_n hx hb d_Tables_ownerOf_3 rfl (lv_at hl 0 rfl) ?_
      refine va_get (D := D) (ci := 8) (v := .ref pr) (C := R_Tables) (T := F_Tables) (N := 2) hx hb hts i_Tables hown hK hP q0 hq0 rfl 1 (by decide) (hts _ wd_166) (fun _ h9 => h9) rfl d_Tables_ownerOf_4 ?_
      have hPc : va_P D classes [(pr, .inr (12, [.ref pb, .int (nI P.length), .int mo]))] s.heap := z_Pm1 hLm hP
      have hKc := hK.sub (tys' := []) [] rfl
      refine z_ci (va_runV (As := []) (rest := [.int (nI j)]) ⟨hx, hb, hml, hown, hts⟩ (c_AL_size l D pr pb (nI P.length) mo ) (z_cV hN wd_305 wd_66 wd_302 hd_AL_size rfl rfl ⟨Nat.le_of_ble_eq_true rfl, Nat.le_of_ble_eq_true rfl⟩ wd_303 wd_304) (z_preV (va_recv (ci := 12) (q0 := q1) hK hP rfl hq1) hPc hKc hN) rfl rfl hl.1 rfl (lv_room (Nat.le_of_ble_eq_true rfl)) d_Tables_ownerOf_7 ⟨Nat.le_of_ble_eq_true rfl, Nat.le_of_ble_eq_true rfl⟩) (fun r7 e7 => ?_)
      subst e7
      refine lv_icmp_ge (tgt := 49) hx hb d_Tables_ownerOf_10 rfl (fun h10 => ?_) (fun h10 => ?_)
      · have h10 := (nI_leI (by omega) (by omega)).mp h10
        refine lv_null hx hb d_Tables_ownerOf_49 ?_
        exact W.aret (v := va_rf none) hx hb hr (Or.inl ⟨_, rfl⟩) (va_rf_or _) (fun t ht hW => ⟨_, rfl, Or.inl ⟨rfl, fun i hi => hne i (by omega)⟩, ht⟩) (fun _ h => by cases h) d_Tables_ownerOf_50
      · have h10 := mt (nI_leI (by omega) (by omega)).mpr h10
        refine lv_aload_n hx hb d_Tables_ownerOf_13 rfl (lv_at hl 0 rfl) ?_
        refine va_get (D := D) (ci := 8) (v := .ref pr) (C := R_Tables) (T := F_Tables) (N := 2) hx hb hts i_Tables hown hK hP q0 hq0 rfl 1 (by decide) (hts _ wd_166) (fun _ h9 => h9) rfl d_Tables_ownerOf_14 ?_
        refine lv_iload_n hx hb d_Tables_ownerOf_17 rfl (lv_at hl 2 rfl) ?_
        obtain ⟨hga, ham, hpp, hss⟩ := hE j (by omega)
        obtain ⟨q2, hq2⟩ := List.getElem?_of_mem ham
        have hPc : va_P D classes [(pr, .inr (12, [.ref pb, .int (nI P.length), .int mo])), (pb, .inl (cO, 10, .inr (.inr (.inr (.inr g)))))] s.heap := z_Pm2 hLm (hLa.resolve_left (by omega)) hP
        have hKc := hK.sub (tys' := [(cO, .object "java/lang/Object")]) [0] rfl
        refine z_cq (va_runV (As := [.int (nI j)]) (rest := []) ⟨hx, hb, hml, hown, hts⟩ (c_AL_get l D cO pr pb P.length mo g j (by omega) (by omega)) (z_cV hN wd_309 wd_66 wd_306 hd_AL_get rfl rfl ⟨Nat.le_of_ble_eq_true rfl, Nat.le_of_ble_eq_true rfl⟩ wd_307 wd_308) (z_preV (va_recv (ci := 12) (q0 := q1) hK hP rfl hq1) hPc hKc hN) rfl rfl hl.1 rfl (lv_room (Nat.le_of_ble_eq_true rfl)) d_Tables_ownerOf_18 ⟨Nat.le_of_ble_eq_true rfl, Nat.le_of_ble_eq_true rfl⟩) (fun r18 e18 => ?_)
        subst e18
        refine z_topq (w := some ((P.getD j (pz0, [])).1.1)) hga ?_
        refine va_castY hx hb hown (hts _ wd_320) (hN _ wd_1485) (va_recv (ci := 7) (q0 := q2) hK hP rfl hq2) d_Tables_ownerOf_21 ?_
        refine lv_iload_n hx hb d_Tables_ownerOf_24 rfl (lv_at hl 1 rfl) ?_
        have hPc : va_P D classes ([] ++ ([] ++ WS)) s.heap := hP
        have hKc := hK.sub (tys' := [(cO, .object "java/lang/Object")]) [0] rfl
        refine z_cq (va_runV (As := [.int (nI pid)]) (rest := []) ⟨hx, hb, hml, hown, hts⟩ (c_Programme_streamWith l D cO WS ((P.getD j (pz0, [])).1) ((P.getD j (pz0, [])).2) pid ham hss hpid) (z_cV hN wd_328 wd_82 wd_325 hd_Programme_streamWith rfl rfl ⟨Nat.le_of_ble_eq_true rfl, Nat.le_of_ble_eq_true rfl⟩ wd_326 wd_327) (z_preV (va_recv (ci := 7) (q0 := q2) hK hP rfl hq2) hPc hKc hN) rfl rfl hl.1 rfl (lv_room (Nat.le_of_ble_eq_true rfl)) d_Tables_ownerOf_25 ⟨Nat.le_of_ble_eq_true rfl, Nat.le_of_ble_eq_true rfl⟩) (fun r25 e25 => ?_)
        cases h28 : r25 with
        | none =>
          try rw [h28]
          refine lv_ifnullN (tgt := 43) hx hb d_Tables_ownerOf_28 rfl ?_
          refine lv_iinc (k := 2) (v := nI (j + 1)) (lv' := [(2, .int (nI (j + 1))), (0, .ref tb), (1, .int (nI pid))]) hx hb d_Tables_ownerOf_43 hl rfl (nI_1 j) (by decide) rfl (fun ls hl => ?_)
          refine lv_goto (tgt := 2) hx hb d_Tables_ownerOf_46 rfl ?_
          exact ih2 (j + 1) ls (by omega) (by omega) (fun i hi => by by_cases c9 : i = j; rw [c9]; exact sR_none (h28 ▸ e25); exact hne i (by omega)) (lv_sub hl [1, 2, 0] rfl)
        | some x28 =>
          try rw [h28]
          refine lv_ifnull (x := x28) hx hb d_Tables_ownerOf_28 ?_
          have hhp := sR_some (h28 ▸ e25)
          refine lv_aload_n hx hb d_Tables_ownerOf_31 rfl (lv_at hl 0 rfl) ?_
          refine va_get (D := D) (ci := 8) (v := .ref pr) (C := R_Tables) (T := F_Tables) (N := 2) hx hb hts i_Tables hown hK hP q0 hq0 rfl 1 (by decide) (hts _ wd_166) (fun _ h9 => h9) rfl d_Tables_ownerOf_32 ?_
          refine lv_iload_n hx hb d_Tables_ownerOf_35 rfl (lv_at hl 2 rfl) ?_
          have hPc : va_P D classes [(pr, .inr (12, [.ref pb, .int (nI P.length), .int mo])), (pb, .inl (cO, 10, .inr (.inr (.inr (.inr g)))))] s.heap := z_Pm2 hLm (hLa.resolve_left (by omega)) hP
          have hKc := hK.sub (tys' := [(cO, .object "java/lang/Object")]) [0] rfl
          refine z_cq (va_runV (As := [.int (nI j)]) (rest := []) ⟨hx, hb, hml, hown, hts⟩ (c_AL_get l D cO pr pb P.length mo g j (by omega) (by omega)) (z_cV hN wd_309 wd_66 wd_306 hd_AL_get rfl rfl ⟨Nat.le_of_ble_eq_true rfl, Nat.le_of_ble_eq_true rfl⟩ wd_307 wd_308) (z_preV (va_recv (ci := 12) (q0 := q1) hK hP rfl hq1) hPc hKc hN) rfl rfl hl.1 rfl (lv_room (Nat.le_of_ble_eq_true rfl)) d_Tables_ownerOf_36 ⟨Nat.le_of_ble_eq_true rfl, Nat.le_of_ble_eq_true rfl⟩) (fun r36 e36 => ?_)
          subst e36
          refine z_topq (w := some ((P.getD j (pz0, [])).1.1)) hga ?_
          refine va_castY hx hb hown (hts _ wd_320) (hN _ wd_1485) (va_recv (ci := 7) (q0 := q2) hK hP rfl hq2) d_Tables_ownerOf_39 ?_
          exact W.aret (v := va_rf (some ((P.getD j (pz0, [])).1.1))) hx hb hr (Or.inl ⟨_, rfl⟩) (va_rf_or _) (fun t ht hW => ⟨_, rfl, Or.inr ⟨j, by omega, hhp, hne, rfl⟩, ht⟩) (fun _ h => by cases h) d_Tables_ownerOf_42
  exact loop2 _ 0 ls (Nat.lt_succ_self _) (Nat.zero_le _) (fun i hi => absurd hi (Nat.not_lt_zero i)) (lv_sub hl [1, 2, 0] rfl)
set_option maxHeartbeats 4000000 in
set_option maxRecDepth 100000 in
theorem c_Tables_firstWith (l : Launch) (D : va_G) (cO : ClassId) (WS : va_W) (tb pr : Nat) (lv : Int32) (P : List (PZ × List (Int32 × Nat))) (nu : Int32) (pid : Nat) (hT : isT WS cO tb pr lv P) (hpid : pid < 8192) : Met l y_Tables_firstWith [Cond.code y_Tables_firstWith b_Tables_firstWith 5 (some (.object "StreamSplitter$Programme"))] ({ frames := 3, cells := 0, slots := 0, locals := 64 }) (zP [.ref tb, .int nu, .int (nI pid)] D ([] ++ WS) [(cO, .object "java/lang/Object")]) (va_Sq (fun r => fwR P nu pid r)) 0 0 (fun _ => False) := by
  refine Met.ofW (cc := b_Tables_firstWith) (maxL := 5) (ret := (some (.object "StreamSplitter$Programme"))) (by decide) rfl ?_
  intro p e s m args below meth cd s₁ Bd hml hv
  obtain ⟨rfl, hP, hK, hN⟩ := hv
  have hx := Bd.exec
  have hb := Bd.bytes
  have hr := Bd.returns
  have hts := hN.use (a := ([.ref tb, .int nu, .int (nI pid)]).toArray)
  have hown : s.vm.findClass R_Tables = some m.cls := findClass_of_methodNamed Bd.named
  have hlocks := Bd.notSynchronized
  have hP : va_P D classes ([] ++ WS) s.heap := hP
  have hl := lv_entry ([.ref tb, .int nu, .int (nI pid)]) (n := 5) (Nat.le_of_ble_eq_true rfl)
  rw [lg_entry_eq]
  generalize (lg_sl ([.ref tb, .int nu, .int (nI pid)]) ++ List.replicate (5 - (lg_sl ([.ref tb, .int nu, .int (nI pid)])).length) Slot.unset).toArray = ls at hl ⊢
  have hl : lv_has ls 5 [(0, .ref tb), (1, .int nu), (2, .int (nI pid))] := hl
  obtain ⟨hmt, pb, mo, g, ⟨hLm, hL6, hLa⟩, hE⟩ := hT
  obtain ⟨q0, hq0⟩ := List.getElem?_of_mem hmt
  obtain ⟨q1, hq1⟩ := List.getElem?_of_mem hLm
  refine lv_iconst (v := 0) hx hb d_Tables_firstWith_0 (by decide) ?_
  refine lv_istore_n (lv' := [(3, .int 0), (0, .ref tb), (1, .int nu), (2, .int (nI pid))]) hx hb d_Tables_firstWith_1 rfl hl (by decide) rfl (fun ls hl => ?_)
  have loop2 : ∀ (N : Nat) (j : Nat) (ls : Array Slot) (hm : P.length - j < N) (hj : j ≤ P.length) (hne : ∀ i, i < j → ¬ isNP (P.getD i (pz0, [])).1 nu pid) (hl : lv_has ls 5 [(0, .ref tb), (1, .int nu), (2, .int (nI pid)), (3, .int (nI j))]), W p l e ({ frames := 3, cells := 0, slots := 0, locals := 64 }) s m ([.ref tb, .int nu, .int (nI pid)]).toArray below meth cd s.heap [] 0 0 (MQ below (va_Sq (fun r => fwR P nu pid r)) ([.ref tb, .int nu, .int (nI pid)]).toArray s 0 0 (fun _ => False)) (F0 m 2 ls []) := by
    intro N2
    induction N2 with
    | zero => intro j ls hm hj hne hl; exact absurd hm (Nat.not_lt_zero _)
    | succ N2 ih2 =>
      intro j ls hm hj hne hl
      refine lv_iload_n hx hb d_Tables_firstWith_2 rfl (lv_at hl 3 rfl) ?_
      refine lv_aload_n hx hb d_Tables_firstWith_3 rfl (lv_at hl 0 rfl) ?_
      refine va_get (D := D) (ci := 8) (v := .ref pr) (C := R_Tables) (T := F_Tables) (N := 2) hx hb hts i_Tables hown hK hP q0 hq0 rfl 1 (by decide) (hts _ wd_166) (fun _ h9 => h9) rfl d_Tables_firstWith_4 ?_
      have hPc : va_P D classes [(pr, .inr (12, [.ref pb, .int (nI P.length), .int mo]))] s.heap := z_Pm1 hLm hP
      have hKc := hK.sub (tys' := []) [] rfl
      refine z_ci (va_runV (As := []) (rest := [.int (nI j)]) ⟨hx, hb, hml, hown, hts⟩ (c_AL_size l D pr pb (nI P.length) mo ) (z_cV hN wd_305 wd_66 wd_302 hd_AL_size rfl rfl ⟨Nat.le_of_ble_eq_true rfl, Nat.le_of_ble_eq_true rfl⟩ wd_303 wd_304) (z_preV (va_recv (ci := 12) (q0 := q1) hK hP rfl hq1) hPc hKc hN) rfl rfl hl.1 rfl (lv_room (Nat.le_of_ble_eq_true rfl)) d_Tables_firstWith_7 ⟨Nat.le_of_ble_eq_true rfl, Nat.le_of_ble_eq_true rfl⟩) (fun r7 e7 => ?_)
      subst e7
      refine lv_icmp_ge (tgt := 53) hx hb d_Tables_firstWith_10 rfl (fun h10 => ?_) (fun h10 => ?_)
      · have h10 := (nI_leI (by omega) (by omega)).mp h10
        refine lv_null hx hb d_Tables_firstWith_53 ?_
        exact W.aret (v := va_rf none) hx hb hr (Or.inl ⟨_, rfl⟩) (va_rf_or _) (fun t ht hW => ⟨_, rfl, Or.inl ⟨rfl, fun i hi => hne i (by omega)⟩, ht⟩) (fun _ h => by cases h) d_Tables_firstWith_54
      · have h10 := mt (nI_leI (by omega) (by omega)).mpr h10
        refine lv_aload_n hx hb d_Tables_firstWith_13 rfl (lv_at hl 0 rfl) ?_
        refine va_get (D := D) (ci := 8) (v := .ref pr) (C := R_Tables) (T := F_Tables) (N := 2) hx hb hts i_Tables hown hK hP q0 hq0 rfl 1 (by decide) (hts _ wd_166) (fun _ h9 => h9) rfl d_Tables_firstWith_14 ?_
        refine lv_iload_n hx hb d_Tables_firstWith_17 rfl (lv_at hl 3 rfl) ?_
        obtain ⟨hga, ham, hpp, hss⟩ := hE j (by omega)
        obtain ⟨q2, hq2⟩ := List.getElem?_of_mem ham
        have hPc : va_P D classes [(pr, .inr (12, [.ref pb, .int (nI P.length), .int mo])), (pb, .inl (cO, 10, .inr (.inr (.inr (.inr g)))))] s.heap := z_Pm2 hLm (hLa.resolve_left (by omega)) hP
        have hKc := hK.sub (tys' := [(cO, .object "java/lang/Object")]) [0] rfl
        refine z_cq (va_runV (As := [.int (nI j)]) (rest := []) ⟨hx, hb, hml, hown, hts⟩ (c_AL_get l D cO pr pb P.length mo g j (by omega) (by omega)) (z_cV hN wd_309 wd_66 wd_306 hd_AL_get rfl rfl ⟨Nat.le_of_ble_eq_true rfl, Nat.le_of_ble_eq_true rfl⟩ wd_307 wd_308) (z_preV (va_recv (ci := 12) (q0 := q1) hK hP rfl hq1) hPc hKc hN) rfl rfl hl.1 rfl (lv_room (Nat.le_of_ble_eq_true rfl)) d_Tables_firstWith_18 ⟨Nat.le_of_ble_eq_true rfl, Nat.le_of_ble_eq_true rfl⟩) (fun r18 e18 => ?_)
        subst e18
        refine z_topq (w := some ((P.getD j (pz0, [])).1.1)) hga ?_
        refine va_castY hx hb hown (hts _ wd_320) (hN _ wd_1485) (va_recv (ci := 7) (q0 := q2) hK hP rfl hq2) d_Tables_firstWith_21 ?_
        refine lv_astore (lv' := [(4, .ref ((P.getD j (pz0, [])).1.1)), (0, .ref tb), (1, .int nu), (2, .int (nI pid)), (3, .int (nI j))]) hx hb d_Tables_firstWith_24 hl (by decide) rfl (fun ls hl => ?_)
        refine lv_aload hx hb d_Tables_firstWith_26 (lv_at hl 0 rfl) ?_
        refine va_getN (D := D) (ci := 7) (v := .int ((P.getD j (pz0, [])).1.2.1)) (C := R_Programme) (T := F_Programme) (N := 8) hx hb hts i_Programme hown hK hP q2 hq2 rfl 0 (by decide) (hts _ wd_576) (fun _ h9 => h9) rfl d_Tables_firstWith_28 ?_
        refine lv_iload_n hx hb d_Tables_firstWith_31 rfl (lv_at hl 2 rfl) ?_
        refine lv_icmp_ne (tgt := 47) hx hb d_Tables_firstWith_32 rfl (fun h32 => ?_) (fun h32 => ?_)
        · have hnn : ¬ isNP (P.getD j (pz0, [])).1 nu pid := fun z => h32 z.1
          refine lv_iinc (k := 4) (v := nI (j + 1)) (lv' := [(3, .int (nI (j + 1))), (4, .ref ((P.getD j (pz0, [])).1.1)), (0, .ref tb), (1, .int nu), (2, .int (nI pid))]) hx hb d_Tables_firstWith_47 hl rfl (nI_1 j) (by decide) rfl (fun ls hl => ?_)
          refine lv_goto (tgt := 2) hx hb d_Tables_firstWith_50 rfl ?_
          exact ih2 (j + 1) ls (by omega) (by omega) (fun i hi => by by_cases c9 : i = j; rw [c9]; exact hnn; exact hne i (by omega)) (lv_sub hl [2, 3, 4, 0] rfl)
        · have h32 : (P.getD j (pz0, [])).1.2.1 = nu := by first | exact h32 | exact Classical.not_not.mp h32
          refine lv_aload hx hb d_Tables_firstWith_35 (lv_at hl 0 rfl) ?_
          refine va_getN (D := D) (ci := 7) (v := .int (nI (P.getD j (pz0, [])).1.2.2.1)) (C := R_Programme) (T := F_Programme) (N := 8) hx hb hts i_Programme hown hK hP q2 hq2 rfl 1 (by decide) (hts _ wd_579) (fun _ h9 => h9) rfl d_Tables_firstWith_37 ?_
          refine lv_iload_n hx hb d_Tables_firstWith_40 rfl (lv_at hl 3 rfl) ?_
          refine lv_icmp_ne (tgt := 47) hx hb d_Tables_firstWith_41 rfl (fun h41 => ?_) (fun h41 => ?_)
          · have hnn : ¬ isNP (P.getD j (pz0, [])).1 nu pid := fun z => h41 (by rw [z.2])
            refine lv_iinc (k := 4) (v := nI (j + 1)) (lv' := [(3, .int (nI (j + 1))), (4, .ref ((P.getD j (pz0, [])).1.1)), (0, .ref tb), (1, .int nu), (2, .int (nI pid))]) hx hb d_Tables_firstWith_47 hl rfl (nI_1 j) (by decide) rfl (fun ls hl => ?_)
            refine lv_goto (tgt := 2) hx hb d_Tables_firstWith_50 rfl ?_
            exact ih2 (j + 1) ls (by omega) (by omega) (fun i hi => by by_cases c9 : i = j; rw [c9]; exact hnn; exact hne i (by omega)) (lv_sub hl [2, 3, 4, 0] rfl)
          · have h41 : (P.getD j (pz0, [])).1.2.2.1 = pid := nI_inj (by omega) (by omega) (by first | exact h41 | exact Classical.not_not.mp h41)
            refine lv_aload hx hb d_Tables_firstWith_44 (lv_at hl 0 rfl) ?_
            exact W.aret (v := va_rf (some ((P.getD j (pz0, [])).1.1))) hx hb hr (Or.inl ⟨_, rfl⟩) (va_rf_or _) (fun t ht hW => ⟨_, rfl, Or.inr ⟨j, by omega, ⟨h32, h41⟩, hne, rfl⟩, ht⟩) (fun _ h => by cases h) d_Tables_firstWith_46
  exact loop2 _ 0 ls (Nat.lt_succ_self _) (Nat.zero_le _) (fun i hi => absurd hi (Nat.not_lt_zero i)) (lv_sub hl [1, 2, 3, 0] rfl)
