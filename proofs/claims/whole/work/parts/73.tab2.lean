theorem wd_3 : (Jvm.Cond.selects "StreamSplitter$Tables" ({ cls := "StreamSplitter$Tables", name := "ownerOf", desc := "(I)LStreamSplitter$Programme;" } : Jvm.MethodName) ({ cls := "StreamSplitter$Tables", name := "ownerOf", desc := "(I)LStreamSplitter$Programme;" } : Jvm.MethodName)) ∈ lw_ok := List.mem_filter.mpr ⟨List.mem_of_getElem? (i := 3) (by decide +kernel), rfl⟩
theorem wd_321 : (Jvm.Cond.methodLink "StreamSplitter$Tables" (42 : Nat) ({ cls := "StreamSplitter$Tables", name := "ownerOf", desc := "(I)LStreamSplitter$Programme;" } : Jvm.MethodName)) ∈ lw_ok := List.mem_filter.mpr ⟨List.mem_of_getElem? (i := 321) (by decide +kernel), rfl⟩
theorem wd_323 : (Jvm.Cond.instanceMethod ({ cls := "StreamSplitter$Tables", name := "ownerOf", desc := "(I)LStreamSplitter$Programme;" } : Jvm.MethodName)) ∈ lw_ok := List.mem_filter.mpr ⟨List.mem_of_getElem? (i := 323) (by decide +kernel), rfl⟩
set_option maxRecDepth 100000 in
theorem wd_324 : (Jvm.Cond.code ({ cls := "StreamSplitter$Tables", name := "ownerOf", desc := "(I)LStreamSplitter$Programme;" } : Jvm.MethodName) prog_11_method_4_code (3 : Nat) (Option.some (Jvm.ClassFile.FieldType.object "StreamSplitter$Programme"))) ∈ lw_ok := List.mem_filter.mpr ⟨List.mem_of_getElem? (i := 324) (by rfl), rfl⟩
theorem wd_635 : (Jvm.Cond.fieldLinkNest "StreamSplitter$Tables" (46 : Nat) "StreamSplitter$Stream" "type" "I" "StreamSplitter") ∈ lw_ok := List.mem_filter.mpr ⟨List.mem_of_getElem? (i := 635) (by decide +kernel), rfl⟩
theorem hd_Tables_ownerOf : y_Tables_ownerOf.cls ≠ "java/lang/invoke/MethodHandle" ∧ y_Tables_ownerOf.cls ≠ "java/lang/invoke/VarHandle" ∧ (parseMethodDescriptor y_Tables_ownerOf.desc).map (fun d => d.parameters.length) = some 1 := by decide +kernel
theorem d_Tables_programmeAt_15 : decode b_Tables_programmeAt 15 = .ok (.aload_n 0, 1) := by decide +kernel
theorem d_Tables_programmeAt_16 : decode b_Tables_programmeAt 16 = .ok (.getfield 18, 3) := by decide +kernel
theorem d_Tables_programmeAt_19 : decode b_Tables_programmeAt 19 = .ok (.iload_n 1, 1) := by decide +kernel
theorem d_Tables_programmeAt_20 : decode b_Tables_programmeAt 20 = .ok (.invokevirtual 26, 3) := by decide +kernel
theorem d_Tables_programmeAt_23 : decode b_Tables_programmeAt 23 = .ok (.checkcast 30, 3) := by decide +kernel
theorem d_Tables_programmeAt_26 : decode b_Tables_programmeAt 26 = .ok (.goto 4, 3) := by decide +kernel
theorem d_Tables_useOf_0 : decode b_Tables_useOf 0 = .ok (.iload_n 1, 1) := by decide +kernel
theorem d_Tables_useOf_1 : decode b_Tables_useOf 1 = .ok (.ifCond .ne 5, 3) := by decide +kernel
theorem d_Tables_useOf_4 : decode b_Tables_useOf 4 = .ok (.iconst 1, 1) := by decide +kernel
theorem d_Tables_useOf_5 : decode b_Tables_useOf 5 = .ok (.ireturn, 1) := by decide +kernel
theorem d_Tables_useOf_6 : decode b_Tables_useOf 6 = .ok (.iconst 0, 1) := by decide +kernel
theorem d_Tables_useOf_7 : decode b_Tables_useOf 7 = .ok (.istore_n 2, 1) := by decide +kernel
theorem d_Tables_useOf_8 : decode b_Tables_useOf 8 = .ok (.iload_n 2, 1) := by decide +kernel
theorem d_Tables_useOf_9 : decode b_Tables_useOf 9 = .ok (.aload_n 0, 1) := by decide +kernel
theorem d_Tables_useOf_10 : decode b_Tables_useOf 10 = .ok (.getfield 18, 3) := by decide +kernel
theorem d_Tables_useOf_13 : decode b_Tables_useOf 13 = .ok (.invokevirtual 22, 3) := by decide +kernel
theorem d_Tables_useOf_16 : decode b_Tables_useOf 16 = .ok (.if_icmp .ge 29, 3) := by decide +kernel
theorem d_Tables_useOf_19 : decode b_Tables_useOf 19 = .ok (.aload_n 0, 1) := by decide +kernel
theorem d_Tables_useOf_20 : decode b_Tables_useOf 20 = .ok (.getfield 18, 3) := by decide +kernel
theorem d_Tables_useOf_23 : decode b_Tables_useOf 23 = .ok (.iload_n 2, 1) := by decide +kernel
theorem d_Tables_useOf_24 : decode b_Tables_useOf 24 = .ok (.invokevirtual 26, 3) := by decide +kernel
theorem d_Tables_useOf_27 : decode b_Tables_useOf 27 = .ok (.checkcast 30, 3) := by decide +kernel
theorem d_Tables_useOf_30 : decode b_Tables_useOf 30 = .ok (.getfield 35, 3) := by decide +kernel
theorem d_Tables_useOf_33 : decode b_Tables_useOf 33 = .ok (.iload_n 1, 1) := by decide +kernel
theorem d_Tables_useOf_34 : decode b_Tables_useOf 34 = .ok (.if_icmp .ne 5, 3) := by decide +kernel
theorem d_Tables_useOf_37 : decode b_Tables_useOf 37 = .ok (.iconst 2, 1) := by decide +kernel
theorem d_Tables_useOf_38 : decode b_Tables_useOf 38 = .ok (.ireturn, 1) := by decide +kernel
theorem d_Tables_useOf_39 : decode b_Tables_useOf 39 = .ok (.iinc 2 1, 3) := by decide +kernel
theorem d_Tables_useOf_42 : decode b_Tables_useOf 42 = .ok (.goto (-34), 3) := by decide +kernel
theorem d_Tables_useOf_45 : decode b_Tables_useOf 45 = .ok (.aload_n 0, 1) := by decide +kernel
theorem d_Tables_useOf_46 : decode b_Tables_useOf 46 = .ok (.iload_n 1, 1) := by decide +kernel
theorem d_Tables_useOf_47 : decode b_Tables_useOf 47 = .ok (.invokevirtual 42, 3) := by decide +kernel
theorem d_Tables_useOf_50 : decode b_Tables_useOf 50 = .ok (.astore_n 2, 1) := by decide +kernel
theorem d_Tables_useOf_51 : decode b_Tables_useOf 51 = .ok (.aload_n 2, 1) := by decide +kernel
theorem d_Tables_useOf_52 : decode b_Tables_useOf 52 = .ok (.ifnonnull 7, 3) := by decide +kernel
theorem d_Tables_useOf_55 : decode b_Tables_useOf 55 = .ok (.aconst_null, 1) := by decide +kernel
theorem d_Tables_useOf_56 : decode b_Tables_useOf 56 = .ok (.goto 8, 3) := by decide +kernel
theorem d_Tables_useOf_59 : decode b_Tables_useOf 59 = .ok (.aload_n 2, 1) := by decide +kernel
theorem d_Tables_useOf_60 : decode b_Tables_useOf 60 = .ok (.iload_n 1, 1) := by decide +kernel
theorem d_Tables_useOf_61 : decode b_Tables_useOf 61 = .ok (.invokevirtual 38, 3) := by decide +kernel
theorem d_Tables_useOf_64 : decode b_Tables_useOf 64 = .ok (.astore_n 3, 1) := by decide +kernel
theorem d_Tables_useOf_65 : decode b_Tables_useOf 65 = .ok (.aload_n 3, 1) := by decide +kernel
theorem d_Tables_useOf_66 : decode b_Tables_useOf 66 = .ok (.ifnonnull 5, 3) := by decide +kernel
theorem d_Tables_useOf_69 : decode b_Tables_useOf 69 = .ok (.iconst 0, 1) := by decide +kernel
theorem d_Tables_useOf_70 : decode b_Tables_useOf 70 = .ok (.ireturn, 1) := by decide +kernel
theorem d_Tables_useOf_71 : decode b_Tables_useOf 71 = .ok (.aload_n 3, 1) := by decide +kernel
theorem d_Tables_useOf_72 : decode b_Tables_useOf 72 = .ok (.getfield 46, 3) := by decide +kernel
theorem d_Tables_useOf_75 : decode b_Tables_useOf 75 = .ok (.sipush 134, 3) := by decide +kernel
theorem d_Tables_useOf_78 : decode b_Tables_useOf 78 = .ok (.if_icmp .ne 7, 3) := by decide +kernel
theorem d_Tables_useOf_81 : decode b_Tables_useOf 81 = .ok (.iconst 3, 1) := by decide +kernel
theorem d_Tables_useOf_82 : decode b_Tables_useOf 82 = .ok (.goto 4, 3) := by decide +kernel
theorem d_Tables_useOf_85 : decode b_Tables_useOf 85 = .ok (.iconst 4, 1) := by decide +kernel
theorem d_Tables_useOf_86 : decode b_Tables_useOf 86 = .ok (.ireturn, 1) := by decide +kernel
/-! What a PID is for -/
theorem ow_none {P : List (PZ × List (Int32 × Nat))} {pid : Nat} (h : owR P pid none) : ∀ j, j < P.length → ¬ hasP (P.getD j (pz0, [])).2 pid := by
  rcases h with ⟨-, q⟩ | ⟨j9, -, -, -, q⟩
  · exact q
  · cases q
def uoR (P : List (PZ × List (Int32 × Nat))) (pid : Nat) (r : Int32) : Prop :=
  (pid = 0 ∧ r = 1) ∨ (¬ pid = 0 ∧ (∃ j, j < P.length ∧ (P.getD j (pz0, [])).1.2.2.1 = pid) ∧ r = 2)
  ∨ (¬ pid = 0 ∧ (∀ j, j < P.length → ¬ (P.getD j (pz0, [])).1.2.2.1 = pid) ∧ (((∀ j, j < P.length → ¬ hasP (P.getD j (pz0, [])).2 pid) ∧ r = 0)
    ∨ ∃ j i, j < P.length ∧ (∀ x, x < j → ¬ hasP (P.getD x (pz0, [])).2 pid) ∧ i < (P.getD j (pz0, [])).2.length ∧ ((P.getD j (pz0, [])).2.getD i (0, 0)).2 = pid ∧ (∀ x, x < i → ¬ ((P.getD j (pz0, [])).2.getD x (0, 0)).2 = pid) ∧ r = if ((P.getD j (pz0, [])).2.getD i (0, 0)).1 = 134 then 3 else 4))

set_option maxHeartbeats 4000000 in
set_option maxRecDepth 100000 in
theorem c_Tables_useOf (l : Launch) (D : va_G) (cO : ClassId) (WS : va_W) (tb pr : Nat) (lv : Int32) (P : List (PZ × List (Int32 × Nat))) (pid : Nat) (hT : isT WS cO tb pr lv P) (hpid : pid < 8192) : Met l y_Tables_useOf [Cond.code y_Tables_useOf b_Tables_useOf 4 (some .int)] ({ frames := 5, cells := 0, slots := 0, locals := 108 }) (zP [.ref tb, .int (nI pid)] D ([] ++ WS) [(cO, .object "java/lang/Object")]) (vp_Si (fun r => uoR P pid r)) 0 0 (fun _ => False) := by
  refine Met.ofW (cc := b_Tables_useOf) (maxL := 4) (ret := (some .int)) (by decide) rfl ?_
  intro p e s m args below meth cd s₁ Bd hml hv
  obtain ⟨rfl, hP, hK, hN⟩ := hv
  have hx := Bd.exec
  have hb := Bd.bytes
  have hr := Bd.returns
  have hts := hN.use (a := ([.ref tb, .int (nI pid)]).toArray)
  have hown : s.vm.findClass R_Tables = some m.cls := findClass_of_methodNamed Bd.named
  have hlocks := Bd.notSynchronized
  have hP : va_P D classes ([] ++ WS) s.heap := hP
  have hl := lv_entry ([.ref tb, .int (nI pid)]) (n := 4) (Nat.le_of_ble_eq_true rfl)
  rw [lg_entry_eq]
  generalize (lg_sl ([.ref tb, .int (nI pid)]) ++ List.replicate (4 - (lg_sl ([.ref tb, .int (nI pid)])).length) Slot.unset).toArray = ls at hl ⊢
  have hl : lv_has ls 4 [(0, .ref tb), (1, .int (nI pid))] := hl
  have hT0 := hT
  obtain ⟨hmt, pb, mo, g, ⟨hLm, hL6, hLa⟩, hE⟩ := hT
  obtain ⟨q0, hq0⟩ := List.getElem?_of_mem hmt
  obtain ⟨q1, hq1⟩ := List.getElem?_of_mem hLm
  refine lv_iload_n hx hb d_Tables_useOf_0 rfl (lv_at hl 1 rfl) ?_
  refine lv_if_ne (tgt := 6) hx hb d_Tables_useOf_1 rfl (fun h1 => ?_) (fun h1 => ?_)
  · have h1 : ¬ pid = 0 := fun z => h1 (by rw [z]; rfl)
    refine lv_iconst (v := 0) hx hb d_Tables_useOf_6 (by decide) ?_
    refine lv_istore_n (lv' := [(2, .int 0), (0, .ref tb), (1, .int (nI pid))]) hx hb d_Tables_useOf_7 rfl hl (by decide) rfl (fun ls hl => ?_)
    have loop8 : ∀ (N : Nat) (j : Nat) (ls : Array Slot) (hm : P.length - j < N) (hj : j ≤ P.length) (hne : ∀ i, i < j → ¬ (P.getD i (pz0, [])).1.2.2.1 = pid) (hl : lv_has ls 4 [(0, .ref tb), (1, .int (nI pid)), (2, .int (nI j))]), W p l e ({ frames := 5, cells := 0, slots := 0, locals := 108 }) s m ([.ref tb, .int (nI pid)]).toArray below meth cd s.heap [] 0 0 (MQ below (vp_Si (fun r => uoR P pid r)) ([.ref tb, .int (nI pid)]).toArray s 0 0 (fun _ => False)) (F0 m 8 ls []) := by
      intro N8
      induction N8 with
      | zero => intro j ls hm hj hne hl; exact absurd hm (Nat.not_lt_zero _)
      | succ N8 ih8 =>
        intro j ls hm hj hne hl
        refine lv_iload_n hx hb d_Tables_useOf_8 rfl (lv_at hl 2 rfl) ?_
        refine lv_aload_n hx hb d_Tables_useOf_9 rfl (lv_at hl 0 rfl) ?_
        refine va_get (D := D) (ci := 8) (v := .ref pr) (C := R_Tables) (T := F_Tables) (N := 2) hx hb hts i_Tables hown hK hP q0 hq0 rfl 1 (by decide) (hts _ wd_166) (fun _ h9 => h9) rfl d_Tables_useOf_10 ?_
        have hPc : va_P D classes [(pr, .inr (12, [.ref pb, .int (nI P.length), .int mo]))] s.heap := z_Pm1 hLm hP
        have hKc := hK.sub (tys' := []) [] rfl
        refine z_ci (va_runV (As := []) (rest := [.int (nI j)]) ⟨hx, hb, hml, hown, hts⟩ (c_AL_size l D pr pb (nI P.length) mo ) (z_cV hN wd_305 wd_66 wd_302 hd_AL_size rfl rfl ⟨Nat.le_of_ble_eq_true rfl, Nat.le_of_ble_eq_true rfl⟩ wd_303 wd_304) (z_preV (va_recv (ci := 12) (q0 := q1) hK hP rfl hq1) hPc hKc hN) rfl rfl hl.1 rfl (lv_room (Nat.le_of_ble_eq_true rfl)) d_Tables_useOf_13 ⟨Nat.le_of_ble_eq_true rfl, Nat.le_of_ble_eq_true rfl⟩) (fun r13 e13 => ?_)
        subst e13
        refine lv_icmp_ge (tgt := 45) hx hb d_Tables_useOf_16 rfl (fun h16 => ?_) (fun h16 => ?_)
        · have h16 := (nI_leI (by omega) (by omega)).mp h16
          have hne0 : ∀ i, i < P.length → ¬ (P.getD i (pz0, [])).1.2.2.1 = pid := fun i hi => hne i (by omega)
          refine lv_aload_n hx hb d_Tables_useOf_45 rfl (lv_at hl 0 rfl) ?_
          refine lv_iload_n hx hb d_Tables_useOf_46 rfl (lv_at hl 1 rfl) ?_
          have hPc : va_P D classes ([] ++ ([] ++ WS)) s.heap := hP
          have hKc := hK.sub (tys' := [(cO, .object "java/lang/Object")]) [0] rfl
          refine z_cq (va_runV (As := [.int (nI pid)]) (rest := []) ⟨hx, hb, hml, hown, hts⟩ (c_Tables_ownerOf l D cO WS tb pr lv P pid hT0 hpid) (z_cV hN wd_324 wd_63 wd_321 hd_Tables_ownerOf rfl rfl ⟨Nat.le_of_ble_eq_true rfl, Nat.le_of_ble_eq_true rfl⟩ wd_323 wd_3) (z_preV (va_recv (ci := 8) (q0 := q0) hK hP rfl hq0) hPc hKc hN) rfl rfl hl.1 rfl (lv_room (Nat.le_of_ble_eq_true rfl)) d_Tables_useOf_47 ⟨Nat.le_of_ble_eq_true rfl, Nat.le_of_ble_eq_true rfl⟩) (fun r47 e47 => ?_)
          have hl : lv_has ls 4 [(0, .ref tb), (1, .int (nI pid))] := lv_sub hl [0, 1] rfl
          refine z_astoreq_n (lv' := [(2, va_rf r47), (0, .ref tb), (1, .int (nI pid))]) hx hb d_Tables_useOf_50 rfl hl (by decide) rfl (fun ls hl => ?_)
          refine z_aloadq_n hx hb d_Tables_useOf_51 rfl (lv_at hl 0 rfl) ?_
          cases h52 : r47 with
          | none =>
            rw [h52] at hl
            have hl : lv_has ls 4 [(2, .null), (0, .ref tb), (1, .int (nI pid))] := hl
            try rw [h52]
            refine lv_ifnonnullN hx hb d_Tables_useOf_52 ?_
            refine lv_null hx hb d_Tables_useOf_55 ?_
            refine lv_goto (tgt := 64) hx hb d_Tables_useOf_56 rfl ?_
            have hl : lv_has ls 4 [(0, .ref tb), (1, .int (nI pid))] := lv_sub hl [1, 2] rfl
            refine lv_astore_nN (lv' := [(3, .null), (0, .ref tb), (1, .int (nI pid))]) hx hb d_Tables_useOf_64 rfl hl (by decide) rfl (fun ls hl => ?_)
            refine lv_aload_nN hx hb d_Tables_useOf_65 rfl (lv_at hl 0 rfl) ?_
            refine lv_ifnonnullN hx hb d_Tables_useOf_66 ?_
            refine lv_iconst (v := 0) hx hb d_Tables_useOf_69 (by decide) ?_
            exact W.iret (v := 0) hx hb hr (fun t ht hW => ⟨_, rfl, Or.inr (Or.inr ⟨h1, hne0, Or.inl ⟨ow_none (h52 ▸ e47), rfl⟩⟩), ht⟩) (fun _ h => by cases h) d_Tables_useOf_70
          | some x52 =>
            rw [h52] at hl
            have hl : lv_has ls 4 [(2, .ref x52), (0, .ref tb), (1, .int (nI pid))] := hl
            try rw [h52]
            refine lv_ifnonnull (x := x52) (tgt := 59) hx hb d_Tables_useOf_52 rfl ?_
            rcases e47 with ⟨e47, -⟩ | ⟨j9, hj9, hh9, hf9, he9⟩
            · rw [h52] at e47; cases e47
            rw [h52] at he9
            obtain rfl : x52 = (P.getD j9 (pz0, [])).1.1 := Option.some.inj he9
            obtain ⟨hga9, ham9, hpp9, hss9⟩ := hE j9 hj9
            obtain ⟨q2, hq2⟩ := List.getElem?_of_mem ham9
            refine lv_aload_n hx hb d_Tables_useOf_59 rfl (lv_at hl 0 rfl) ?_
            refine lv_iload_n hx hb d_Tables_useOf_60 rfl (lv_at hl 2 rfl) ?_
            have hPc : va_P D classes ([] ++ ([] ++ WS)) s.heap := hP
            have hKc := hK.sub (tys' := [(cO, .object "java/lang/Object")]) [0] rfl
            refine z_cq (va_runV (As := [.int (nI pid)]) (rest := []) ⟨hx, hb, hml, hown, hts⟩ (c_Programme_streamWith l D cO WS ((P.getD j9 (pz0, [])).1) ((P.getD j9 (pz0, [])).2) pid ham9 hss9 hpid) (z_cV hN wd_328 wd_82 wd_325 hd_Programme_streamWith rfl rfl ⟨Nat.le_of_ble_eq_true rfl, Nat.le_of_ble_eq_true rfl⟩ wd_326 wd_327) (z_preV (va_recv (ci := 7) (q0 := q2) hK hP rfl hq2) hPc hKc hN) rfl rfl hl.1 rfl (lv_room (Nat.le_of_ble_eq_true rfl)) d_Tables_useOf_61 ⟨Nat.le_of_ble_eq_true rfl, Nat.le_of_ble_eq_true rfl⟩) (fun r61 e61 => ?_)
            have hl : lv_has ls 4 [(0, .ref tb), (1, .int (nI pid))] := lv_sub hl [1, 2] rfl
            refine z_astoreq_n (lv' := [(3, va_rf r61), (0, .ref tb), (1, .int (nI pid))]) hx hb d_Tables_useOf_64 rfl hl (by decide) rfl (fun ls hl => ?_)
            refine z_aloadq_n hx hb d_Tables_useOf_65 rfl (lv_at hl 0 rfl) ?_
            cases h66 : r61 with
            | none =>
              rw [h66] at hl
              have hl : lv_has ls 4 [(3, .null), (0, .ref tb), (1, .int (nI pid))] := hl
              try rw [h66]
              refine lv_ifnonnullN hx hb d_Tables_useOf_66 ?_
              exact absurd hh9 (sR_none (h66 ▸ e61))
            | some x66 =>
              rw [h66] at hl
              have hl : lv_has ls 4 [(3, .ref x66), (0, .ref tb), (1, .int (nI pid))] := hl
              try rw [h66]
              refine lv_ifnonnull (x := x66) (tgt := 71) hx hb d_Tables_useOf_66 rfl ?_
              rcases e61 with ⟨e61, -⟩ | ⟨i9, a9, hi9, hp9, hq9, he61, hm61⟩
              · rw [h66] at e61; cases e61
              rw [h66] at he61
              obtain rfl : x66 = a9 := Option.some.inj he61
              obtain ⟨q3, hq3⟩ := List.getElem?_of_mem hm61
              refine lv_aload_n hx hb d_Tables_useOf_71 rfl (lv_at hl 0 rfl) ?_
              refine va_getN (D := D) (ci := 5) (v := .int (((P.getD j9 (pz0, [])).2.getD i9 (0, 0)).1)) (C := R_Stream) (T := F_Stream) (N := 2) hx hb hts i_Stream hown hK hP q3 hq3 rfl 0 (by decide) (hts _ wd_635) (fun _ h9 => h9) rfl d_Tables_useOf_72 ?_
              refine lv_sipush (v := 134) hx hb d_Tables_useOf_75 (by decide) ?_
              refine lv_icmp_ne (tgt := 85) hx hb d_Tables_useOf_78 rfl (fun h78 => ?_) (fun h78 => ?_)
              · refine lv_iconst (v := 4) hx hb d_Tables_useOf_85 (by decide) ?_
                exact W.iret (v := 4) hx hb hr (fun t ht hW => ⟨_, rfl, Or.inr (Or.inr ⟨h1, hne0, Or.inr ⟨j9, i9, hj9, hf9, hi9, hp9, hq9, (if_neg h78).symm⟩⟩), ht⟩) (fun _ h => by cases h) d_Tables_useOf_86
              · have h78 : ((P.getD j9 (pz0, [])).2.getD i9 (0, 0)).1 = 134 := by first | exact h78 | exact Classical.not_not.mp h78
                refine lv_iconst (v := 3) hx hb d_Tables_useOf_81 (by decide) ?_
                refine lv_goto (tgt := 86) hx hb d_Tables_useOf_82 rfl ?_
                exact W.iret (v := 3) hx hb hr (fun t ht hW => ⟨_, rfl, Or.inr (Or.inr ⟨h1, hne0, Or.inr ⟨j9, i9, hj9, hf9, hi9, hp9, hq9, (if_pos h78).symm⟩⟩), ht⟩) (fun _ h => by cases h) d_Tables_useOf_86
        · have h16 := mt (nI_leI (by omega) (by omega)).mpr h16
          refine lv_aload_n hx hb d_Tables_useOf_19 rfl (lv_at hl 0 rfl) ?_
          refine va_get (D := D) (ci := 8) (v := .ref pr) (C := R_Tables) (T := F_Tables) (N := 2) hx hb hts i_Tables hown hK hP q0 hq0 rfl 1 (by decide) (hts _ wd_166) (fun _ h9 => h9) rfl d_Tables_useOf_20 ?_
          refine lv_iload_n hx hb d_Tables_useOf_23 rfl (lv_at hl 2 rfl) ?_
          obtain ⟨hga, ham, hpp, hss⟩ := hE j (by omega)
          obtain ⟨q2, hq2⟩ := List.getElem?_of_mem ham
          have hPc : va_P D classes [(pr, .inr (12, [.ref pb, .int (nI P.length), .int mo])), (pb, .inl (cO, 10, .inr (.inr (.inr (.inr g)))))] s.heap := z_Pm2 hLm (hLa.resolve_left (by omega)) hP
          have hKc := hK.sub (tys' := [(cO, .object "java/lang/Object")]) [0] rfl
          refine z_cq (va_runV (As := [.int (nI j)]) (rest := []) ⟨hx, hb, hml, hown, hts⟩ (c_AL_get l D cO pr pb P.length mo g j (by omega) (by omega)) (z_cV hN wd_309 wd_66 wd_306 hd_AL_get rfl rfl ⟨Nat.le_of_ble_eq_true rfl, Nat.le_of_ble_eq_true rfl⟩ wd_307 wd_308) (z_preV (va_recv (ci := 12) (q0 := q1) hK hP rfl hq1) hPc hKc hN) rfl rfl hl.1 rfl (lv_room (Nat.le_of_ble_eq_true rfl)) d_Tables_useOf_24 ⟨Nat.le_of_ble_eq_true rfl, Nat.le_of_ble_eq_true rfl⟩) (fun r24 e24 => ?_)
          subst e24
          refine z_topq (w := some ((P.getD j (pz0, [])).1.1)) hga ?_
          refine va_castY hx hb hown (hts _ wd_320) (hN _ wd_1485) (va_recv (ci := 7) (q0 := q2) hK hP rfl hq2) d_Tables_useOf_27 ?_
          refine va_getN (D := D) (ci := 7) (v := .int (nI (P.getD j (pz0, [])).1.2.2.1)) (C := R_Programme) (T := F_Programme) (N := 8) hx hb hts i_Programme hown hK hP q2 hq2 rfl 1 (by decide) (hts _ wd_579) (fun _ h9 => h9) rfl d_Tables_useOf_30 ?_
          refine lv_iload_n hx hb d_Tables_useOf_33 rfl (lv_at hl 1 rfl) ?_
          refine lv_icmp_ne (tgt := 39) hx hb d_Tables_useOf_34 rfl (fun h34 => ?_) (fun h34 => ?_)
          · have h34 : ¬ (P.getD j (pz0, [])).1.2.2.1 = pid := fun q => h34 (by rw [q])
            refine lv_iinc (k := 2) (v := nI (j + 1)) (lv' := [(2, .int (nI (j + 1))), (0, .ref tb), (1, .int (nI pid))]) hx hb d_Tables_useOf_39 hl rfl (nI_1 j) (by decide) rfl (fun ls hl => ?_)
            refine lv_goto (tgt := 8) hx hb d_Tables_useOf_42 rfl ?_
            exact ih8 (j + 1) ls (by omega) (by omega) (fun i hi => by by_cases c9 : i = j; rw [c9]; exact h34; exact hne i (by omega)) (lv_sub hl [1, 2, 0] rfl)
          · have h34 : (P.getD j (pz0, [])).1.2.2.1 = pid := nI_inj (by omega) (by omega) (by first | exact h34 | exact Classical.not_not.mp h34)
            refine lv_iconst (v := 2) hx hb d_Tables_useOf_37 (by decide) ?_
            exact W.iret (v := 2) hx hb hr (fun t ht hW => ⟨_, rfl, Or.inr (Or.inl ⟨h1, ⟨j, by omega, h34⟩, rfl⟩), ht⟩) (fun _ h => by cases h) d_Tables_useOf_38
    exact loop8 _ 0 ls (Nat.lt_succ_self _) (Nat.zero_le _) (fun i hi => absurd hi (Nat.not_lt_zero i)) (lv_sub hl [1, 2, 0] rfl)
  · have h1 : pid = 0 := (nI_eq (b := 0) (by omega) (by omega)).mp (by first | exact h1 | exact Classical.not_not.mp h1)
    refine lv_iconst (v := 1) hx hb d_Tables_useOf_4 (by decide) ?_
    exact W.iret (v := 1) hx hb hr (fun t ht hW => ⟨_, rfl, Or.inl ⟨h1, rfl⟩, ht⟩) (fun _ h => by cases h) d_Tables_useOf_5
set_option maxHeartbeats 4000000 in
set_option maxRecDepth 100000 in
theorem c_Tables_programmeAt (l : Launch) (D : va_G) (cO : ClassId) (WS : va_W) (tb pr : Nat) (lv : Int32) (P : List (PZ × List (Int32 × Nat))) (k : Nat) (hT : isT WS cO tb pr lv P) (hk : k < P.length) : Met l y_Tables_programmeAt [Cond.code y_Tables_programmeAt b_Tables_programmeAt 2 (some (.object "StreamSplitter$Programme"))] ({ frames := 3, cells := 0, slots := 0, locals := 64 }) (zP [.ref tb, .int (nI k)] D ([] ++ WS) [(cO, .object "java/lang/Object")]) (va_Sq (fun r => r = some (P.getD k (pz0, [])).1.1)) 0 0 (fun _ => False) := by
  refine Met.ofW (cc := b_Tables_programmeAt) (maxL := 2) (ret := (some (.object "StreamSplitter$Programme"))) (by decide) rfl ?_
  intro p e s m args below meth cd s₁ Bd hml hv
  obtain ⟨rfl, hP, hK, hN⟩ := hv
  have hx := Bd.exec
  have hb := Bd.bytes
  have hr := Bd.returns
  have hts := hN.use (a := ([.ref tb, .int (nI k)]).toArray)
  have hown : s.vm.findClass R_Tables = some m.cls := findClass_of_methodNamed Bd.named
  have hlocks := Bd.notSynchronized
  have hP : va_P D classes ([] ++ WS) s.heap := hP
  have hl := lv_entry ([.ref tb, .int (nI k)]) (n := 2) (Nat.le_of_ble_eq_true rfl)
  rw [lg_entry_eq]
  generalize (lg_sl ([.ref tb, .int (nI k)]) ++ List.replicate (2 - (lg_sl ([.ref tb, .int (nI k)])).length) Slot.unset).toArray = ls at hl ⊢
  have hl : lv_has ls 2 [(0, .ref tb), (1, .int (nI k))] := hl
  obtain ⟨hmt, pb, mo, g, ⟨hLm, hL6, hLa⟩, hE⟩ := hT
  obtain ⟨q0, hq0⟩ := List.getElem?_of_mem hmt
  obtain ⟨q1, hq1⟩ := List.getElem?_of_mem hLm
  refine lv_iload_n hx hb d_Tables_programmeAt_0 rfl (lv_at hl 1 rfl) ?_
  refine lv_if_lt (tgt := 29) hx hb d_Tables_programmeAt_1 rfl (fun h9 => absurd h9 (nI_pos (by omega))) (fun h1 => ?_)
  refine lv_iload_n hx hb d_Tables_programmeAt_4 rfl (lv_at hl 1 rfl) ?_
  refine lv_aload_n hx hb d_Tables_programmeAt_5 rfl (lv_at hl 0 rfl) ?_
  refine va_get (D := D) (ci := 8) (v := .ref pr) (C := R_Tables) (T := F_Tables) (N := 2) hx hb hts i_Tables hown hK hP q0 hq0 rfl 1 (by decide) (hts _ wd_166) (fun _ h9 => h9) rfl d_Tables_programmeAt_6 ?_
  have hPc : va_P D classes [(pr, .inr (12, [.ref pb, .int (nI P.length), .int mo]))] s.heap := z_Pm1 hLm hP
  have hKc := hK.sub (tys' := []) [] rfl
  refine z_ci (va_runV (As := []) (rest := [.int (nI k)]) ⟨hx, hb, hml, hown, hts⟩ (c_AL_size l D pr pb (nI P.length) mo ) (z_cV hN wd_305 wd_66 wd_302 hd_AL_size rfl rfl ⟨Nat.le_of_ble_eq_true rfl, Nat.le_of_ble_eq_true rfl⟩ wd_303 wd_304) (z_preV (va_recv (ci := 12) (q0 := q1) hK hP rfl hq1) hPc hKc hN) rfl rfl hl.1 rfl (lv_room (Nat.le_of_ble_eq_true rfl)) d_Tables_programmeAt_9 ⟨Nat.le_of_ble_eq_true rfl, Nat.le_of_ble_eq_true rfl⟩) (fun r9 e9 => ?_)
  subst e9
  refine lv_icmp_ge (tgt := 29) hx hb d_Tables_programmeAt_12 rfl (fun h9 => absurd h9 (nI_ge hk (by omega))) (fun h12 => ?_)
  refine lv_aload_n hx hb d_Tables_programmeAt_15 rfl (lv_at hl 0 rfl) ?_
  refine va_get (D := D) (ci := 8) (v := .ref pr) (C := R_Tables) (T := F_Tables) (N := 2) hx hb hts i_Tables hown hK hP q0 hq0 rfl 1 (by decide) (hts _ wd_166) (fun _ h9 => h9) rfl d_Tables_programmeAt_16 ?_
  refine lv_iload_n hx hb d_Tables_programmeAt_19 rfl (lv_at hl 1 rfl) ?_
  obtain ⟨hga, ham, hpp, hss⟩ := hE k (by omega)
  obtain ⟨q2, hq2⟩ := List.getElem?_of_mem ham
  have hPc : va_P D classes [(pr, .inr (12, [.ref pb, .int (nI P.length), .int mo])), (pb, .inl (cO, 10, .inr (.inr (.inr (.inr g)))))] s.heap := z_Pm2 hLm (hLa.resolve_left (by omega)) hP
  have hKc := hK.sub (tys' := [(cO, .object "java/lang/Object")]) [0] rfl
  refine z_cq (va_runV (As := [.int (nI k)]) (rest := []) ⟨hx, hb, hml, hown, hts⟩ (c_AL_get l D cO pr pb P.length mo g k (by omega) (by omega)) (z_cV hN wd_309 wd_66 wd_306 hd_AL_get rfl rfl ⟨Nat.le_of_ble_eq_true rfl, Nat.le_of_ble_eq_true rfl⟩ wd_307 wd_308) (z_preV (va_recv (ci := 12) (q0 := q1) hK hP rfl hq1) hPc hKc hN) rfl rfl hl.1 rfl (lv_room (Nat.le_of_ble_eq_true rfl)) d_Tables_programmeAt_20 ⟨Nat.le_of_ble_eq_true rfl, Nat.le_of_ble_eq_true rfl⟩) (fun r20 e20 => ?_)
  subst e20
  refine z_topq (w := some ((P.getD k (pz0, [])).1.1)) hga ?_
  refine va_castY hx hb hown (hts _ wd_320) (hN _ wd_1485) (va_recv (ci := 7) (q0 := q2) hK hP rfl hq2) d_Tables_programmeAt_23 ?_
  refine lv_goto (tgt := 30) hx hb d_Tables_programmeAt_26 rfl ?_
  exact W.aret (v := va_rf (some ((P.getD k (pz0, [])).1.1))) hx hb hr (Or.inl ⟨_, rfl⟩) (va_rf_or _) (fun t ht hW => ⟨_, rfl, rfl, ht⟩) (fun _ h => by cases h) d_Tables_programmeAt_30
set_option maxHeartbeats 4000000 in
set_option maxRecDepth 100000 in
theorem c_Tables_programmeAtN (l : Launch) (D : va_G) (cO : ClassId) (WS : va_W) (tb pr : Nat) (lv : Int32) (P : List (PZ × List (Int32 × Nat))) (k : Int32) (hT : isT WS cO tb pr lv P) (hk : k < 0 ∨ ¬ k < nI P.length) : Met l y_Tables_programmeAt [Cond.code y_Tables_programmeAt b_Tables_programmeAt 2 (some (.object "StreamSplitter$Programme"))] ({ frames := 1, cells := 0, slots := 0, locals := 20 }) (zP [.ref tb, .int k] D ([] ++ WS) [(cO, .object "java/lang/Object")]) (va_Sq (fun r => r = none)) 0 0 (fun _ => False) := by
  refine Met.ofW (cc := b_Tables_programmeAt) (maxL := 2) (ret := (some (.object "StreamSplitter$Programme"))) (by decide) rfl ?_
  intro p e s m args below meth cd s₁ Bd hml hv
  obtain ⟨rfl, hP, hK, hN⟩ := hv
  have hx := Bd.exec
  have hb := Bd.bytes
  have hr := Bd.returns
  have hts := hN.use (a := ([.ref tb, .int k]).toArray)
  have hown : s.vm.findClass R_Tables = some m.cls := findClass_of_methodNamed Bd.named
  have hlocks := Bd.notSynchronized
  have hP : va_P D classes ([] ++ WS) s.heap := hP
  have hl := lv_entry ([.ref tb, .int k]) (n := 2) (Nat.le_of_ble_eq_true rfl)
  rw [lg_entry_eq]
  generalize (lg_sl ([.ref tb, .int k]) ++ List.replicate (2 - (lg_sl ([.ref tb, .int k])).length) Slot.unset).toArray = ls at hl ⊢
  have hl : lv_has ls 2 [(0, .ref tb), (1, .int k)] := hl
  obtain ⟨hmt, pb, mo, g, ⟨hLm, hL6, hLa⟩, hE⟩ := hT
  obtain ⟨q0, hq0⟩ := List.getElem?_of_mem hmt
  obtain ⟨q1, hq1⟩ := List.getElem?_of_mem hLm
  refine lv_iload_n hx hb d_Tables_programmeAt_0 rfl (lv_at hl 1 rfl) ?_
  refine lv_if_lt (tgt := 29) hx hb d_Tables_programmeAt_1 rfl (fun h1 => ?_) (fun h1 => ?_)
  · refine lv_null hx hb d_Tables_programmeAt_29 ?_
    exact W.aret (v := va_rf none) hx hb hr (Or.inl ⟨_, rfl⟩) (va_rf_or _) (fun t ht hW => ⟨_, rfl, rfl, ht⟩) (fun _ h => by cases h) d_Tables_programmeAt_30
  · refine lv_iload_n hx hb d_Tables_programmeAt_4 rfl (lv_at hl 1 rfl) ?_
    refine lv_aload_n hx hb d_Tables_programmeAt_5 rfl (lv_at hl 0 rfl) ?_
    refine va_get (D := D) (ci := 8) (v := .ref pr) (C := R_Tables) (T := F_Tables) (N := 2) hx hb hts i_Tables hown hK hP q0 hq0 rfl 1 (by decide) (hts _ wd_166) (fun _ h9 => h9) rfl d_Tables_programmeAt_6 ?_
    have hPc : va_P D classes [(pr, .inr (12, [.ref pb, .int (nI P.length), .int mo]))] s.heap := z_Pm1 hLm hP
    have hKc := hK.sub (tys' := []) [] rfl
    refine z_ci (va_runV (As := []) (rest := [.int k]) ⟨hx, hb, hml, hown, hts⟩ (c_AL_size l D pr pb (nI P.length) mo ) (z_cV hN wd_305 wd_66 wd_302 hd_AL_size rfl rfl ⟨Nat.le_of_ble_eq_true rfl, Nat.le_of_ble_eq_true rfl⟩ wd_303 wd_304) (z_preV (va_recv (ci := 12) (q0 := q1) hK hP rfl hq1) hPc hKc hN) rfl rfl hl.1 rfl (lv_room (Nat.le_of_ble_eq_true rfl)) d_Tables_programmeAt_9 ⟨Nat.le_of_ble_eq_true rfl, Nat.le_of_ble_eq_true rfl⟩) (fun r9 e9 => ?_)
    subst e9
    refine lv_icmp_ge (tgt := 29) hx hb d_Tables_programmeAt_12 rfl (fun h12 => ?_) (fun h12 => ?_)
    · refine lv_null hx hb d_Tables_programmeAt_29 ?_
      exact W.aret (v := va_rf none) hx hb hr (Or.inl ⟨_, rfl⟩) (va_rf_or _) (fun t ht hW => ⟨_, rfl, rfl, ht⟩) (fun _ h => by cases h) d_Tables_programmeAt_30
    · exact absurd hk (fun z => z.elim h1 (fun q => q (Int32.not_le.mp h12)))
