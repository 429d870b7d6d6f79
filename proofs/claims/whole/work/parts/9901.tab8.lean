theorem wd_17 : (Jvm.Cond.selects "StreamSplitter$Tables" ({ cls := "StreamSplitter$Tables", name := "firstWith", desc := "(II)LStreamSplitter$Programme;" } : Jvm.MethodName) ({ cls := "StreamSplitter$Tables", name := "firstWith", desc := "(II)LStreamSplitter$Programme;" } : Jvm.MethodName)) ∈ lw_ok := List.mem_filter.mpr ⟨List.mem_of_getElem? (i := 17) (by decide +kernel), rfl⟩
theorem wd_553 : (Jvm.Cond.methodLink "StreamSplitter$Tables" (65 : Nat) ({ cls := "StreamSplitter$Tables", name := "versionOf", desc := "(LStreamSplitter$Row;)I" } : Jvm.MethodName)) ∈ lw_ok := List.mem_filter.mpr ⟨List.mem_of_getElem? (i := 553) (by decide +kernel), rfl⟩
theorem wd_554 : (Jvm.Cond.static ({ cls := "StreamSplitter$Tables", name := "versionOf", desc := "(LStreamSplitter$Row;)I" } : Jvm.MethodName)) ∈ lw_ok := List.mem_filter.mpr ⟨List.mem_of_getElem? (i := 554) (by decide +kernel), rfl⟩
set_option maxRecDepth 100000 in
theorem wd_555 : (Jvm.Cond.code ({ cls := "StreamSplitter$Tables", name := "versionOf", desc := "(LStreamSplitter$Row;)I" } : Jvm.MethodName) prog_11_method_7_code (1 : Nat) (Option.some Jvm.ClassFile.FieldType.int)) ∈ lw_ok := List.mem_filter.mpr ⟨List.mem_of_getElem? (i := 555) (by rfl), rfl⟩
theorem wd_557 : (Jvm.Cond.methodLink "StreamSplitter$Tables" (69 : Nat) ({ cls := "StreamSplitter$Tables", name := "isTable", desc := "(LStreamSplitter$Row;I)Z" } : Jvm.MethodName)) ∈ lw_ok := List.mem_filter.mpr ⟨List.mem_of_getElem? (i := 557) (by decide +kernel), rfl⟩
theorem wd_558 : (Jvm.Cond.static ({ cls := "StreamSplitter$Tables", name := "isTable", desc := "(LStreamSplitter$Row;I)Z" } : Jvm.MethodName)) ∈ lw_ok := List.mem_filter.mpr ⟨List.mem_of_getElem? (i := 558) (by decide +kernel), rfl⟩
set_option maxRecDepth 100000 in
theorem wd_559 : (Jvm.Cond.code ({ cls := "StreamSplitter$Tables", name := "isTable", desc := "(LStreamSplitter$Row;I)Z" } : Jvm.MethodName) prog_11_method_6_code (2 : Nat) (Option.some Jvm.ClassFile.FieldType.boolean)) ∈ lw_ok := List.mem_filter.mpr ⟨List.mem_of_getElem? (i := 559) (by rfl), rfl⟩
theorem wd_565 : (Jvm.Cond.methodLink "StreamSplitter$Tables" (75 : Nat) ({ cls := "StreamSplitter$Tables", name := "firstWith", desc := "(II)LStreamSplitter$Programme;" } : Jvm.MethodName)) ∈ lw_ok := List.mem_filter.mpr ⟨List.mem_of_getElem? (i := 565) (by decide +kernel), rfl⟩
theorem wd_567 : (Jvm.Cond.instanceMethod ({ cls := "StreamSplitter$Tables", name := "firstWith", desc := "(II)LStreamSplitter$Programme;" } : Jvm.MethodName)) ∈ lw_ok := List.mem_filter.mpr ⟨List.mem_of_getElem? (i := 567) (by decide +kernel), rfl⟩
set_option maxRecDepth 100000 in
theorem wd_568 : (Jvm.Cond.code ({ cls := "StreamSplitter$Tables", name := "firstWith", desc := "(II)LStreamSplitter$Programme;" } : Jvm.MethodName) prog_11_method_3_code (5 : Nat) (Option.some (Jvm.ClassFile.FieldType.object "StreamSplitter$Programme"))) ∈ lw_ok := List.mem_filter.mpr ⟨List.mem_of_getElem? (i := 568) (by rfl), rfl⟩
theorem wd_582 : (Jvm.Cond.fieldLinkNest "StreamSplitter$Tables" (90 : Nat) "StreamSplitter$Programme" "version" "I" "StreamSplitter") ∈ lw_ok := List.mem_filter.mpr ⟨List.mem_of_getElem? (i := 582) (by decide +kernel), rfl⟩
theorem wd_585 : (Jvm.Cond.fieldLinkNest "StreamSplitter$Tables" (97 : Nat) "StreamSplitter$Programme" "clockPid" "I" "StreamSplitter") ∈ lw_ok := List.mem_filter.mpr ⟨List.mem_of_getElem? (i := 585) (by decide +kernel), rfl⟩
theorem wd_588 : (Jvm.Cond.fieldLinkNest "StreamSplitter$Tables" (100 : Nat) "StreamSplitter$Programme" "streams" "Ljava/util/ArrayList;" "StreamSplitter") ∈ lw_ok := List.mem_filter.mpr ⟨List.mem_of_getElem? (i := 588) (by decide +kernel), rfl⟩
theorem wd_625 : (Jvm.Cond.methodLink "StreamSplitter$Tables" (93 : Nat) ({ cls := "StreamSplitter$Tables", name := "streamsOf", desc := "(LStreamSplitter$Row;)Ljava/util/ArrayList;" } : Jvm.MethodName)) ∈ lw_ok := List.mem_filter.mpr ⟨List.mem_of_getElem? (i := 625) (by decide +kernel), rfl⟩
theorem wd_626 : (Jvm.Cond.static ({ cls := "StreamSplitter$Tables", name := "streamsOf", desc := "(LStreamSplitter$Row;)Ljava/util/ArrayList;" } : Jvm.MethodName)) ∈ lw_ok := List.mem_filter.mpr ⟨List.mem_of_getElem? (i := 626) (by decide +kernel), rfl⟩
set_option maxRecDepth 100000 in
theorem wd_627 : (Jvm.Cond.code ({ cls := "StreamSplitter$Tables", name := "streamsOf", desc := "(LStreamSplitter$Row;)Ljava/util/ArrayList;" } : Jvm.MethodName) prog_11_method_10_code (3 : Nat) (Option.some (Jvm.ClassFile.FieldType.object "java/util/ArrayList"))) ∈ lw_ok := List.mem_filter.mpr ⟨List.mem_of_getElem? (i := 627) (by rfl), rfl⟩
theorem hd_Tables_firstWith : y_Tables_firstWith.cls ≠ "java/lang/invoke/MethodHandle" ∧ y_Tables_firstWith.cls ≠ "java/lang/invoke/VarHandle" ∧ (parseMethodDescriptor y_Tables_firstWith.desc).map (fun d => d.parameters.length) = some 2 := by decide +kernel
theorem hd_Tables_isTable : y_Tables_isTable.cls ≠ "java/lang/invoke/MethodHandle" ∧ y_Tables_isTable.cls ≠ "java/lang/invoke/VarHandle" ∧ (parseMethodDescriptor y_Tables_isTable.desc).map (fun d => d.parameters.length) = some 2 := by decide +kernel
theorem hd_Tables_streamsOf : y_Tables_streamsOf.cls ≠ "java/lang/invoke/MethodHandle" ∧ y_Tables_streamsOf.cls ≠ "java/lang/invoke/VarHandle" ∧ (parseMethodDescriptor y_Tables_streamsOf.desc).map (fun d => d.parameters.length) = some 1 := by decide +kernel
theorem hd_Tables_versionOf : y_Tables_versionOf.cls ≠ "java/lang/invoke/MethodHandle" ∧ y_Tables_versionOf.cls ≠ "java/lang/invoke/VarHandle" ∧ (parseMethodDescriptor y_Tables_versionOf.desc).map (fun d => d.parameters.length) = some 1 := by decide +kernel
theorem d_Tables_usePlan_0 : decode b_Tables_usePlan 0 = .ok (.aload_n 1, 1) := by decide +kernel
theorem d_Tables_usePlan_1 : decode b_Tables_usePlan 1 = .ok (.iconst 2, 1) := by decide +kernel
theorem d_Tables_usePlan_2 : decode b_Tables_usePlan 2 = .ok (.invokestatic 69, 3) := by decide +kernel
theorem d_Tables_usePlan_5 : decode b_Tables_usePlan 5 = .ok (.ifCond .ne 5, 3) := by decide +kernel
theorem d_Tables_usePlan_8 : decode b_Tables_usePlan 8 = .ok (.iconst 0, 1) := by decide +kernel
theorem d_Tables_usePlan_9 : decode b_Tables_usePlan 9 = .ok (.ireturn, 1) := by decide +kernel
theorem d_Tables_usePlan_10 : decode b_Tables_usePlan 10 = .ok (.aload_n 0, 1) := by decide +kernel
theorem d_Tables_usePlan_11 : decode b_Tables_usePlan 11 = .ok (.aload_n 1, 1) := by decide +kernel
theorem d_Tables_usePlan_12 : decode b_Tables_usePlan 12 = .ok (.bipush 24, 2) := by decide +kernel
theorem d_Tables_usePlan_14 : decode b_Tables_usePlan 14 = .ok (.bipush 16, 2) := by decide +kernel
theorem d_Tables_usePlan_16 : decode b_Tables_usePlan 16 = .ok (.invokevirtual 61, 3) := by decide +kernel
theorem d_Tables_usePlan_19 : decode b_Tables_usePlan 19 = .ok (.l2i, 1) := by decide +kernel
theorem d_Tables_usePlan_20 : decode b_Tables_usePlan 20 = .ok (.iload_n 2, 1) := by decide +kernel
theorem d_Tables_usePlan_21 : decode b_Tables_usePlan 21 = .ok (.invokevirtual 75, 3) := by decide +kernel
theorem d_Tables_usePlan_24 : decode b_Tables_usePlan 24 = .ok (.astore_n 3, 1) := by decide +kernel
theorem d_Tables_usePlan_25 : decode b_Tables_usePlan 25 = .ok (.aload_n 3, 1) := by decide +kernel
theorem d_Tables_usePlan_26 : decode b_Tables_usePlan 26 = .ok (.ifnull 14, 3) := by decide +kernel
theorem d_Tables_usePlan_29 : decode b_Tables_usePlan 29 = .ok (.aload_n 3, 1) := by decide +kernel
theorem d_Tables_usePlan_30 : decode b_Tables_usePlan 30 = .ok (.getfield 90, 3) := by decide +kernel
theorem d_Tables_usePlan_33 : decode b_Tables_usePlan 33 = .ok (.aload_n 1, 1) := by decide +kernel
theorem d_Tables_usePlan_34 : decode b_Tables_usePlan 34 = .ok (.invokestatic 65, 3) := by decide +kernel
theorem d_Tables_usePlan_37 : decode b_Tables_usePlan 37 = .ok (.if_icmp .ne 5, 3) := by decide +kernel
theorem d_Tables_usePlan_40 : decode b_Tables_usePlan 40 = .ok (.iconst 0, 1) := by decide +kernel
theorem d_Tables_usePlan_41 : decode b_Tables_usePlan 41 = .ok (.ireturn, 1) := by decide +kernel
theorem d_Tables_usePlan_42 : decode b_Tables_usePlan 42 = .ok (.aload_n 1, 1) := by decide +kernel
theorem d_Tables_usePlan_43 : decode b_Tables_usePlan 43 = .ok (.invokestatic 93, 3) := by decide +kernel
theorem d_Tables_usePlan_46 : decode b_Tables_usePlan 46 = .ok (.astore 4, 2) := by decide +kernel
theorem d_Tables_usePlan_48 : decode b_Tables_usePlan 48 = .ok (.aload 4, 2) := by decide +kernel
theorem d_Tables_usePlan_50 : decode b_Tables_usePlan 50 = .ok (.ifnonnull 5, 3) := by decide +kernel
theorem d_Tables_usePlan_53 : decode b_Tables_usePlan 53 = .ok (.iconst 0, 1) := by decide +kernel
theorem d_Tables_usePlan_54 : decode b_Tables_usePlan 54 = .ok (.ireturn, 1) := by decide +kernel
theorem d_Tables_usePlan_55 : decode b_Tables_usePlan 55 = .ok (.aload_n 3, 1) := by decide +kernel
theorem d_Tables_usePlan_56 : decode b_Tables_usePlan 56 = .ok (.aload_n 1, 1) := by decide +kernel
theorem d_Tables_usePlan_57 : decode b_Tables_usePlan 57 = .ok (.invokestatic 65, 3) := by decide +kernel
theorem d_Tables_usePlan_60 : decode b_Tables_usePlan 60 = .ok (.putfield 90, 3) := by decide +kernel
theorem d_Tables_usePlan_63 : decode b_Tables_usePlan 63 = .ok (.aload_n 3, 1) := by decide +kernel
theorem d_Tables_usePlan_64 : decode b_Tables_usePlan 64 = .ok (.aload_n 1, 1) := by decide +kernel
theorem d_Tables_usePlan_65 : decode b_Tables_usePlan 65 = .ok (.bipush 67, 2) := by decide +kernel
theorem d_Tables_usePlan_67 : decode b_Tables_usePlan 67 = .ok (.bipush 13, 2) := by decide +kernel
theorem d_Tables_usePlan_69 : decode b_Tables_usePlan 69 = .ok (.invokevirtual 61, 3) := by decide +kernel
theorem d_Tables_usePlan_72 : decode b_Tables_usePlan 72 = .ok (.l2i, 1) := by decide +kernel
theorem d_Tables_usePlan_73 : decode b_Tables_usePlan 73 = .ok (.putfield 97, 3) := by decide +kernel
theorem d_Tables_usePlan_76 : decode b_Tables_usePlan 76 = .ok (.aload_n 3, 1) := by decide +kernel
theorem d_Tables_usePlan_77 : decode b_Tables_usePlan 77 = .ok (.aload 4, 2) := by decide +kernel
theorem d_Tables_usePlan_79 : decode b_Tables_usePlan 79 = .ok (.putfield 100, 3) := by decide +kernel
theorem d_Tables_usePlan_82 : decode b_Tables_usePlan 82 = .ok (.iconst 1, 1) := by decide +kernel
theorem d_Tables_usePlan_83 : decode b_Tables_usePlan 83 = .ok (.ireturn, 1) := by decide +kernel
/-! A plan comes into force -/
abbrev itP (f : Nat → Int32) (n : Nat) (x : Int32) : Prop := rw_at f n 1024 0 = x ∧ rw_bit f n 1024 47 = 1 ∧ rw_bits f n 1024 48 16 = 0
def vrV (f : Nat → Int32) (n : Nat) : Int32 := ((rw_at f n 1024 5) >>> ((1 : Int32) &&& 31)) &&& 31
def pzL (z : PZ) (v c : Int32) (sa : Nat) : PZ := (z.1, z.2.1, z.2.2.1, v, c, sa, z.2.2.2.2.2.2)
def fst9 (P : List PR9) (nu : Int32) (pid j : Nat) : Prop := j < P.length ∧ isNP (P.getD j pr9).1 nu pid ∧ ∀ i, i < j → ¬ isNP (P.getD i pr9).1 nu pid
def usP (f : Nat → Int32) (n : Nat) (P : List PR9) (pid : Nat) (r : Int32) (P2 : List PR9) : Prop :=
  (r = 0 ∧ P2 = P ∧ (¬ itP f n 2 ∨ (∀ j, j < P.length → ¬ isNP (P.getD j pr9).1 (nI (bN f n 1024 24 16)) pid) ∨ ∃ j, fst9 P (nI (bN f n 1024 24 16)) pid j ∧ ((P.getD j pr9).1.2.2.2.1 = vrV f n ∨ ¬ (soR f n).2 = n)))
  ∨ (r = 1 ∧ itP f n 2 ∧ ∃ j sa, fst9 P (nI (bN f n 1024 24 16)) pid j ∧ ¬ (P.getD j pr9).1.2.2.2.1 = vrV f n ∧ (soR f n).2 = n ∧ P2 = P.set j (pzL (P.getD j pr9).1 (vrV f n) (nI (bN f n 1024 67 13)) sa, (soR f n).1, (P.getD j pr9).2.2))
theorem pl_sw {X ex T Q : va_W} : (X ++ (ex ++ (T ++ Q))).Perm (X ++ (T ++ (ex ++ Q))) := List.Perm.append_left X (List.perm_append_comm_assoc _ _ _)
theorem pl_post {f : Nat → Int32} {n j pid sa : Nat} {Im nc : va_W} {cO : ClassId} {pst : Option (Nat × (Nat → Option Nat))} {P P2 : List PR9} {z : PZ} {S : List (Int32 × Nat)} {Wl : WL9} {mo : Int32} {wst : Option (Nat × (Nat → Option Nat))} (htk : tok Im cO pst P) (hf : fst9 P (nI (bN f n 1024 24 16)) pid j) (hxe : (z, S, Wl, mo, wst) = P.getD j pr9) (hit : itP f n 2) (hv : ¬ z.2.2.2.1 = vrV f n) (he : (soR f n).2 = n) (hs : isS nc cO sa (soR f n).1) (hset : P.set j (pzL z (vrV f n) (nI (bN f n 1024 67 13)) sa, (soR f n).1, Wl, mo, wst) = P2) : usP f n P pid 1 P2 ∧ tok (nc ++ Im) cO pst P2 := by
  have hpk := htk.2.2 _ (p_mem hf.1)
  rw [← hxe] at hpk
  refine ⟨Or.inr ⟨rfl, hit, j, sa, hf, by rw [← hxe]; exact hv, he, by rw [← hset, ← hxe]⟩, ?_⟩
  rw [← hset]
  have hq : ∀ y ∈ Im, y ∈ nc ++ Im := fun y hy => List.mem_append_right _ hy
  exact tok_set htk hf.1 (by rw [← hxe]; rfl) hq ⟨hpk.1, isS_mono hs (fun y hy => List.mem_append_left _ hy), wk_mono hpk.2.2.1 hq, hpk.2.2.2⟩

set_option maxHeartbeats 16000000 in
set_option maxRecDepth 100000 in
theorem c_Tables_usePlan (l : Launch) (D : va_G) (B0 : State) (hG : zG B0) (sz : Nat) (cB : ClassId) (h a n : Nat) (f : Nat → Int32) (cO : ClassId) (e0 tb pr : Nat) (lv pmo : Int32) (pst : Option (Nat × (Nat → Option Nat))) (P : List PR9) (Q : va_W) (Im : va_W) (pid : Nat) (hn : n ≤ 1024) (he0 : zE0 B0 e0) (htk : tok Im cO pst P) (hIm : ∀ y ∈ Im, y ∈ Q) (hpid : pid < 8192) : Met l y_Tables_usePlan [Cond.code y_Tables_usePlan b_Tables_usePlan 5 (some .boolean)] ({ frames := 6, cells := kpC n, slots := kpS n, locals := 123 }) (zMo [.ref tb, .ref h, .int (nI pid)] D ([(h, .inr (0, [.ref a, .int (nI n)])), (a, .inl (cB, 1024, .inl f))] ++ (tplr cO e0 tb lv pr P.length pmo pst P ++ Q)) [(cB, .byte), (cO, .object "java/lang/Object")] sz B0) (va_Qi (fun r (u : List PR9 × va_W) => usP f n P pid r u.1 ∧ tok (u.2 ++ Im) cO pst u.1) (fun (u : List PR9 × va_W) t => zW D (va_A ([(h, .inr (0, [.ref a, .int (nI n)])), (a, .inl (cB, 1024, .inl f))] ++ (tplr cO e0 tb lv pr P.length pmo pst P ++ Q)) sz) ([(h, .inr (0, [.ref a, .int (nI n)])), (a, .inl (cB, 1024, .inl f))] ++ (tplr cO e0 tb lv pr P.length pmo pst u.1 ++ (u.2 ++ Q))) [(cB, .byte), (cO, .object "java/lang/Object")] t) (va_A ([(h, .inr (0, [.ref a, .int (nI n)])), (a, .inl (cB, 1024, .inl f))] ++ (tplr cO e0 tb lv pr P.length pmo pst P ++ Q)) sz)) (kpC n) (kpS n) (va_A ([(h, .inr (0, [.ref a, .int (nI n)])), (a, .inl (cB, 1024, .inl f))] ++ (tplr cO e0 tb lv pr P.length pmo pst P ++ Q)) sz) := by
  refine Met.ofW (cc := b_Tables_usePlan) (maxL := 5) (ret := (some .boolean)) (by decide) rfl ?_
  intro p e s m args below meth cd s₁ Bd hml hv
  obtain ⟨rfl, hsz, hP, hK, hN, hD0, hO⟩ := hv
  have hx := Bd.exec
  have hb := Bd.bytes
  have hr := Bd.returns
  have hts := hN.use (a := ([.ref tb, .ref h, .int (nI pid)]).toArray)
  have hown : s.vm.findClass R_Tables = some m.cls := findClass_of_methodNamed Bd.named
  have hlocks := Bd.notSynchronized
  subst hsz
  have hD := hD0.self (sz := s.heap.size)
  have hAO := z_AO hD0 hO
  clear hD0
  have hA : ∀ q : Nat, s.heap.size ≤ q → va_A ([(h, .inr (0, [.ref a, .int (nI n)])), (a, .inl (cB, 1024, .inl f))] ++ (tplr cO e0 tb lv pr P.length pmo pst P ++ Q)) s.heap.size q := fun q h => Or.inr h
  have hS : va_S (va_A ([(h, .inr (0, [.ref a, .int (nI n)])), (a, .inl (cB, 1024, .inl f))] ++ (tplr cO e0 tb lv pr P.length pmo pst P ++ Q)) s.heap.size) s.heap s.heap [] := va_S.rf
  generalize hAe : va_A ([(h, .inr (0, [.ref a, .int (nI n)])), (a, .inl (cB, 1024, .inl f))] ++ (tplr cO e0 tb lv pr P.length pmo pst P ++ Q)) s.heap.size = A at hD hA hS hAO ⊢
  have hP : va_P D classes ([(h, .inr (0, [.ref a, .int (nI n)])), (a, .inl (cB, 1024, .inl f))] ++ (tplr cO e0 tb lv pr P.length pmo pst P ++ Q)) s.heap := hP
  have hl := lv_entry ([.ref tb, .ref h, .int (nI pid)]) (n := 5) (Nat.le_of_ble_eq_true rfl)
  rw [lg_entry_eq]
  generalize (lg_sl ([.ref tb, .ref h, .int (nI pid)]) ++ List.replicate (5 - (lg_sl ([.ref tb, .ref h, .int (nI pid)])).length) Slot.unset).toArray = ls at hl ⊢
  have hl : lv_has ls 5 [(0, .ref tb), (1, .ref h), (2, .int (nI pid))] := hl
  refine lv_aload_n hx hb d_Tables_usePlan_0 rfl (lv_at hl 1 rfl) ?_
  refine lv_iconst (v := 2) hx hb d_Tables_usePlan_1 (by decide) ?_
  have hPc := hP.sub (ws' := [(h, .inr (0, [.ref a, .int (nI n)])), (a, .inl (cB, 1024, .inl f))]) [0, 1] rfl
  have hKc := hK.sub (tys' := [(cB, .byte)]) [0] rfl
  refine z_ci (va_runS (As := [.ref h, .int 2]) (rest := []) ⟨hx, hb, hml, hown, hts⟩ (c_Tables_isTable l D cB h a n 1024 f 2 (by omega)) (z_cS hN wd_559 wd_63 wd_557 hd_Tables_isTable rfl rfl ⟨Nat.le_of_ble_eq_true rfl, Nat.le_of_ble_eq_true rfl⟩ wd_558) (z_preS hPc hKc hN) rfl rfl hl.1 rfl (lv_room (Nat.le_of_ble_eq_true rfl)) d_Tables_usePlan_2 ⟨by show 0 + 0 ≤ kpC n; omega, by show 0 + 0 ≤ kpS n; omega⟩) (fun r2 e2 => ?_)
  refine z_topi (w := if rw_at f n 1024 0 = 2 ∧ rw_bit f n 1024 47 = 1 ∧ rw_bits f n 1024 48 16 = 0 then 1 else 0) e2 ?_
  refine lv_if_ne (tgt := 10) hx hb d_Tables_usePlan_5 rfl (fun h5 => ?_) (fun h5 => ?_)
  · have h5 : itP f n 2 := b_1 h5
    refine lv_aload_n hx hb d_Tables_usePlan_10 rfl (lv_at hl 0 rfl) ?_
    refine lv_aload_n hx hb d_Tables_usePlan_11 rfl (lv_at hl 1 rfl) ?_
    refine lv_bipush (v := 24) hx hb d_Tables_usePlan_12 (by decide) ?_
    refine lv_bipush (v := 16) hx hb d_Tables_usePlan_14 (by decide) ?_
    have hPc := hP.sub (ws' := [(h, .inr (0, [.ref a, .int (nI n)])), (a, .inl (cB, 1024, .inl f))]) [0, 1] rfl
    have hKc := hK.sub (tys' := [(cB, .byte)]) [0] rfl
    refine z_cl (va_runV (As := [.int (nI 24), .int (nI 16)]) (rest := [.ref tb]) ⟨hx, hb, hml, hown, hts⟩ (c_Row_bits l D cB h a n 1024 f 24 16 (by omega) (by omega)) (z_cV hN wd_280 wd_61 wd_564 hd_Row_bits rfl rfl ⟨Nat.le_of_ble_eq_true rfl, Nat.le_of_ble_eq_true rfl⟩ wd_278 wd_279) (z_preV (va_recv (ci := 0) (q0 := 0) hK hP rfl rfl) hPc hKc hN) rfl rfl hl.1 rfl (lv_room (Nat.le_of_ble_eq_true rfl)) d_Tables_usePlan_16 ⟨by show 0 + 0 ≤ kpC n; omega, by show 0 + 0 ≤ kpS n; omega⟩) (fun r16 e16 => ?_)
    refine z_topl (w := rw_bits f n 1024 24 16) e16 ?_
    refine lv_l2i (v := (rw_bits f n 1024 24 16).toInt32) hx hb d_Tables_usePlan_19 rfl ?_
    refine z_topi (w := nI (bN f n 1024 24 16)) (bits_i (by omega)) ?_
    refine lv_iload_n hx hb d_Tables_usePlan_20 rfl (lv_at hl 2 rfl) ?_
    have hT9 := tok_isT (X := [(h, .inr (0, [.ref a, .int (nI n)])), (a, .inl (cB, 1024, .inl f))]) (e0 := e0) (tb := tb) (pr := pr) (lv := lv) (pmo := pmo) (tok_mono htk hIm)
    obtain ⟨q0, hq0⟩ : ∃ q0 : Nat, ([(h, .inr (0, [.ref a, .int (nI n)])), (a, .inl (cB, 1024, .inl f))] ++ (tplr cO e0 tb lv pr P.length pmo pst P ++ Q))[q0]? = some (tb, .inr (8, [.int lv, .ref pr])) := ⟨2, rfl⟩
    have hPc : va_P D classes ([] ++ ([(h, .inr (0, [.ref a, .int (nI n)])), (a, .inl (cB, 1024, .inl f))] ++ (tplr cO e0 tb lv pr P.length pmo pst P ++ Q))) s.heap := hP
    have hKc := hK.sub (tys' := [(cO, .object "java/lang/Object")]) [1] rfl
    refine z_cq (va_runV (As := [.int (nI (bN f n 1024 24 16)), .int (nI pid)]) (rest := []) ⟨hx, hb, hml, hown, hts⟩ (c_Tables_firstWith l D cO ([(h, .inr (0, [.ref a, .int (nI n)])), (a, .inl (cB, 1024, .inl f))] ++ (tplr cO e0 tb lv pr P.length pmo pst P ++ Q)) tb pr lv (pvw P) (nI (bN f n 1024 24 16)) pid hT9 hpid) (z_cV hN wd_568 wd_63 wd_565 hd_Tables_firstWith rfl rfl ⟨Nat.le_of_ble_eq_true rfl, Nat.le_of_ble_eq_true rfl⟩ wd_567 wd_17) (z_preV (va_recv (ci := 8) (q0 := q0) hK hP rfl hq0) hPc hKc hN) rfl rfl hl.1 rfl (lv_room (Nat.le_of_ble_eq_true rfl)) d_Tables_usePlan_21 ⟨by show 0 + 0 ≤ kpC n; omega, by show 0 + 0 ≤ kpS n; omega⟩) (fun r21 e21 => ?_)
    refine z_astoreq_n (lv' := [(3, va_rf r21), (0, .ref tb), (1, .ref h), (2, .int (nI pid))]) hx hb d_Tables_usePlan_24 rfl hl (by decide) rfl (fun ls hl => ?_)
    refine z_aloadq_n hx hb d_Tables_usePlan_25 rfl (lv_at hl 0 rfl) ?_
    cases h26 : r21 with
    | none =>
      rw [h26] at hl
      have hl : lv_has ls 5 [(3, .null), (0, .ref tb), (1, .ref h), (2, .int (nI pid))] := hl
      try rw [h26]
      refine lv_ifnullN (tgt := 40) hx hb d_Tables_usePlan_26 rfl ?_
      refine lv_iconst (v := 0) hx hb d_Tables_usePlan_40 (by decide) ?_
      have hP : va_P D classes ([(h, .inr (0, [.ref a, .int (nI n)])), (a, .inl (cB, 1024, .inl f))] ++ (tplr cO e0 tb lv pr P.length pmo pst P ++ ([] ++ Q))) s.heap := hP
      have hD : va_D A ([(h, .inr (0, [.ref a, .int (nI n)])), (a, .inl (cB, 1024, .inl f))] ++ (tplr cO e0 tb lv pr P.length pmo pst P ++ ([] ++ Q))) := hD
      have hP9 := hP.part (cx := [(h, .inr (0, [.ref a, .int (nI n)])), (a, .inl (cB, 1024, .inl f))]) [0, 1] rfl
      have hD9 := hD.part (cx := [(h, .inr (0, [.ref a, .int (nI n)])), (a, .inl (cB, 1024, .inl f))]) [0, 1] (by decide) rfl
      have hK9 := hK.sub (tys' := [(cB, .byte), (cO, .object "java/lang/Object")]) [0, 1] rfl
      refine W.widen (k := kpC n) (n := kpS n) (by have := kpC_pos n; show 0 ≤ kpC n; omega) (by have := kpC_pos n; show 0 ≤ kpS n; omega) ?_
      exact W.zret (v := 0) hx hb hr rfl (fun t ht hW => ⟨⟨_, (P, []), rfl, ⟨Or.inl ⟨rfl, rfl, by first | exact Or.inr (Or.inr ⟨j, hff, Or.inl (by rw [← hxe]; exact h37)⟩) | exact Or.inr (Or.inl (fun i hi => by rcases e21 with ⟨-, z9⟩ | ⟨_, _, _, _, z9⟩; have z8 := z9 i (by rw [pvw_len]; exact hi); rw [pvw_get hi] at z8; exact z8; rw [h26] at z9; cases z9))⟩, tok_mono htk (fun y hy => List.mem_append_right _ hy)⟩, ⟨by rw [ht]; exact hP9, va_K.moved hW.alike hK9, hD9⟩⟩, hS.F ht⟩) hS.2.2 d_Tables_usePlan_41
    | some x26 =>
      rw [h26] at hl
      have hl : lv_has ls 5 [(3, .ref x26), (0, .ref tb), (1, .ref h), (2, .int (nI pid))] := hl
      try rw [h26]
      refine lv_ifnull (x := x26) hx hb d_Tables_usePlan_26 ?_
      rcases e21 with ⟨e21, -⟩ | ⟨j, hj, hh, hf, he⟩
      · rw [h26] at e21; cases e21
      rw [h26] at he
      rw [pvw_len] at hj
      rw [pvw_get hj] at hh he
      obtain ⟨x, hxe⟩ : ∃ x : PR9, x = P.getD j pr9 := ⟨_, rfl⟩
      rw [← hxe] at hh he
      have hxm := p_mem hj
      rw [← hxe] at hxm
      have hff : fst9 P (nI (bN f n 1024 24 16)) pid j := ⟨hj, by rw [← hxe]; exact hh, fun i hi => by have z9 := hf i hi; rw [pvw_get (by omega)] at z9; exact z9⟩
      obtain rfl : x26 = x.1.1 := Option.some.inj he
      have hpm : (x.1.1, pgE x.1) ∈ ([(h, .inr (0, [.ref a, .int (nI n)])), (a, .inl (cB, 1024, .inl f))] ++ (tplr cO e0 tb lv pr P.length pmo pst P ++ Q)) := tp_memP hxm List.mem_cons_self
      obtain ⟨q1, hq1⟩ := List.getElem?_of_mem hpm
      refine lv_aload_n hx hb d_Tables_usePlan_29 rfl (lv_at hl 0 rfl) ?_
      refine va_getN (D := D) (ci := 7) (v := .int x.1.2.2.2.1) (C := R_Programme) (T := F_Programme) (N := 8) hx hb hts i_Programme hown hK hP q1 hq1 rfl 2 (by decide) (hts _ wd_582) (fun _ h9 => h9) rfl d_Tables_usePlan_30 ?_
      refine lv_aload_n hx hb d_Tables_usePlan_33 rfl (lv_at hl 2 rfl) ?_
      have hPc := hP.sub (ws' := [(h, .inr (0, [.ref a, .int (nI n)])), (a, .inl (cB, 1024, .inl f))]) [0, 1] rfl
      have hKc := hK.sub (tys' := [(cB, .byte)]) [0] rfl
      refine z_ci (va_runS (As := [.ref h]) (rest := [.int x.1.2.2.2.1]) ⟨hx, hb, hml, hown, hts⟩ (c_Tables_versionOf l D cB h a n 1024 f (by omega)) (z_cS hN wd_555 wd_63 wd_553 hd_Tables_versionOf rfl rfl ⟨Nat.le_of_ble_eq_true rfl, Nat.le_of_ble_eq_true rfl⟩ wd_554) (z_preS hPc hKc hN) rfl rfl hl.1 rfl (lv_room (Nat.le_of_ble_eq_true rfl)) d_Tables_usePlan_34 ⟨by show 0 + 0 ≤ kpC n; omega, by show 0 + 0 ≤ kpS n; omega⟩) (fun r34 e34 => ?_)
      refine z_topi (w := ((rw_at f n 1024 5) >>> ((1 : Int32) &&& 31)) &&& 31) e34 ?_
      refine z_topi (w := vrV f n) rfl ?_
      refine lv_icmp_ne (tgt := 42) hx hb d_Tables_usePlan_37 rfl (fun h37 => ?_) (fun h37 => ?_)
      · have h37 : ¬ x.1.2.2.2.1 = vrV f n := h37
        refine lv_aload_n hx hb d_Tables_usePlan_42 rfl (lv_at hl 2 rfl) ?_
        have hPc := hP.part (cx := [(h, .inr (0, [.ref a, .int (nI n)])), (a, .inl (cB, 1024, .inl f))]) [0, 1] rfl
        have hKc := hK.sub (tys' := [(cB, .byte), (cO, .object "java/lang/Object")]) [0, 1] rfl
        have hDc := hD.part (cx := [(h, .inr (0, [.ref a, .int (nI n)])), (a, .inl (cB, 1024, .inl f))]) [0, 1] (by decide) rfl
        have hFc := va_freeP (cx := [(h, .inr (0, [.ref a, .int (nI n)])), (a, .inl (cB, 1024, .inl f))]) hD hS hA [0, 1] rfl
        refine va_callq (va_runS (As := [.ref h]) (rest := []) ⟨hx, hb, hml, hown, hts⟩ (c_Tables_streamsOf l D B0 hG s.heap.size cB h a n f cO e0 (tplr cO e0 tb lv pr P.length pmo pst P ++ Q) hn he0) (z_cS hN wd_627 wd_63 wd_625 hd_Tables_streamsOf rfl rfl ⟨Nat.le_of_ble_eq_true rfl, Nat.le_of_ble_eq_true rfl⟩ wd_626) (z_preSo hPc hKc hN hDc hO hS hAO) rfl rfl hl.1 rfl (lv_room (Nat.le_of_ble_eq_true rfl)) d_Tables_usePlan_43 ⟨by show 0 + (kpC n) ≤ kpC n; omega, by show 0 + (kpS n) ≤ kpS n; omega⟩) hS (fun q _ h => hFc q h) hFc (fun r43 s9 t H locs ht hvm e43 hB hz1 hk1 hS => ?_)
        obtain ⟨hP1, hK1, hD1⟩ := hB
        rw [ht] at hP1
        obtain ⟨hP, hD⟩ := va_joinP (wr := []) (rx := [(h, .inr (0, [.ref a, .int (nI n)])), (a, .inl (cB, 1024, .inl f))]) hP hD [0, 1] [] rfl rfl (by decide) (by decide) hk1 hFc hP1 hD1
        clear hk1 hP1 hD1 hFc hPc hDc hz1
        have hP : va_P D classes ([(h, .inr (0, [.ref a, .int (nI n)])), (a, .inl (cB, 1024, .inl f))] ++ (s9.2 ++ (tplr cO e0 tb lv pr P.length pmo pst P ++ Q))) H := hP
        have hD : va_D A ([(h, .inr (0, [.ref a, .int (nI n)])), (a, .inl (cB, 1024, .inl f))] ++ (s9.2 ++ (tplr cO e0 tb lv pr P.length pmo pst P ++ Q))) := hD
        refine z_astoreq (lv' := [(4, va_rf r43), (3, .ref x.1.1), (0, .ref tb), (1, .ref h), (2, .int (nI pid))]) hx hb d_Tables_usePlan_46 hl (by decide) rfl (fun ls hl => ?_)
        refine z_aloadq hx hb d_Tables_usePlan_48 (lv_at hl 0 rfl) ?_
        cases h50 : r43 with
        | none =>
          rw [h50] at hl
          have hl : lv_has ls 5 [(4, .null), (3, .ref x.1.1), (0, .ref tb), (1, .ref h), (2, .int (nI pid))] := hl
          try rw [h50]
          refine lv_ifnonnullN hx hb d_Tables_usePlan_50 ?_
          refine lv_iconst (v := 0) hx hb d_Tables_usePlan_53 (by decide) ?_
          have hP := z_Pp (pl_sw (X := [(h, .inr (0, [.ref a, .int (nI n)])), (a, .inl (cB, 1024, .inl f))]) (ex := s9.2)) hP
          have hD := z_Dp (pl_sw (X := [(h, .inr (0, [.ref a, .int (nI n)])), (a, .inl (cB, 1024, .inl f))]) (ex := s9.2)) hD
          have hP : va_P D classes ([(h, .inr (0, [.ref a, .int (nI n)])), (a, .inl (cB, 1024, .inl f))] ++ (tplr cO e0 tb lv pr P.length pmo pst P ++ (s9.2 ++ Q))) H := hP
          have hD : va_D A ([(h, .inr (0, [.ref a, .int (nI n)])), (a, .inl (cB, 1024, .inl f))] ++ (tplr cO e0 tb lv pr P.length pmo pst P ++ (s9.2 ++ Q))) := hD
          have hP9 := hP.part (cx := [(h, .inr (0, [.ref a, .int (nI n)])), (a, .inl (cB, 1024, .inl f))]) [0, 1] rfl
          have hD9 := hD.part (cx := [(h, .inr (0, [.ref a, .int (nI n)])), (a, .inl (cB, 1024, .inl f))]) [0, 1] (by decide) rfl
          have hK9 := hK.sub (tys' := [(cB, .byte), (cO, .object "java/lang/Object")]) [0, 1] rfl
          refine W.widen (k := kpC n) (n := kpS n) (by have := kpC_pos n; show 0 + (kpC n) ≤ kpC n; omega) (by have := kpC_pos n; show 0 + (kpS n) ≤ kpS n; omega) ?_
          exact W.zret (v := 0) hx hb hr rfl (fun t ht hW => ⟨⟨_, (P, s9.2), rfl, ⟨Or.inl ⟨rfl, rfl, Or.inr (Or.inr ⟨j, hff, Or.inr (by rcases e43 with ⟨z9, -⟩ | ⟨-, -, _, z9, -⟩; exact z9; rw [h50] at z9; cases z9)⟩)⟩, tok_mono htk (fun y hy => List.mem_append_right _ hy)⟩, ⟨by rw [ht]; exact hP9, va_K.moved hW.alike hK9, hD9⟩⟩, hS.F ht⟩) hS.2.2 d_Tables_usePlan_54
        | some x50 =>
          rw [h50] at hl
          have hl : lv_has ls 5 [(4, .ref x50), (3, .ref x.1.1), (0, .ref tb), (1, .ref h), (2, .int (nI pid))] := hl
          try rw [h50]
          refine lv_ifnonnull (x := x50) (tgt := 55) hx hb d_Tables_usePlan_50 rfl ?_
          rcases e43 with ⟨-, z9⟩ | ⟨hse, hs1, q0, z9, hs2⟩
          · rw [h50] at z9; cases z9
          rw [h50] at z9
          obtain rfl : x50 = q0 := Option.some.inj z9
          rw [hs1] at hs2
          have hsp := p_split hj
          rw [← hxe] at hsp
          obtain ⟨L1, hL1⟩ : ∃ L1, L1 = P.take j := ⟨_, rfl⟩
          obtain ⟨L2, hL2⟩ : ∃ L2, L2 = P.drop (j + 1) := ⟨_, rfl⟩
          rw [← hL1, ← hL2] at hsp
          have hP := z_Pp (pl_sw (X := [(h, .inr (0, [.ref a, .int (nI n)])), (a, .inl (cB, 1024, .inl f))]) (ex := s9.2)) hP
          have hD := z_Dp (pl_sw (X := [(h, .inr (0, [.ref a, .int (nI n)])), (a, .inl (cB, 1024, .inl f))]) (ex := s9.2)) hD
          have hP := z_Pp (tp_foc (X := [(h, .inr (0, [.ref a, .int (nI n)])), (a, .inl (cB, 1024, .inl f))]) (A := L1) (B := L2) (x := x) (n := P.length) (Q := s9.2 ++ Q)) (by rw [← hsp]; exact hP)
          have hD := z_Dp (tp_foc (X := [(h, .inr (0, [.ref a, .int (nI n)])), (a, .inl (cB, 1024, .inl f))]) (A := L1) (B := L2) (x := x) (n := P.length) (Q := s9.2 ++ Q)) (by rw [← hsp]; exact hD)
          obtain ⟨z, S, Wl, mo, wst⟩ := x
          have hP : va_P D classes ([(h, .inr (0, [.ref a, .int (nI n)])), (a, .inl (cB, 1024, .inl f)), (z.1, .inr (7, [.int z.2.1, .int (nI z.2.2.1), .int z.2.2.2.1, .int z.2.2.2.2.1, .ref z.2.2.2.2.2.1, .int z.2.2.2.2.2.2.1, .long z.2.2.2.2.2.2.2.1, .ref z.2.2.2.2.2.2.2.2]))] ++ (wlc cO e0 z.2.2.2.2.2.2.2.2 Wl.length mo wst ++ (tplr cO e0 tb lv pr P.length pmo pst (L1 ++ L2) ++ (s9.2 ++ Q)))) H := hP
          have hD : va_D A ([(h, .inr (0, [.ref a, .int (nI n)])), (a, .inl (cB, 1024, .inl f)), (z.1, .inr (7, [.int z.2.1, .int (nI z.2.2.1), .int z.2.2.2.1, .int z.2.2.2.2.1, .ref z.2.2.2.2.2.1, .int z.2.2.2.2.2.2.1, .long z.2.2.2.2.2.2.2.1, .ref z.2.2.2.2.2.2.2.2]))] ++ (wlc cO e0 z.2.2.2.2.2.2.2.2 Wl.length mo wst ++ (tplr cO e0 tb lv pr P.length pmo pst (L1 ++ L2) ++ (s9.2 ++ Q)))) := hD
          have hl : lv_has ls 5 [(4, .ref x50), (3, .ref z.1), (0, .ref tb), (1, .ref h), (2, .int (nI pid))] := hl
          refine lv_aload_n hx hb d_Tables_usePlan_55 rfl (lv_at hl 1 rfl) ?_
          refine lv_aload_n hx hb d_Tables_usePlan_56 rfl (lv_at hl 3 rfl) ?_
          have hPc := hP.sub (ws' := [(h, .inr (0, [.ref a, .int (nI n)])), (a, .inl (cB, 1024, .inl f))]) [0, 1] rfl
          have hKc := hK.sub (tys' := [(cB, .byte)]) [0] rfl
          refine z_ci (va_runS (As := [.ref h]) (rest := [.ref z.1]) ⟨hx, hb, hml, hown, hts⟩ (c_Tables_versionOf l D cB h a n 1024 f (by omega)) (z_cS hN wd_555 wd_63 wd_553 hd_Tables_versionOf rfl rfl ⟨Nat.le_of_ble_eq_true rfl, Nat.le_of_ble_eq_true rfl⟩ wd_554) (z_preS hPc hKc hN) rfl rfl hl.1 rfl (lv_room (Nat.le_of_ble_eq_true rfl)) d_Tables_usePlan_57 ⟨by show 0 + (kpC n) + 0 ≤ kpC n; omega, by show 0 + (kpS n) + 0 ≤ kpS n; omega⟩) (fun r57 e57 => ?_)
          refine z_topi (w := ((rw_at f n 1024 5) >>> ((1 : Int32) &&& 31)) &&& 31) e57 ?_
          refine z_topi (w := vrV f n) rfl ?_
          refine va_putN (D := D) (ci := 7) (v := .int (vrV f n)) (ty := .int) (C := R_Programme) (T := F_Programme) (N := 8) hx hb hts i_Programme t_Programme t_Programme_ok n_Programme hown hK hP hD hS 2 rfl rfl 2 (by decide) (hts _ wd_582) (fun _ h9 => h9) rfl (by decide +kernel) rfl rfl (Nat.le_of_ble_eq_true rfl) d_Tables_usePlan_60 (fun H locs hP hD hS => ?_)
          have hP : va_P D classes ([(h, .inr (0, [.ref a, .int (nI n)])), (a, .inl (cB, 1024, .inl f)), (z.1, .inr (7, [.int z.2.1, .int (nI z.2.2.1), .int (vrV f n), .int z.2.2.2.2.1, .ref z.2.2.2.2.2.1, .int z.2.2.2.2.2.2.1, .long z.2.2.2.2.2.2.2.1, .ref z.2.2.2.2.2.2.2.2]))] ++ (wlc cO e0 z.2.2.2.2.2.2.2.2 Wl.length mo wst ++ (tplr cO e0 tb lv pr P.length pmo pst (L1 ++ L2) ++ (s9.2 ++ Q)))) H := hP
          have hD : va_D A ([(h, .inr (0, [.ref a, .int (nI n)])), (a, .inl (cB, 1024, .inl f)), (z.1, .inr (7, [.int z.2.1, .int (nI z.2.2.1), .int (vrV f n), .int z.2.2.2.2.1, .ref z.2.2.2.2.2.1, .int z.2.2.2.2.2.2.1, .long z.2.2.2.2.2.2.2.1, .ref z.2.2.2.2.2.2.2.2]))] ++ (wlc cO e0 z.2.2.2.2.2.2.2.2 Wl.length mo wst ++ (tplr cO e0 tb lv pr P.length pmo pst (L1 ++ L2) ++ (s9.2 ++ Q)))) := hD
          refine lv_aload_n hx hb d_Tables_usePlan_63 rfl (lv_at hl 1 rfl) ?_
          refine lv_aload_n hx hb d_Tables_usePlan_64 rfl (lv_at hl 3 rfl) ?_
          refine lv_bipush (v := 67) hx hb d_Tables_usePlan_65 (by decide) ?_
          refine lv_bipush (v := 13) hx hb d_Tables_usePlan_67 (by decide) ?_
          have hPc := hP.sub (ws' := [(h, .inr (0, [.ref a, .int (nI n)])), (a, .inl (cB, 1024, .inl f))]) [0, 1] rfl
          have hKc := hK.sub (tys' := [(cB, .byte)]) [0] rfl
          refine z_cl (va_runV (As := [.int (nI 67), .int (nI 13)]) (rest := [.ref z.1]) ⟨hx, hb, hml, hown, hts⟩ (c_Row_bits l D cB h a n 1024 f 67 13 (by omega) (by omega)) (z_cV hN wd_280 wd_61 wd_564 hd_Row_bits rfl rfl ⟨Nat.le_of_ble_eq_true rfl, Nat.le_of_ble_eq_true rfl⟩ wd_278 wd_279) (z_preV (va_recv (ci := 0) (q0 := 0) hK hP rfl rfl) hPc hKc hN) rfl rfl hl.1 rfl (lv_room (Nat.le_of_ble_eq_true rfl)) d_Tables_usePlan_69 ⟨by show 0 + (kpC n) + 0 ≤ kpC n; omega, by show 0 + (kpS n) + 0 ≤ kpS n; omega⟩) (fun r69 e69 => ?_)
          refine z_topl (w := rw_bits f n 1024 67 13) e69 ?_
          refine lv_l2i (v := (rw_bits f n 1024 67 13).toInt32) hx hb d_Tables_usePlan_72 rfl ?_
          refine z_topi (w := nI (bN f n 1024 67 13)) (bits_i (by omega)) ?_
          refine va_putN (D := D) (ci := 7) (v := .int (nI (bN f n 1024 67 13))) (ty := .int) (C := R_Programme) (T := F_Programme) (N := 8) hx hb hts i_Programme t_Programme t_Programme_ok n_Programme hown hK hP hD hS 2 rfl rfl 3 (by decide) (hts _ wd_585) (fun _ h9 => h9) rfl (by decide +kernel) rfl rfl (Nat.le_of_ble_eq_true rfl) d_Tables_usePlan_73 (fun H locs hP hD hS => ?_)
          have hP : va_P D classes ([(h, .inr (0, [.ref a, .int (nI n)])), (a, .inl (cB, 1024, .inl f)), (z.1, .inr (7, [.int z.2.1, .int (nI z.2.2.1), .int (vrV f n), .int (nI (bN f n 1024 67 13)), .ref z.2.2.2.2.2.1, .int z.2.2.2.2.2.2.1, .long z.2.2.2.2.2.2.2.1, .ref z.2.2.2.2.2.2.2.2]))] ++ (wlc cO e0 z.2.2.2.2.2.2.2.2 Wl.length mo wst ++ (tplr cO e0 tb lv pr P.length pmo pst (L1 ++ L2) ++ (s9.2 ++ Q)))) H := hP
          have hD : va_D A ([(h, .inr (0, [.ref a, .int (nI n)])), (a, .inl (cB, 1024, .inl f)), (z.1, .inr (7, [.int z.2.1, .int (nI z.2.2.1), .int (vrV f n), .int (nI (bN f n 1024 67 13)), .ref z.2.2.2.2.2.1, .int z.2.2.2.2.2.2.1, .long z.2.2.2.2.2.2.2.1, .ref z.2.2.2.2.2.2.2.2]))] ++ (wlc cO e0 z.2.2.2.2.2.2.2.2 Wl.length mo wst ++ (tplr cO e0 tb lv pr P.length pmo pst (L1 ++ L2) ++ (s9.2 ++ Q)))) := hD
          refine lv_aload_n hx hb d_Tables_usePlan_76 rfl (lv_at hl 1 rfl) ?_
          refine lv_aload hx hb d_Tables_usePlan_77 (lv_at hl 0 rfl) ?_
          refine va_putN (D := D) (ci := 7) (v := .ref x50) (ty := (.object "java/util/ArrayList")) (C := R_Programme) (T := F_Programme) (N := 8) hx hb hts i_Programme t_Programme t_Programme_ok n_Programme hown hK hP hD hS 2 rfl rfl 4 (by decide) (hts _ wd_588) (fun _ h9 => h9) rfl (by decide +kernel) rfl rfl (Nat.le_of_ble_eq_true rfl) d_Tables_usePlan_79 (fun H locs hP hD hS => ?_)
          have hP : va_P D classes ([(h, .inr (0, [.ref a, .int (nI n)])), (a, .inl (cB, 1024, .inl f)), (z.1, .inr (7, [.int z.2.1, .int (nI z.2.2.1), .int (vrV f n), .int (nI (bN f n 1024 67 13)), .ref x50, .int z.2.2.2.2.2.2.1, .long z.2.2.2.2.2.2.2.1, .ref z.2.2.2.2.2.2.2.2]))] ++ (wlc cO e0 z.2.2.2.2.2.2.2.2 Wl.length mo wst ++ (tplr cO e0 tb lv pr P.length pmo pst (L1 ++ L2) ++ (s9.2 ++ Q)))) H := hP
          have hD : va_D A ([(h, .inr (0, [.ref a, .int (nI n)])), (a, .inl (cB, 1024, .inl f)), (z.1, .inr (7, [.int z.2.1, .int (nI z.2.2.1), .int (vrV f n), .int (nI (bN f n 1024 67 13)), .ref x50, .int z.2.2.2.2.2.2.1, .long z.2.2.2.2.2.2.2.1, .ref z.2.2.2.2.2.2.2.2]))] ++ (wlc cO e0 z.2.2.2.2.2.2.2.2 Wl.length mo wst ++ (tplr cO e0 tb lv pr P.length pmo pst (L1 ++ L2) ++ (s9.2 ++ Q)))) := hD
          refine lv_iconst (v := 1) hx hb d_Tables_usePlan_82 (by decide) ?_
          have hP := z_Pp (tp_foc (X := [(h, .inr (0, [.ref a, .int (nI n)])), (a, .inl (cB, 1024, .inl f))]) (A := L1) (B := L2) (x := (pzL z (vrV f n) (nI (bN f n 1024 67 13)) x50, (soR f n).1, Wl, mo, wst))).symm (show va_P D classes ([(h, .inr (0, [.ref a, .int (nI n)])), (a, .inl (cB, 1024, .inl f))] ++ (pgc cO e0 (pzL z (vrV f n) (nI (bN f n 1024 67 13)) x50, (soR f n).1, Wl, mo, wst) ++ (tplr cO e0 tb lv pr P.length pmo pst (L1 ++ L2) ++ (s9.2 ++ Q)))) H from hP)
          have hD := z_Dp (tp_foc (X := [(h, .inr (0, [.ref a, .int (nI n)])), (a, .inl (cB, 1024, .inl f))]) (A := L1) (B := L2) (x := (pzL z (vrV f n) (nI (bN f n 1024 67 13)) x50, (soR f n).1, Wl, mo, wst))).symm (show va_D A ([(h, .inr (0, [.ref a, .int (nI n)])), (a, .inl (cB, 1024, .inl f))] ++ (pgc cO e0 (pzL z (vrV f n) (nI (bN f n 1024 67 13)) x50, (soR f n).1, Wl, mo, wst) ++ (tplr cO e0 tb lv pr P.length pmo pst (L1 ++ L2) ++ (s9.2 ++ Q)))) from hD)
          have hP : va_P D classes ([(h, .inr (0, [.ref a, .int (nI n)])), (a, .inl (cB, 1024, .inl f))] ++ (tplr cO e0 tb lv pr P.length pmo pst (L1 ++ (pzL z (vrV f n) (nI (bN f n 1024 67 13)) x50, (soR f n).1, Wl, mo, wst) :: L2) ++ (s9.2 ++ Q))) H := hP
          have hD : va_D A ([(h, .inr (0, [.ref a, .int (nI n)])), (a, .inl (cB, 1024, .inl f))] ++ (tplr cO e0 tb lv pr P.length pmo pst (L1 ++ (pzL z (vrV f n) (nI (bN f n 1024 67 13)) x50, (soR f n).1, Wl, mo, wst) :: L2) ++ (s9.2 ++ Q))) := hD
          have hset : P.set j (pzL z (vrV f n) (nI (bN f n 1024 67 13)) x50, (soR f n).1, Wl, mo, wst) = (L1 ++ (pzL z (vrV f n) (nI (bN f n 1024 67 13)) x50, (soR f n).1, Wl, mo, wst) :: L2) := by rw [hsp, hL1, hL2]; exact p_set hj
          have hP9 := hP.part (cx := [(h, .inr (0, [.ref a, .int (nI n)])), (a, .inl (cB, 1024, .inl f))]) [0, 1] rfl
          have hD9 := hD.part (cx := [(h, .inr (0, [.ref a, .int (nI n)])), (a, .inl (cB, 1024, .inl f))]) [0, 1] (by decide) rfl
          have hK9 := hK.sub (tys' := [(cB, .byte), (cO, .object "java/lang/Object")]) [0, 1] rfl
          refine W.widen (k := kpC n) (n := kpS n) (by show 0 + (kpC n) ≤ kpC n; omega) (by show 0 + (kpS n) ≤ kpS n; omega) ?_
          exact W.zret (v := 1) hx hb hr rfl (fun t ht hW => ⟨⟨_, ((L1 ++ (pzL z (vrV f n) (nI (bN f n 1024 67 13)) x50, (soR f n).1, Wl, mo, wst) :: L2), s9.2), rfl, pl_post htk hff hxe h5 h37 hse hs2 hset, ⟨by rw [ht]; exact hP9, va_K.moved hW.alike hK9, hD9⟩⟩, hS.F ht⟩) hS.2.2 d_Tables_usePlan_83
      · have h37 : x.1.2.2.2.1 = vrV f n := by first | exact h37 | exact Classical.not_not.mp h37
        refine lv_iconst (v := 0) hx hb d_Tables_usePlan_40 (by decide) ?_
        have hP : va_P D classes ([(h, .inr (0, [.ref a, .int (nI n)])), (a, .inl (cB, 1024, .inl f))] ++ (tplr cO e0 tb lv pr P.length pmo pst P ++ ([] ++ Q))) s.heap := hP
        have hD : va_D A ([(h, .inr (0, [.ref a, .int (nI n)])), (a, .inl (cB, 1024, .inl f))] ++ (tplr cO e0 tb lv pr P.length pmo pst P ++ ([] ++ Q))) := hD
        have hP9 := hP.part (cx := [(h, .inr (0, [.ref a, .int (nI n)])), (a, .inl (cB, 1024, .inl f))]) [0, 1] rfl
        have hD9 := hD.part (cx := [(h, .inr (0, [.ref a, .int (nI n)])), (a, .inl (cB, 1024, .inl f))]) [0, 1] (by decide) rfl
        have hK9 := hK.sub (tys' := [(cB, .byte), (cO, .object "java/lang/Object")]) [0, 1] rfl
        refine W.widen (k := kpC n) (n := kpS n) (by have := kpC_pos n; show 0 ≤ kpC n; omega) (by have := kpC_pos n; show 0 ≤ kpS n; omega) ?_
        exact W.zret (v := 0) hx hb hr rfl (fun t ht hW => ⟨⟨_, (P, []), rfl, ⟨Or.inl ⟨rfl, rfl, by first | exact Or.inr (Or.inr ⟨j, hff, Or.inl (by rw [← hxe]; exact h37)⟩) | exact Or.inr (Or.inl (fun i hi => by rcases e21 with ⟨-, z9⟩ | ⟨_, _, _, _, z9⟩; have z8 := z9 i (by rw [pvw_len]; exact hi); rw [pvw_get hi] at z8; exact z8; rw [h26] at z9; cases z9))⟩, tok_mono htk (fun y hy => List.mem_append_right _ hy)⟩, ⟨by rw [ht]; exact hP9, va_K.moved hW.alike hK9, hD9⟩⟩, hS.F ht⟩) hS.2.2 d_Tables_usePlan_41
  · have h5 : ¬ itP f n 2 := b_0 (by first | exact h5 | exact Classical.not_not.mp h5)
    refine lv_iconst (v := 0) hx hb d_Tables_usePlan_8 (by decide) ?_
    have hP : va_P D classes ([(h, .inr (0, [.ref a, .int (nI n)])), (a, .inl (cB, 1024, .inl f))] ++ (tplr cO e0 tb lv pr P.length pmo pst P ++ ([] ++ Q))) s.heap := hP
    have hD : va_D A ([(h, .inr (0, [.ref a, .int (nI n)])), (a, .inl (cB, 1024, .inl f))] ++ (tplr cO e0 tb lv pr P.length pmo pst P ++ ([] ++ Q))) := hD
    have hP9 := hP.part (cx := [(h, .inr (0, [.ref a, .int (nI n)])), (a, .inl (cB, 1024, .inl f))]) [0, 1] rfl
    have hD9 := hD.part (cx := [(h, .inr (0, [.ref a, .int (nI n)])), (a, .inl (cB, 1024, .inl f))]) [0, 1] (by decide) rfl
    have hK9 := hK.sub (tys' := [(cB, .byte), (cO, .object "java/lang/Object")]) [0, 1] rfl
    refine W.widen (k := kpC n) (n := kpS n) (by have := kpC_pos n; show 0 ≤ kpC n; omega) (by have := kpC_pos n; show 0 ≤ kpS n; omega) ?_
    exact W.zret (v := 0) hx hb hr rfl (fun t ht hW => ⟨⟨_, (P, []), rfl, ⟨Or.inl ⟨rfl, rfl, Or.inl h5⟩, tok_mono htk (fun y hy => List.mem_append_right _ hy)⟩, ⟨by rw [ht]; exact hP9, va_K.moved hW.alike hK9, hD9⟩⟩, hS.F ht⟩) hS.2.2 d_Tables_usePlan_9
