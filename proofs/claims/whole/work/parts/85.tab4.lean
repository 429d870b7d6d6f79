theorem wd_408 : (Jvm.Cond.methodLink "StreamSplitter$Tables" (136 : Nat) ({ cls := "StreamSplitter$Programme", name := "obeyDue", desc := "()V" } : Jvm.MethodName)) ∈ lw_ok := List.mem_filter.mpr ⟨List.mem_of_getElem? (i := 408) (by decide +kernel), rfl⟩
theorem wd_409 : (Jvm.Cond.instanceMethod ({ cls := "StreamSplitter$Programme", name := "obeyDue", desc := "()V" } : Jvm.MethodName)) ∈ lw_ok := List.mem_filter.mpr ⟨List.mem_of_getElem? (i := 409) (by decide +kernel), rfl⟩
theorem wd_410 : (Jvm.Cond.selects "StreamSplitter$Programme" ({ cls := "StreamSplitter$Programme", name := "obeyDue", desc := "()V" } : Jvm.MethodName) ({ cls := "StreamSplitter$Programme", name := "obeyDue", desc := "()V" } : Jvm.MethodName)) ∈ lw_ok := List.mem_filter.mpr ⟨List.mem_of_getElem? (i := 410) (by decide +kernel), rfl⟩
set_option maxRecDepth 100000 in
theorem wd_411 : (Jvm.Cond.code ({ cls := "StreamSplitter$Programme", name := "obeyDue", desc := "()V" } : Jvm.MethodName) prog_7_method_7_code (3 : Nat) (Option.none : Option Jvm.ClassFile.FieldType)) ∈ lw_ok := List.mem_filter.mpr ⟨List.mem_of_getElem? (i := 411) (by rfl), rfl⟩
theorem wd_594 : (Jvm.Cond.fieldLinkNest "StreamSplitter$Tables" (129 : Nat) "StreamSplitter$Programme" "now" "J" "StreamSplitter") ∈ lw_ok := List.mem_filter.mpr ⟨List.mem_of_getElem? (i := 594) (by decide +kernel), rfl⟩
theorem hd_Programme_obeyDue : y_Programme_obeyDue.cls ≠ "java/lang/invoke/MethodHandle" ∧ y_Programme_obeyDue.cls ≠ "java/lang/invoke/VarHandle" ∧ (parseMethodDescriptor y_Programme_obeyDue.desc).map (fun d => d.parameters.length) = some 0 := by decide +kernel
theorem d_Tables_moveNow_0 : decode b_Tables_moveNow 0 = .ok (.aload_n 0, 1) := by decide +kernel
theorem d_Tables_moveNow_1 : decode b_Tables_moveNow 1 = .ok (.iload_n 1, 1) := by decide +kernel
theorem d_Tables_moveNow_2 : decode b_Tables_moveNow 2 = .ok (.invokevirtual 42, 3) := by decide +kernel
theorem d_Tables_moveNow_5 : decode b_Tables_moveNow 5 = .ok (.astore 4, 2) := by decide +kernel
theorem d_Tables_moveNow_7 : decode b_Tables_moveNow 7 = .ok (.aload 4, 2) := by decide +kernel
theorem d_Tables_moveNow_9 : decode b_Tables_moveNow 9 = .ok (.ifnull 14, 3) := by decide +kernel
theorem d_Tables_moveNow_12 : decode b_Tables_moveNow 12 = .ok (.aload 4, 2) := by decide +kernel
theorem d_Tables_moveNow_14 : decode b_Tables_moveNow 14 = .ok (.lload_n 2, 1) := by decide +kernel
theorem d_Tables_moveNow_15 : decode b_Tables_moveNow 15 = .ok (.putfield 129, 3) := by decide +kernel
theorem d_Tables_moveNow_18 : decode b_Tables_moveNow 18 = .ok (.aload 4, 2) := by decide +kernel
theorem d_Tables_moveNow_20 : decode b_Tables_moveNow 20 = .ok (.invokevirtual 136, 3) := by decide +kernel
theorem d_Tables_moveNow_23 : decode b_Tables_moveNow 23 = .ok (.return_, 1) := by decide +kernel
set_option maxHeartbeats 4000000 in
set_option maxRecDepth 100000 in
theorem c_Tables_moveNow (l : Launch) (D : va_G) (B0 : State) (hG : zG B0) (sz : Nat) (cO : ClassId) (e0 tb pr : Nat) (lv pmo : Int32) (pst : Option (Nat × (Nat → Option Nat))) (P : List PR9) (Q : va_W) (pid : Nat) (t : Int64) (he0 : zE0 B0 e0) (htk : tok Q cO pst P) (hpid : pid < 8192) : Met l y_Tables_moveNow [Cond.code y_Tables_moveNow b_Tables_moveNow 5 none] ({ frames := 7, cells := 24, slots := 168, locals := 146 }) (zMo [.ref tb, .int (nI pid), .long t] D ([] ++ (tplr cO e0 tb lv pr P.length pmo pst P ++ Q)) [(cO, .object "java/lang/Object")] sz B0) (va_Qv (fun (u : List PR9 × va_W) => mnP P pid t u.1 u.2 ∧ tok (u.2 ++ Q) cO pst u.1) (fun (u : List PR9 × va_W) t => zW D (va_A ([] ++ (tplr cO e0 tb lv pr P.length pmo pst P ++ Q)) sz) ([] ++ (tplr cO e0 tb lv pr P.length pmo pst u.1 ++ (u.2 ++ Q))) [(cO, .object "java/lang/Object")] t) (va_A ([] ++ (tplr cO e0 tb lv pr P.length pmo pst P ++ Q)) sz)) 24 168 (va_A ([] ++ (tplr cO e0 tb lv pr P.length pmo pst P ++ Q)) sz) := by
  refine Met.ofW (cc := b_Tables_moveNow) (maxL := 5) (ret := none) (by decide) rfl ?_
  intro p e s m args below meth cd s₁ Bd hml hv
  obtain ⟨rfl, hsz, hP, hK, hN, hD0, hO⟩ := hv
  have hx := Bd.exec
  have hb := Bd.bytes
  have hr := Bd.returns
  have hts := hN.use (a := ([.ref tb, .int (nI pid), .long t]).toArray)
  have hown : s.vm.findClass R_Tables = some m.cls := findClass_of_methodNamed Bd.named
  have hlocks := Bd.notSynchronized
  subst hsz
  have hD := hD0.self (sz := s.heap.size)
  have hAO := z_AO hD0 hO
  clear hD0
  have hA : ∀ q : Nat, s.heap.size ≤ q → va_A ([] ++ (tplr cO e0 tb lv pr P.length pmo pst P ++ Q)) s.heap.size q := fun q h => Or.inr h
  have hS : va_S (va_A ([] ++ (tplr cO e0 tb lv pr P.length pmo pst P ++ Q)) s.heap.size) s.heap s.heap [] := va_S.rf
  generalize hAe : va_A ([] ++ (tplr cO e0 tb lv pr P.length pmo pst P ++ Q)) s.heap.size = A at hD hA hS hAO ⊢
  have hP : va_P D classes ([] ++ (tplr cO e0 tb lv pr P.length pmo pst P ++ Q)) s.heap := hP
  have hl := lv_entry ([.ref tb, .int (nI pid), .long t]) (n := 5) (Nat.le_of_ble_eq_true rfl)
  rw [lg_entry_eq]
  generalize (lg_sl ([.ref tb, .int (nI pid), .long t]) ++ List.replicate (5 - (lg_sl ([.ref tb, .int (nI pid), .long t])).length) Slot.unset).toArray = ls at hl ⊢
  have hl : lv_has ls 5 [(0, .ref tb), (1, .int (nI pid)), (2, .long t)] := hl
  refine lv_aload_n hx hb d_Tables_moveNow_0 rfl (lv_at hl 0 rfl) ?_
  refine lv_iload_n hx hb d_Tables_moveNow_1 rfl (lv_at hl 1 rfl) ?_
  have hT9 := tok_isT (X := []) (e0 := e0) (tb := tb) (pr := pr) (lv := lv) (pmo := pmo) htk
  obtain ⟨q0, hq0⟩ : ∃ q0 : Nat, ([] ++ (tplr cO e0 tb lv pr P.length pmo pst P ++ Q))[q0]? = some (tb, .inr (8, [.int lv, .ref pr])) := ⟨0, rfl⟩
  have hPc : va_P D classes ([] ++ ([] ++ (tplr cO e0 tb lv pr P.length pmo pst P ++ Q))) s.heap := hP
  have hKc := hK.sub (tys' := [(cO, .object "java/lang/Object")]) [0] rfl
  refine z_cq (va_runV (As := [.int (nI pid)]) (rest := []) ⟨hx, hb, hml, hown, hts⟩ (c_Tables_ownerOf l D cO ([] ++ (tplr cO e0 tb lv pr P.length pmo pst P ++ Q)) tb pr lv (pvw P) pid hT9 hpid) (z_cV hN wd_324 wd_63 wd_321 hd_Tables_ownerOf rfl rfl ⟨Nat.le_of_ble_eq_true rfl, Nat.le_of_ble_eq_true rfl⟩ wd_323 wd_3) (z_preV (va_recv (ci := 8) (q0 := q0) hK hP rfl hq0) hPc hKc hN) rfl rfl hl.1 rfl (lv_room (Nat.le_of_ble_eq_true rfl)) d_Tables_moveNow_2 ⟨Nat.le_of_ble_eq_true rfl, Nat.le_of_ble_eq_true rfl⟩) (fun r2 e2 => ?_)
  refine z_astoreq (lv' := [(4, va_rf r2), (0, .ref tb), (1, .int (nI pid)), (2, .long t)]) hx hb d_Tables_moveNow_5 hl (by decide) rfl (fun ls hl => ?_)
  refine z_aloadq hx hb d_Tables_moveNow_7 (lv_at hl 0 rfl) ?_
  cases h9 : r2 with
  | none =>
    rw [h9] at hl
    have hl : lv_has ls 5 [(4, .null), (0, .ref tb), (1, .int (nI pid)), (2, .long t)] := hl
    try rw [h9]
    refine lv_ifnullN (tgt := 23) hx hb d_Tables_moveNow_9 rfl ?_
    have hP9 := hP.part (cx := []) [] rfl
    have hD9 := hD.part (cx := []) [] (by decide) rfl
    have hK9 := hK.sub (tys' := [(cO, .object "java/lang/Object")]) [0] rfl
    refine W.widen (k := 24) (n := 168) (by omega) (by omega) ?_
    exact W.vret hx hb hr (fun t ht hW => ⟨⟨(P, []), rfl, ⟨Or.inl ⟨fun i hi => by have z := ow_none (h9 ▸ e2) i (by rw [pvw_len]; exact hi); rw [pvw_get hi] at z; exact z, rfl, rfl⟩, htk⟩, ⟨by rw [ht]; exact hP9, va_K.moved hW.alike hK9, hD9⟩⟩, hS.F ht⟩) hS.2.2 d_Tables_moveNow_23
  | some x9 =>
    rw [h9] at hl
    have hl : lv_has ls 5 [(4, .ref x9), (0, .ref tb), (1, .int (nI pid)), (2, .long t)] := hl
    try rw [h9]
    refine lv_ifnull (x := x9) hx hb d_Tables_moveNow_9 ?_
    rcases e2 with ⟨e2, -⟩ | ⟨j, hj, hh, hf, he⟩
    · rw [h9] at e2; cases e2
    rw [h9] at he
    rw [pvw_len] at hj
    rw [pvw_get hj] at hh he
    obtain ⟨x, hxe⟩ : ∃ x : PR9, x = P.getD j pr9 := ⟨_, rfl⟩
    rw [← hxe] at hh he
    have hpk := htk.2.2 _ (p_mem hj)
    rw [← hxe] at hpk
    have hsp := p_split hj
    rw [← hxe] at hsp
    obtain ⟨L1, hL1⟩ : ∃ L1, L1 = P.take j := ⟨_, rfl⟩
    obtain ⟨L2, hL2⟩ : ∃ L2, L2 = P.drop (j + 1) := ⟨_, rfl⟩
    rw [← hL1, ← hL2] at hsp
    have hP := z_Pp (tp_foc (X := []) (A := L1) (B := L2) (x := x)) (by rw [← hsp]; exact hP)
    have hD := z_Dp (tp_foc (X := []) (A := L1) (B := L2) (x := x)) (by rw [← hsp]; exact hD)
    obtain ⟨z, S, Wl, mo, wst⟩ := x
    obtain rfl : x9 = z.1 := Option.some.inj he
    have hP : va_P D classes ([(z.1, .inr (7, [.int z.2.1, .int (nI z.2.2.1), .int z.2.2.2.1, .int z.2.2.2.2.1, .ref z.2.2.2.2.2.1, .int z.2.2.2.2.2.2.1, .long z.2.2.2.2.2.2.2.1, .ref z.2.2.2.2.2.2.2.2]))] ++ (wlc cO e0 z.2.2.2.2.2.2.2.2 Wl.length mo wst ++ (tplr cO e0 tb lv pr P.length pmo pst (L1 ++ L2) ++ Q))) s.heap := hP
    have hD : va_D A ([(z.1, .inr (7, [.int z.2.1, .int (nI z.2.2.1), .int z.2.2.2.1, .int z.2.2.2.2.1, .ref z.2.2.2.2.2.1, .int z.2.2.2.2.2.2.1, .long z.2.2.2.2.2.2.2.1, .ref z.2.2.2.2.2.2.2.2]))] ++ (wlc cO e0 z.2.2.2.2.2.2.2.2 Wl.length mo wst ++ (tplr cO e0 tb lv pr P.length pmo pst (L1 ++ L2) ++ Q))) := hD
    refine lv_aload hx hb d_Tables_moveNow_12 (lv_at hl 0 rfl) ?_
    refine lv_lload_n hx hb d_Tables_moveNow_14 rfl (lv_at hl 3 rfl) ?_
    refine va_putN (D := D) (ci := 7) (v := .long t) (ty := .long) (C := R_Programme) (T := F_Programme) (N := 8) hx hb hts i_Programme t_Programme t_Programme_ok n_Programme hown hK hP hD hS 0 rfl rfl 6 (by decide) (hts _ wd_594) (fun _ h9 => h9) rfl (by decide +kernel) rfl rfl (Nat.le_of_ble_eq_true rfl) d_Tables_moveNow_15 (fun H locs hP hD hS => ?_)
    have hP : va_P D classes ([(z.1, .inr (7, [.int z.2.1, .int (nI z.2.2.1), .int z.2.2.2.1, .int z.2.2.2.2.1, .ref z.2.2.2.2.2.1, .int z.2.2.2.2.2.2.1, .long t, .ref z.2.2.2.2.2.2.2.2]))] ++ (wlc cO e0 z.2.2.2.2.2.2.2.2 Wl.length mo wst ++ (tplr cO e0 tb lv pr P.length pmo pst (L1 ++ L2) ++ Q))) H := hP
    have hD : va_D A ([(z.1, .inr (7, [.int z.2.1, .int (nI z.2.2.1), .int z.2.2.2.1, .int z.2.2.2.2.1, .ref z.2.2.2.2.2.1, .int z.2.2.2.2.2.2.1, .long t, .ref z.2.2.2.2.2.2.2.2]))] ++ (wlc cO e0 z.2.2.2.2.2.2.2.2 Wl.length mo wst ++ (tplr cO e0 tb lv pr P.length pmo pst (L1 ++ L2) ++ Q))) := hD
    refine lv_aload hx hb d_Tables_moveNow_18 (lv_at hl 0 rfl) ?_
    obtain ⟨zn, hzn⟩ : ∃ zn : PZ, zn = pzN z t := ⟨_, rfl⟩
    have hP : va_P D classes ([(zn.1, .inr (7, [.int zn.2.1, .int (nI zn.2.2.1), .int zn.2.2.2.1, .int zn.2.2.2.2.1, .ref zn.2.2.2.2.2.1, .int zn.2.2.2.2.2.2.1, .long zn.2.2.2.2.2.2.2.1, .ref zn.2.2.2.2.2.2.2.2]))] ++ (wlc cO e0 zn.2.2.2.2.2.2.2.2 Wl.length mo wst ++ (tplr cO e0 tb lv pr P.length pmo pst (L1 ++ L2) ++ Q))) H := by rw [hzn]; exact hP
    have hD : va_D A ([(zn.1, .inr (7, [.int zn.2.1, .int (nI zn.2.2.1), .int zn.2.2.2.1, .int zn.2.2.2.2.1, .ref zn.2.2.2.2.2.1, .int zn.2.2.2.2.2.2.1, .long zn.2.2.2.2.2.2.2.1, .ref zn.2.2.2.2.2.2.2.2]))] ++ (wlc cO e0 zn.2.2.2.2.2.2.2.2 Wl.length mo wst ++ (tplr cO e0 tb lv pr P.length pmo pst (L1 ++ L2) ++ Q))) := by rw [hzn]; exact hD
    have hl : lv_has ls 5 [(4, .ref zn.1), (0, .ref tb), (1, .int (nI pid)), (2, .long t)] := by rw [hzn]; exact hl
    refine z_topq (x := some z.1) (w := some zn.1) (by rw [hzn]; rfl) ?_
    have hPc := hP.part (cx := [(zn.1, .inr (7, [.int zn.2.1, .int (nI zn.2.2.1), .int zn.2.2.2.1, .int zn.2.2.2.2.1, .ref zn.2.2.2.2.2.1, .int zn.2.2.2.2.2.2.1, .long zn.2.2.2.2.2.2.2.1, .ref zn.2.2.2.2.2.2.2.2]))]) [0] rfl
    have hKc := hK.sub (tys' := [(cO, .object "java/lang/Object")]) [0] rfl
    have hDc := hD.part (cx := [(zn.1, .inr (7, [.int zn.2.1, .int (nI zn.2.2.1), .int zn.2.2.2.1, .int zn.2.2.2.2.1, .ref zn.2.2.2.2.2.1, .int zn.2.2.2.2.2.2.1, .long zn.2.2.2.2.2.2.2.1, .ref zn.2.2.2.2.2.2.2.2]))]) [0] (by decide) rfl
    have hFc := va_freeP (cx := [(zn.1, .inr (7, [.int zn.2.1, .int (nI zn.2.2.1), .int zn.2.2.2.1, .int zn.2.2.2.2.1, .ref zn.2.2.2.2.2.1, .int zn.2.2.2.2.2.2.1, .long zn.2.2.2.2.2.2.2.1, .ref zn.2.2.2.2.2.2.2.2]))]) hD hS hA [0] rfl
    refine va_callv (va_runV (As := []) (rest := []) ⟨hx, hb, hml, hown, hts⟩ (c_Programme_obeyDue l D B0 hG H.size cO e0 zn mo wst Wl (tplr cO e0 tb lv pr P.length pmo pst (L1 ++ L2) ++ Q) he0 (wk_mono hpk.2.2.1 (fun y hy => List.mem_append_right _ hy)) hpk.2.2.2.1 hpk.2.2.2.2) (z_cV hN wd_411 wd_82 wd_408 hd_Programme_obeyDue rfl rfl ⟨Nat.le_of_ble_eq_true rfl, Nat.le_of_ble_eq_true rfl⟩ wd_409 wd_410) (z_preVo (va_recv (ci := 7) (q0 := 0) hK hP rfl rfl) hPc hKc hN hDc hO hS hAO) rfl rfl hl.1 rfl (lv_room (Nat.le_of_ble_eq_true rfl)) d_Tables_moveNow_20 ⟨Nat.le_of_ble_eq_true rfl, Nat.le_of_ble_eq_true rfl⟩) hS (fun q _ h => hFc q h) hFc (fun o9 t H locs ht hvm e20 hB hz1 hk1 hS => ?_)
    obtain ⟨hP1, hK1, hD1⟩ := hB
    rw [ht] at hP1
    obtain ⟨hP, hD⟩ := va_joinP (wr := []) (rx := [(zn.1, .inr (7, [.int zn.2.1, .int (nI zn.2.2.1), .int zn.2.2.2.1, .int zn.2.2.2.2.1, .ref zn.2.2.2.2.2.1, .int o9.1, .long zn.2.2.2.2.2.2.2.1, .ref zn.2.2.2.2.2.2.2.2]))]) hP hD [0] [] rfl rfl (by decide) (by decide) hk1 hFc hP1 hD1
    clear hk1 hP1 hD1 hFc hPc hDc hz1
    have hP : va_P D classes ([(zn.1, .inr (7, [.int zn.2.1, .int (nI zn.2.2.1), .int zn.2.2.2.1, .int zn.2.2.2.2.1, .ref zn.2.2.2.2.2.1, .int o9.1, .long zn.2.2.2.2.2.2.2.1, .ref zn.2.2.2.2.2.2.2.2]))] ++ (wlc cO e0 zn.2.2.2.2.2.2.2.2 o9.2.1.1.length o9.2.1.2.1 o9.2.1.2.2 ++ (o9.2.2 ++ (tplr cO e0 tb lv pr P.length pmo pst (L1 ++ L2) ++ Q)))) H := hP
    have hD : va_D A ([(zn.1, .inr (7, [.int zn.2.1, .int (nI zn.2.2.1), .int zn.2.2.2.1, .int zn.2.2.2.2.1, .ref zn.2.2.2.2.2.1, .int o9.1, .long zn.2.2.2.2.2.2.2.1, .ref zn.2.2.2.2.2.2.2.2]))] ++ (wlc cO e0 zn.2.2.2.2.2.2.2.2 o9.2.1.1.length o9.2.1.2.1 o9.2.1.2.2 ++ (o9.2.2 ++ (tplr cO e0 tb lv pr P.length pmo pst (L1 ++ L2) ++ Q)))) := hD
    have hP := z_Pp (mn_perm (A := L1) (B := L2) (x := (pzA zn o9.1, S, o9.2.1.1, o9.2.1.2.1, o9.2.1.2.2))) (show va_P D classes (pgc cO e0 (pzA zn o9.1, S, o9.2.1.1, o9.2.1.2.1, o9.2.1.2.2) ++ (o9.2.2 ++ (tplr cO e0 tb lv pr P.length pmo pst (L1 ++ L2) ++ Q))) H from hP)
    have hD := z_Dp (mn_perm (A := L1) (B := L2) (x := (pzA zn o9.1, S, o9.2.1.1, o9.2.1.2.1, o9.2.1.2.2))) (show va_D A (pgc cO e0 (pzA zn o9.1, S, o9.2.1.1, o9.2.1.2.1, o9.2.1.2.2) ++ (o9.2.2 ++ (tplr cO e0 tb lv pr P.length pmo pst (L1 ++ L2) ++ Q))) from hD)
    have hP : va_P D classes ([] ++ (tplr cO e0 tb lv pr P.length pmo pst (L1 ++ (pzA zn o9.1, S, o9.2.1.1, o9.2.1.2.1, o9.2.1.2.2) :: L2) ++ (o9.2.2 ++ Q))) H := hP
    have hD : va_D A ([] ++ (tplr cO e0 tb lv pr P.length pmo pst (L1 ++ (pzA zn o9.1, S, o9.2.1.1, o9.2.1.2.1, o9.2.1.2.2) :: L2) ++ (o9.2.2 ++ Q))) := hD
    have hset : P.set j (pzA zn o9.1, S, o9.2.1.1, o9.2.1.2.1, o9.2.1.2.2) = (L1 ++ (pzA zn o9.1, S, o9.2.1.1, o9.2.1.2.1, o9.2.1.2.2) :: L2) := by rw [hsp, hL1, hL2]; exact p_set hj
    have hP9 := hP.part (cx := []) [] rfl
    have hD9 := hD.part (cx := []) [] (by decide) rfl
    have hK9 := hK.sub (tys' := [(cO, .object "java/lang/Object")]) [0] rfl
    refine W.widen (k := 24) (n := 168) (by omega) (by omega) ?_
    exact W.vret hx hb hr (fun t ht hW => ⟨⟨((L1 ++ (pzA zn o9.1, S, o9.2.1.1, o9.2.1.2.1, o9.2.1.2.2) :: L2), o9.2.2), rfl, mn_post htk hj hxe hh (fun i hi => by have z := hf i hi; rw [pvw_get (by omega)] at z; exact z) hzn e20 hset, ⟨by rw [ht]; exact hP9, va_K.moved hW.alike hK9, hD9⟩⟩, hS.F ht⟩) hS.2.2 d_Tables_moveNow_23
