theorem wd_928 : (Jvm.Cond.methodLink "StreamSplitter" (223 : Nat) ({ cls := "StreamSplitter$Stream", name := "<init>", desc := "(II)V" } : Jvm.MethodName)) ∈ lw_ok := List.mem_filter.mpr ⟨List.mem_of_getElem? (i := 928) (by decide +kernel), rfl⟩
theorem d_SS_addStream_80 : decode b_SS_addStream 80 = .ok (.aload 4, 2) := by decide +kernel
theorem d_SS_addStream_82 : decode b_SS_addStream 82 = .ok (.new 142, 3) := by decide +kernel
theorem d_SS_addStream_85 : decode b_SS_addStream 85 = .ok (.dup, 1) := by decide +kernel
theorem d_SS_addStream_86 : decode b_SS_addStream 86 = .ok (.iload_n 2, 1) := by decide +kernel
theorem d_SS_addStream_87 : decode b_SS_addStream 87 = .ok (.iload_n 3, 1) := by decide +kernel
theorem d_SS_addStream_88 : decode b_SS_addStream 88 = .ok (.invokespecial 223, 3) := by decide +kernel
theorem d_SS_addStream_91 : decode b_SS_addStream 91 = .ok (.invokevirtual 215, 3) := by decide +kernel
theorem d_SS_addStream_94 : decode b_SS_addStream 94 = .ok (.pop, 1) := by decide +kernel
theorem d_SS_addStream_95 : decode b_SS_addStream 95 = .ok (.aload 4, 2) := by decide +kernel
theorem d_SS_addStream_97 : decode b_SS_addStream 97 = .ok (.invokevirtual 105, 3) := by decide +kernel
theorem d_SS_addStream_100 : decode b_SS_addStream 100 = .ok (.ireturn, 1) := by decide +kernel
set_option maxHeartbeats 4000000 in
set_option maxRecDepth 100000 in
theorem c_SS_addStream_add (l : Launch) (D : va_G) (hfl : l.stackTraces = false) (B0 : State) (hG : zG B0) (sz : Nat) (h rc d e0 : Nat) (cO : ClassId) (mo : Int32) (dst : Option (Nat × (Nat → Option Nat))) (DL : List DR9) (Q Im : va_W) (k : Nat) (ty : Int32) (pid : Nat) (he0 : zE0 B0 e0) (hdt : dtk Im dst DL) (hIm : ∀ y ∈ Im, y ∈ Q) (hk : k < DL.length) (hok : ¬ (ty < 0 ∨ 255 < ty ∨ nI pid < 0 ∨ 8191 < nI pid)) (hpid : pid < 8192) (hlt : (DL.getD k dr0).2.2.2.2.1.length < 4) : MetT l y_SS_addStream [Cond.code y_SS_addStream b_SS_addStream 5 (some .int)] ({ frames := 5, cells := 3, slots := 16, locals := 101 }) (zMo [.ref h, .int (nI k), .int ty, .int (nI pid)] D ([(h, .inr (11, [.ref rc, .ref d]))] ++ (dfl cO e0 d DL.length mo dst DL ++ Q)) [(cO, .object "java/lang/Object")] sz B0) (zQi (fun r0 (u : Option (Nat × (Nat → Option Nat)) × Nat) => r0 = nI ((DL.getD k dr0).2.2.2.2.1.length + 1) ∧ dtk ((u.2, smE ty pid) :: Im) dst (DL.set k ((DL.getD k dr0).1, (DL.getD k dr0).2.1, (DL.getD k dr0).2.2.1, (DL.getD k dr0).2.2.2.1, (DL.getD k dr0).2.2.2.2.1 ++ [(ty, pid)], (DL.getD k dr0).2.2.2.2.2.1 + 1, u.1))) (fun (u : Option (Nat × (Nat → Option Nat)) × Nat) t => zW D (va_A ([(h, .inr (11, [.ref rc, .ref d]))] ++ (dfl cO e0 d DL.length mo dst DL ++ Q)) sz) ([(h, .inr (11, [.ref rc, .ref d]))] ++ (dfl cO e0 d DL.length mo dst (DL.set k ((DL.getD k dr0).1, (DL.getD k dr0).2.1, (DL.getD k dr0).2.2.1, (DL.getD k dr0).2.2.2.1, (DL.getD k dr0).2.2.2.2.1 ++ [(ty, pid)], (DL.getD k dr0).2.2.2.2.2.1 + 1, u.1)) ++ ((u.2, smE ty pid) :: Q))) [(cO, .object "java/lang/Object")] t) (va_A ([(h, .inr (11, [.ref rc, .ref d]))] ++ (dfl cO e0 d DL.length mo dst DL ++ Q)) sz) (fun _ => False)) 3 16 (va_A ([(h, .inr (11, [.ref rc, .ref d]))] ++ (dfl cO e0 d DL.length mo dst DL ++ Q)) sz) := by
  refine MetT.ofW (cc := b_SS_addStream) (maxL := 5) (ret := (some .int)) (by decide) rfl ?_
  intro p e s m args below meth cd s₁ Bd hml hem hv
  obtain ⟨rfl, hsz, hP, hK, hN, hD0, hO⟩ := hv
  have hx := Bd.exec
  have hb := Bd.bytes
  have hr := Bd.returns
  have hts := hN.use (a := ([.ref h, .int (nI k), .int ty, .int (nI pid)]).toArray)
  have hown : s.vm.findClass R_SS = some m.cls := findClass_of_methodNamed Bd.named
  have hlocks := Bd.notSynchronized
  subst hsz
  have hD := hD0.self (sz := s.heap.size)
  have hAO := z_AO hD0 hO
  clear hD0
  have hA : ∀ q : Nat, s.heap.size ≤ q → va_A ([(h, .inr (11, [.ref rc, .ref d]))] ++ (dfl cO e0 d DL.length mo dst DL ++ Q)) s.heap.size q := fun q h => Or.inr h
  have hS : va_S (va_A ([(h, .inr (11, [.ref rc, .ref d]))] ++ (dfl cO e0 d DL.length mo dst DL ++ Q)) s.heap.size) s.heap s.heap [] := va_S.rf
  generalize hAe : va_A ([(h, .inr (11, [.ref rc, .ref d]))] ++ (dfl cO e0 d DL.length mo dst DL ++ Q)) s.heap.size = A at hD hA hS hAO ⊢
  have hP : va_P D classes ([(h, .inr (11, [.ref rc, .ref d]))] ++ (dfl cO e0 d DL.length mo dst DL ++ Q)) s.heap := hP
  have hl := lv_entry ([.ref h, .int (nI k), .int ty, .int (nI pid)]) (n := 5) (Nat.le_of_ble_eq_true rfl)
  rw [lg_entry_eq]
  generalize (lg_sl ([.ref h, .int (nI k), .int ty, .int (nI pid)]) ++ List.replicate (5 - (lg_sl ([.ref h, .int (nI k), .int ty, .int (nI pid)])).length) Slot.unset).toArray = ls at hl ⊢
  have hl : lv_has ls 5 [(0, .ref h), (1, .int (nI k)), (2, .int ty), (3, .int (nI pid))] := hl
  refine lv_iload_n hx hb d_SS_addStream_0 rfl (lv_at hl 1 rfl) ?_
  refine lv_if_lt (tgt := 15) hx hb d_SS_addStream_1 rfl (fun h9 => absurd h9 (nI_pos (by have := hdt.1; omega))) (fun h1 => ?_)
  refine lv_iload_n hx hb d_SS_addStream_4 rfl (lv_at hl 1 rfl) ?_
  refine lv_aload_n hx hb d_SS_addStream_5 rfl (lv_at hl 0 rfl) ?_
  refine va_get (D := D) (ci := 11) (v := .ref d) (C := R_SS) (T := F_SS) (N := 2) hx hb hts i_SS hown hK hP 0 rfl rfl 1 (by decide) (hts _ wd_199) (fun _ h9 => h9) rfl d_SS_addStream_6 ?_
  obtain ⟨b9, hm9⟩ := df_memL (X := [(h, .inr (11, [.ref rc, .ref d]))]) (cO := cO) (e0 := e0) (d := d) (n := DL.length) (mo := mo) (dst := dst) (L := DL) (Q := Q)
  obtain ⟨q9, hq9⟩ := List.getElem?_of_mem hm9
  have hPc : va_P D classes [(d, .inr (12, [.ref b9, .int (nI DL.length), .int mo]))] s.heap := z_Pm1 hm9 hP
  have hKc := hK.sub (tys' := []) [] rfl
  refine z_ci (va_runV (As := []) (rest := [.int (nI k)]) ⟨hx, hb, hml, hown, hts⟩ (c_AL_size l D d b9 (nI DL.length) mo ) (z_cV hN wd_305 wd_66 wd_820 hd_AL_size rfl rfl ⟨Nat.le_of_ble_eq_true rfl, Nat.le_of_ble_eq_true rfl⟩ wd_303 wd_304) (z_preV (va_recv (ci := 12) (q0 := q9) hK hP rfl hq9) hPc hKc hN) rfl rfl hl.1 rfl (lv_room (Nat.le_of_ble_eq_true rfl)) d_SS_addStream_9 ⟨Nat.le_of_ble_eq_true rfl, Nat.le_of_ble_eq_true rfl⟩) (fun r9 e9 => ?_)
  refine z_topi (w := (nI DL.length)) e9 ?_
  refine lv_icmp_lt (tgt := 25) hx hb d_SS_addStream_12 rfl (fun h12 => ?_) (fun h9 => absurd (nI_lt hk (by have := hdt.1; omega)) h9)
  refine lv_iload_n hx hb d_SS_addStream_25 rfl (lv_at hl 2 rfl) ?_
  refine lv_if_lt (tgt := 43) hx hb d_SS_addStream_26 rfl (fun h9 => absurd (Or.inl h9) hok) (fun h26 => ?_)
  refine lv_iload_n hx hb d_SS_addStream_29 rfl (lv_at hl 2 rfl) ?_
  refine lv_sipush (v := 255) hx hb d_SS_addStream_30 (by decide) ?_
  refine lv_icmp_gt (tgt := 43) hx hb d_SS_addStream_33 rfl (fun h9 => absurd (Or.inr (Or.inl h9)) hok) (fun h33 => ?_)
  refine lv_iload_n hx hb d_SS_addStream_36 rfl (lv_at hl 3 rfl) ?_
  have hPc := hP.sub (ws' := []) [] rfl
  have hKc := hK.sub (tys' := []) [] rfl
  refine z_ci (va_runS (As := [.int (nI pid)]) (rest := []) ⟨hx, hb, hml, hown, hts⟩ (c_SS_isNoPid l D (nI pid) ) (z_cS hN wd_883 wd_59 wd_881 hd_SS_isNoPid rfl rfl ⟨Nat.le_of_ble_eq_true rfl, Nat.le_of_ble_eq_true rfl⟩ wd_882) (z_preS hPc hKc hN) rfl rfl hl.1 rfl (lv_room (Nat.le_of_ble_eq_true rfl)) d_SS_addStream_37 ⟨Nat.le_of_ble_eq_true rfl, Nat.le_of_ble_eq_true rfl⟩) (fun r37 e37 => ?_)
  subst e37
  refine lv_if_eq (tgt := 53) hx hb d_SS_addStream_40 rfl (fun h40 => ?_) (fun h9 => absurd (Or.inr (Or.inr (pd_bad rfl h9))) hok)
  refine lv_aload_n hx hb d_SS_addStream_53 rfl (lv_at hl 0 rfl) ?_
  refine va_get (D := D) (ci := 11) (v := .ref d) (C := R_SS) (T := F_SS) (N := 2) hx hb hts i_SS hown hK hP 0 rfl rfl 1 (by decide) (hts _ wd_199) (fun _ h9 => h9) rfl d_SS_addStream_54 ?_
  refine lv_iload_n hx hb d_SS_addStream_57 rfl (lv_at hl 1 rfl) ?_
  obtain ⟨x, hxe⟩ : ∃ x : DR9, x = DL.getD k dr0 := ⟨_, rfl⟩
  have hxm := d_mem hk
  have hxd := hdt.2.2 _ hxm
  rw [← hxe] at hxm hxd
  have hdm : (x.1, drE x) ∈ ([(h, .inr (11, [.ref rc, .ref d]))] ++ (dfl cO e0 d DL.length mo dst DL ++ Q)) := df_memD hxm List.mem_cons_self
  obtain ⟨q1, hq1⟩ := List.getElem?_of_mem hdm
  obtain ⟨sb, hsb⟩ := wl_mem cO e0 x.2.2.2.1 x.2.2.2.2.1.length x.2.2.2.2.2.1 x.2.2.2.2.2.2
  have hsm : (x.2.2.2.1, alE sb x.2.2.2.2.1.length x.2.2.2.2.2.1) ∈ ([(h, .inr (11, [.ref rc, .ref d]))] ++ (dfl cO e0 d DL.length mo dst DL ++ Q)) := df_memD hxm (List.mem_cons_of_mem _ hsb)
  obtain ⟨q2, hq2⟩ := List.getElem?_of_mem hsm
  obtain ⟨b8, g8, hl8, ha8, hg8⟩ : ∃ b8 g8, (d, alE b8 DL.length mo) ∈ ([(h, .inr (11, [.ref rc, .ref d]))] ++ (dfl cO e0 d DL.length mo dst DL ++ Q)) ∧ (b8, arE cO g8) ∈ ([(h, .inr (11, [.ref rc, .ref d]))] ++ (dfl cO e0 d DL.length mo dst DL ++ Q)) ∧ g8 k = some x.1 := by
    have h2 := hdt.2.1
    cases dst with
    | none => rw [show DL = [] from h2] at hk; exact absurd hk (Nat.not_lt_zero k)
    | some q => exact ⟨q.1, q.2, List.mem_append_right _ (List.mem_append_left _ (List.mem_append_left _ List.mem_cons_self)), List.mem_append_right _ (List.mem_append_left _ (List.mem_append_left _ (List.mem_cons_of_mem _ List.mem_cons_self))), by rw [hxe]; exact (show ∀ j, j < DL.length → q.2 j = some (DL.getD j dr0).1 from h2) k hk⟩
  have hd4 := hdt.1
  have hPc : va_P D classes [(d, .inr (12, [.ref b8, .int (nI DL.length), .int mo])), (b8, .inl (cO, 10, .inr (.inr (.inr (.inr g8)))))] s.heap := z_Pm2 hl8 ha8 hP
  have hKc := hK.sub (tys' := [(cO, .object "java/lang/Object")]) [0] rfl
  refine z_cq (va_runV (As := [.int (nI k)]) (rest := []) ⟨hx, hb, hml, hown, hts⟩ (c_AL_get l D cO d b8 DL.length mo g8 k hk (by omega)) (z_cV hN wd_309 wd_66 wd_841 hd_AL_get rfl rfl ⟨Nat.le_of_ble_eq_true rfl, Nat.le_of_ble_eq_true rfl⟩ wd_307 wd_308) (z_preV (va_recv (ci := 12) (q0 := q9) hK hP rfl hq9) hPc hKc hN) rfl rfl hl.1 rfl (lv_room (Nat.le_of_ble_eq_true rfl)) d_SS_addStream_58 ⟨Nat.le_of_ble_eq_true rfl, Nat.le_of_ble_eq_true rfl⟩) (fun r58 e58 => ?_)
  subst e58
  refine z_topq (w := some x.1) hg8 ?_
  refine va_castY hx hb hown (hts _ wd_895) (hN _ wd_1488) (va_recv (ci := 9) (q0 := q1) hK hP rfl hq1) d_SS_addStream_61 ?_
  refine va_getN (D := D) (ci := 9) (v := .ref x.2.2.2.1) (C := R_Draft) (T := F_Draft) (N := 3) hx hb hts i_Draft hown hK hP q1 hq1 rfl 2 (by decide) (hts _ wd_910) (fun _ h9 => h9) rfl d_SS_addStream_64 ?_
  refine lv_astore (lv' := [(4, .ref x.2.2.2.1), (0, .ref h), (1, .int (nI k)), (2, .int ty), (3, .int (nI pid))]) hx hb d_SS_addStream_67 hl (by decide) rfl (fun ls hl => ?_)
  refine lv_aload hx hb d_SS_addStream_69 (lv_at hl 0 rfl) ?_
  have hPc : va_P D classes [(x.2.2.2.1, .inr (12, [.ref sb, .int (nI x.2.2.2.2.1.length), .int x.2.2.2.2.2.1]))] s.heap := z_Pm1 hsm hP
  have hKc := hK.sub (tys' := []) [] rfl
  refine z_ci (va_runV (As := []) (rest := []) ⟨hx, hb, hml, hown, hts⟩ (c_AL_size l D x.2.2.2.1 sb (nI x.2.2.2.2.1.length) x.2.2.2.2.2.1 ) (z_cV hN wd_305 wd_66 wd_820 hd_AL_size rfl rfl ⟨Nat.le_of_ble_eq_true rfl, Nat.le_of_ble_eq_true rfl⟩ wd_303 wd_304) (z_preV (va_recv (ci := 12) (q0 := q2) hK hP rfl hq2) hPc hKc hN) rfl rfl hl.1 rfl (lv_room (Nat.le_of_ble_eq_true rfl)) d_SS_addStream_71 ⟨Nat.le_of_ble_eq_true rfl, Nat.le_of_ble_eq_true rfl⟩) (fun r71 e71 => ?_)
  refine z_topi (w := (nI x.2.2.2.2.1.length)) e71 ?_
  refine lv_iconst (v := 4) hx hb d_SS_addStream_74 (by decide) ?_
  refine lv_icmp_lt (tgt := 80) hx hb d_SS_addStream_75 rfl (fun h75 => ?_) (fun h9 => absurd (nI_lt (b := 4) (show x.2.2.2.2.1.length < 4 by rw [hxe]; exact hlt) (by decide)) h9)
  have hsp := d_split hk
  rw [← hxe] at hsp
  obtain ⟨L1, hL1⟩ : ∃ L1, L1 = DL.take k := ⟨_, rfl⟩
  obtain ⟨L2, hL2⟩ : ∃ L2, L2 = DL.drop (k + 1) := ⟨_, rfl⟩
  rw [← hL1, ← hL2] at hsp
  have hP := z_Pp (df_foc (X := [(h, .inr (11, [.ref rc, .ref d]))]) (A := L1) (B := L2) (x := x) (n := DL.length)) (by rw [← hsp]; exact hP)
  have hD := z_Dp (df_foc (X := [(h, .inr (11, [.ref rc, .ref d]))]) (A := L1) (B := L2) (x := x) (n := DL.length)) (by rw [← hsp]; exact hD)
  have hlt9 : x.2.2.2.2.1.length < 4 := by rw [hxe]; exact hlt
  clear hdm hq1 hsm hq2 hsb hl8 ha8 hg8
  obtain ⟨xa, xn, xp, xs, S9, xm, sst9⟩ := x
  have hl : lv_has ls 5 [(4, .ref xs), (0, .ref h), (1, .int (nI k)), (2, .int ty), (3, .int (nI pid))] := hl
  have hP : va_P D classes ([(h, .inr (11, [.ref rc, .ref d]))] ++ (drc cO e0 (xa, xn, xp, xs, S9, xm, sst9) ++ (dfl cO e0 d DL.length mo dst (L1 ++ L2) ++ Q))) s.heap := hP
  have hD : va_D A ([(h, .inr (11, [.ref rc, .ref d]))] ++ (drc cO e0 (xa, xn, xp, xs, S9, xm, sst9) ++ (dfl cO e0 d DL.length mo dst (L1 ++ L2) ++ Q))) := hD
  cases sst9 with
  | none =>
    obtain rfl : S9 = [] := hxd.2.1
    have hP : va_P D classes ([(h, .inr (11, [.ref rc, .ref d])), (xa, .inr (9, [.int xn, .int (nI xp), .ref xs])), (xs, .inr (12, [.ref e0, .int 0, .int xm]))] ++ (dfl cO e0 d DL.length mo dst (L1 ++ L2) ++ Q)) s.heap := hP
    have hD : va_D A ([(h, .inr (11, [.ref rc, .ref d])), (xa, .inr (9, [.int xn, .int (nI xp), .ref xs])), (xs, .inr (12, [.ref e0, .int 0, .int xm]))] ++ (dfl cO e0 d DL.length mo dst (L1 ++ L2) ++ Q)) := hD
    refine lv_aload hx hb d_SS_addStream_80 (lv_at hl 0 rfl) ?_
    refine va_new (ci := 5) (fs := [.int 0, .int 0]) (C := R_Stream) (T := F_Stream) (N := 2) hx hb hts i_Stream t_Stream t_Stream_ok hown (hts _ wd_842) (hts _ wd_629) (hts _ wd_83) hK hP hD hS hA rfl (fs_Stream) (by show 0 + 1 ≤ 3; omega) (by show 0 + 2 ≤ 16; omega) d_SS_addStream_82 (fun q82 H hP hD hS => ?_)
    have hP := hP.swap
    have hD := hD.swap
    have hP : va_P D classes ([(h, .inr (11, [.ref rc, .ref d])), (xa, .inr (9, [.int xn, .int (nI xp), .ref xs])), (xs, .inr (12, [.ref e0, .int 0, .int xm])), (q82, .inr (5, [.int 0, .int 0]))] ++ (dfl cO e0 d DL.length mo dst (L1 ++ L2) ++ Q)) H := hP
    have hD : va_D A ([(h, .inr (11, [.ref rc, .ref d])), (xa, .inr (9, [.int xn, .int (nI xp), .ref xs])), (xs, .inr (12, [.ref e0, .int 0, .int xm])), (q82, .inr (5, [.int 0, .int 0]))] ++ (dfl cO e0 d DL.length mo dst (L1 ++ L2) ++ Q)) := hD
    refine lv_dup hx hb d_SS_addStream_85 rfl ?_
    refine lv_iload_n hx hb d_SS_addStream_86 rfl (lv_at hl 3 rfl) ?_
    refine lv_iload_n hx hb d_SS_addStream_87 rfl (lv_at hl 4 rfl) ?_
    have hPc := hP.sub (ws' := [(q82, .inr (5, [.int 0, .int 0]))]) [3] rfl
    have hKc := hK.sub (tys' := []) [] rfl
    have hDc := hD.sub (ws' := [(q82, .inr (5, [.int 0, .int 0]))]) [3] (by decide) rfl
    have hFc := va_free (wc := [(q82, .inr (5, [.int 0, .int 0]))]) hD hS hA [3] rfl
    refine va_callv (va_runI (As := [.int ty, .int (nI pid)]) (rest := [.ref q82, .ref xs]) ⟨hx, hb, hml, hown, hts⟩ (c_Stream_init l D H.size q82 ty (nI pid) ) (z_cI hN wd_632 wd_83 wd_928 hd_Stream_init rfl rfl ⟨Nat.le_of_ble_eq_true rfl, Nat.le_of_ble_eq_true rfl⟩ wd_631 rfl) (z_preSm hPc hKc hN hDc) rfl rfl hl.1 rfl (lv_room (Nat.le_of_ble_eq_true rfl)) d_SS_addStream_88 ⟨Nat.le_of_ble_eq_true rfl, Nat.le_of_ble_eq_true rfl⟩) hS (fun q _ h => hFc q h) hFc (fun u88 t H locs ht hvm e88 hB hz1 hk1 hS => ?_)
    obtain ⟨hP1, hK1, hD1⟩ := hB
    rw [ht] at hP1
    obtain ⟨hP, hD⟩ := va_joinQ (cx := [(q82, .inr (5, [.int 0, .int 0]))]) (wr := [(h, .inr (11, [.ref rc, .ref d])), (xa, .inr (9, [.int xn, .int (nI xp), .ref xs])), (xs, .inr (12, [.ref e0, .int 0, .int xm]))]) (w1 := [(q82, .inr (5, [.int ty, .int (nI pid)]))]) hP hD [3] [0, 1, 2] rfl rfl (by decide) (by decide) hk1 hFc hP1 hD1
    clear hk1 hP1 hD1 hFc hPc hDc hz1
    have hP : va_P D classes ([(h, .inr (11, [.ref rc, .ref d])), (xa, .inr (9, [.int xn, .int (nI xp), .ref xs])), (xs, .inr (12, [.ref e0, .int 0, .int xm])), (q82, .inr (5, [.int ty, .int (nI pid)]))] ++ (dfl cO e0 d DL.length mo dst (L1 ++ L2) ++ Q)) H := hP
    have hD : va_D A ([(h, .inr (11, [.ref rc, .ref d])), (xa, .inr (9, [.int xn, .int (nI xp), .ref xs])), (xs, .inr (12, [.ref e0, .int 0, .int xm])), (q82, .inr (5, [.int ty, .int (nI pid)]))] ++ (dfl cO e0 d DL.length mo dst (L1 ++ L2) ++ Q)) := hD
    have hPc := hP.sub (ws' := [(xs, .inr (12, [.ref e0, .int 0, .int xm])), (q82, .inr (5, [.int ty, .int (nI pid)]))]) [2, 3] rfl
    have hKc := hK.sub (tys' := [(cO, .object "java/lang/Object")]) [0] rfl
    have hDc := hD.sub (ws' := [(xs, .inr (12, [.ref e0, .int 0, .int xm])), (q82, .inr (5, [.int ty, .int (nI pid)]))]) [2, 3] (by decide) rfl
    have hFc := va_free (wc := [(xs, .inr (12, [.ref e0, .int 0, .int xm])), (q82, .inr (5, [.int ty, .int (nI pid)]))]) hD hS hA [2, 3] rfl
    refine va_calli (va_runV (As := [.ref q82]) (rest := []) ⟨hx, hb, hml, hown, hts⟩ (c_AL_add0e l D B0 hG H.size cO xs e0 xm q82 5 [.int ty, .int (nI pid)] (R_Stream, F_Stream, 2) he0 rfl wd_1502) (z_cV hN wd_465 wd_66 wd_918 hd_AL_add0 rfl rfl ⟨Nat.le_of_ble_eq_true rfl, Nat.le_of_ble_eq_true rfl⟩ wd_463 wd_464) (z_preVo (va_recv (ci := 12) (q0 := 2) hK hP rfl rfl) hPc hKc hN hDc hO hS hAO) rfl rfl hl.1 rfl (lv_room (Nat.le_of_ble_eq_true rfl)) d_SS_addStream_91 ⟨Nat.le_of_ble_eq_true rfl, Nat.le_of_ble_eq_true rfl⟩) hS (fun q _ h => hFc q h) hFc (fun r91 q91 t H locs ht hvm e91 hB hz1 hk1 hS => ?_)
    obtain ⟨hP1, hK1, hD1⟩ := hB
    rw [ht] at hP1
    obtain ⟨hP, hD⟩ := va_joinQ (cx := [(xs, .inr (12, [.ref e0, .int 0, .int xm])), (q82, .inr (5, [.int ty, .int (nI pid)]))]) (wr := [(h, .inr (11, [.ref rc, .ref d])), (xa, .inr (9, [.int xn, .int (nI xp), .ref xs]))]) (w1 := [(xs, .inr (12, [.ref q91, .int 1, .int (xm + 1)])), (q91, .inl (cO, 10, .inr (.inr (.inr (.inr (va_up (fun _ => none) 0 (some q82))))))), (q82, .inr (5, [.int ty, .int (nI pid)]))]) hP hD [2, 3] [0, 1] rfl rfl (by decide) (by decide) hk1 hFc hP1 hD1
    clear hk1 hP1 hD1 hFc hPc hDc hz1
    have hP : va_P D classes ([(h, .inr (11, [.ref rc, .ref d])), (xa, .inr (9, [.int xn, .int (nI xp), .ref xs])), (xs, .inr (12, [.ref q91, .int 1, .int (xm + 1)])), (q91, .inl (cO, 10, .inr (.inr (.inr (.inr (va_up (fun _ => none) 0 (some q82))))))), (q82, .inr (5, [.int ty, .int (nI pid)]))] ++ (dfl cO e0 d DL.length mo dst (L1 ++ L2) ++ Q)) H := hP
    have hD : va_D A ([(h, .inr (11, [.ref rc, .ref d])), (xa, .inr (9, [.int xn, .int (nI xp), .ref xs])), (xs, .inr (12, [.ref q91, .int 1, .int (xm + 1)])), (q91, .inl (cO, 10, .inr (.inr (.inr (.inr (va_up (fun _ => none) 0 (some q82))))))), (q82, .inr (5, [.int ty, .int (nI pid)]))] ++ (dfl cO e0 d DL.length mo dst (L1 ++ L2) ++ Q)) := hD
    refine lv_pop hx hb d_SS_addStream_94 rfl ?_
    refine lv_aload hx hb d_SS_addStream_95 (lv_at hl 0 rfl) ?_
    have hPc := hP.sub (ws' := [(xs, .inr (12, [.ref q91, .int 1, .int (xm + 1)]))]) [2] rfl
    have hKc := hK.sub (tys' := []) [] rfl
    refine z_ci (va_runV (As := []) (rest := []) ⟨hx, hb, hml, hown, hts⟩ (c_AL_size l D xs q91 1 (xm + 1) ) (z_cV hN wd_305 wd_66 wd_820 hd_AL_size rfl rfl ⟨Nat.le_of_ble_eq_true rfl, Nat.le_of_ble_eq_true rfl⟩ wd_303 wd_304) (z_preV (va_recv (ci := 12) (q0 := 2) hK hP rfl rfl) hPc hKc hN) rfl rfl hl.1 rfl (lv_room (Nat.le_of_ble_eq_true rfl)) d_SS_addStream_97 ⟨Nat.le_of_ble_eq_true rfl, Nat.le_of_ble_eq_true rfl⟩) (fun r97 e97 => ?_)
    refine z_topi (w := 1) e97 ?_
    have hP := hP.part (cx := [(h, .inr (11, [.ref rc, .ref d])), (q82, .inr (5, [.int ty, .int (nI pid)])), (xa, .inr (9, [.int xn, .int (nI xp), .ref xs])), (xs, .inr (12, [.ref q91, .int 1, .int (xm + 1)])), (q91, .inl (cO, 10, .inr (.inr (.inr (.inr (va_up (fun _ => none) 0 (some q82)))))))]) [0, 4, 1, 2, 3] rfl
    have hD := hD.part (cx := [(h, .inr (11, [.ref rc, .ref d])), (q82, .inr (5, [.int ty, .int (nI pid)])), (xa, .inr (9, [.int xn, .int (nI xp), .ref xs])), (xs, .inr (12, [.ref q91, .int 1, .int (xm + 1)])), (q91, .inl (cO, 10, .inr (.inr (.inr (.inr (va_up (fun _ => none) 0 (some q82)))))))]) [0, 4, 1, 2, 3] (by decide) rfl
    have hnl : ([] : List (Int32 × Nat)).length + 1 = (([] : List (Int32 × Nat)) ++ [(ty, pid)]).length := by rw [List.length_append, List.length_singleton]
    have hP : va_P D classes ([(h, .inr (11, [.ref rc, .ref d])), (q82, .inr (5, [.int ty, .int (nI pid)]))] ++ (drc cO e0 (xa, xn, xp, xs, ([] : List (Int32 × Nat)) ++ [(ty, pid)], xm + 1, some (q91, va_up (fun _ => none) 0 (some q82))) ++ (dfl cO e0 d DL.length mo dst (L1 ++ L2) ++ Q))) H := by
      unfold drc
      rw [show ((xa, xn, xp, xs, ([] : List (Int32 × Nat)) ++ [(ty, pid)], xm + 1, some (q91, va_up (fun _ => none) 0 (some q82))) : DR9).2.2.2.2.1.length = ([] : List (Int32 × Nat)).length + 1 from hnl.symm]
      exact hP
    have hP := z_Pp (df_foc (X := [(h, .inr (11, [.ref rc, .ref d])), (q82, .inr (5, [.int ty, .int (nI pid)]))]) (A := L1) (B := L2) (x := (xa, xn, xp, xs, ([] : List (Int32 × Nat)) ++ [(ty, pid)], xm + 1, some (q91, va_up (fun _ => none) 0 (some q82)))) (n := DL.length)).symm hP
    have hP := z_Pp (as_sw (X := [(h, .inr (11, [.ref rc, .ref d]))])) (show va_P D classes (([(h, .inr (11, [.ref rc, .ref d]))] ++ [(q82, smE ty pid)]) ++ (dfl cO e0 d DL.length mo dst (L1 ++ (xa, xn, xp, xs, ([] : List (Int32 × Nat)) ++ [(ty, pid)], xm + 1, some (q91, va_up (fun _ => none) 0 (some q82))) :: L2) ++ Q)) H from hP)
    have hD : va_D A ([(h, .inr (11, [.ref rc, .ref d])), (q82, .inr (5, [.int ty, .int (nI pid)]))] ++ (drc cO e0 (xa, xn, xp, xs, ([] : List (Int32 × Nat)) ++ [(ty, pid)], xm + 1, some (q91, va_up (fun _ => none) 0 (some q82))) ++ (dfl cO e0 d DL.length mo dst (L1 ++ L2) ++ Q))) := by
      unfold drc
      rw [show ((xa, xn, xp, xs, ([] : List (Int32 × Nat)) ++ [(ty, pid)], xm + 1, some (q91, va_up (fun _ => none) 0 (some q82))) : DR9).2.2.2.2.1.length = ([] : List (Int32 × Nat)).length + 1 from hnl.symm]
      exact hD
    have hD := z_Dp (df_foc (X := [(h, .inr (11, [.ref rc, .ref d])), (q82, .inr (5, [.int ty, .int (nI pid)]))]) (A := L1) (B := L2) (x := (xa, xn, xp, xs, ([] : List (Int32 × Nat)) ++ [(ty, pid)], xm + 1, some (q91, va_up (fun _ => none) 0 (some q82)))) (n := DL.length)).symm hD
    have hD := z_Dp (as_sw (X := [(h, .inr (11, [.ref rc, .ref d]))])) (show va_D A (([(h, .inr (11, [.ref rc, .ref d]))] ++ [(q82, smE ty pid)]) ++ (dfl cO e0 d DL.length mo dst (L1 ++ (xa, xn, xp, xs, ([] : List (Int32 × Nat)) ++ [(ty, pid)], xm + 1, some (q91, va_up (fun _ => none) 0 (some q82))) :: L2) ++ Q)) from hD)
    have hset : DL.set k (xa, xn, xp, xs, ([] : List (Int32 × Nat)) ++ [(ty, pid)], xm + 1, some (q91, va_up (fun _ => none) 0 (some q82))) = L1 ++ (xa, xn, xp, xs, ([] : List (Int32 × Nat)) ++ [(ty, pid)], xm + 1, some (q91, va_up (fun _ => none) 0 (some q82))) :: L2 := by rw [hL1, hL2, ← d_set (x := (xa, xn, xp, xs, ([] : List (Int32 × Nat)), xm, none)) hk, ← hL1, ← hL2, ← hsp]
    rw [← hset] at hP hD
    have hxN : ((xa, xn, xp, xs, ([] : List (Int32 × Nat)) ++ [(ty, pid)], xm + 1, some (q91, va_up (fun _ => none) 0 (some q82))) : DR9) = ((DL.getD k dr0).1, (DL.getD k dr0).2.1, (DL.getD k dr0).2.2.1, (DL.getD k dr0).2.2.2.1, (DL.getD k dr0).2.2.2.2.1 ++ [(ty, pid)], (DL.getD k dr0).2.2.2.2.2.1 + 1, some (q91, va_up (fun _ => none) 0 (some q82))) := by rw [← hxe]
    rw [hxN] at hP hD
    have hP : va_P D classes ([(h, .inr (11, [.ref rc, .ref d]))] ++ (dfl cO e0 d DL.length mo dst (DL.set k ((DL.getD k dr0).1, (DL.getD k dr0).2.1, (DL.getD k dr0).2.2.1, (DL.getD k dr0).2.2.2.1, (DL.getD k dr0).2.2.2.2.1 ++ [(ty, pid)], (DL.getD k dr0).2.2.2.2.2.1 + 1, some (q91, va_up (fun _ => none) 0 (some q82)))) ++ ((q82, smE ty pid) :: Q))) H := hP
    have hD : va_D A ([(h, .inr (11, [.ref rc, .ref d]))] ++ (dfl cO e0 d DL.length mo dst (DL.set k ((DL.getD k dr0).1, (DL.getD k dr0).2.1, (DL.getD k dr0).2.2.1, (DL.getD k dr0).2.2.2.1, (DL.getD k dr0).2.2.2.2.1 ++ [(ty, pid)], (DL.getD k dr0).2.2.2.2.2.1 + 1, some (q91, va_up (fun _ => none) 0 (some q82)))) ++ ((q82, smE ty pid) :: Q))) := hD
    have hP9 := hP.part (cx := [(h, .inr (11, [.ref rc, .ref d]))]) [0] rfl
    have hD9 := hD.part (cx := [(h, .inr (11, [.ref rc, .ref d]))]) [0] (by decide) rfl
    have hK9 := hK.sub (tys' := [(cO, .object "java/lang/Object")]) [0] rfl
    refine W.widen (k := 3) (n := 16) (by omega) (by omega) ?_
    exact W.mono MQ.toT (W.iret (v := 1) hx hb hr (fun t ht hW => Or.inl ⟨_, (some (q91, va_up (fun _ => none) 0 (some q82)), q82), rfl, ⟨(by rw [← hxe]; try rfl), (by show dtk _ dst (DL.set k ((DL.getD k dr0).1, (DL.getD k dr0).2.1, (DL.getD k dr0).2.2.1, (DL.getD k dr0).2.2.2.1, (DL.getD k dr0).2.2.2.2.1 ++ [(ty, pid)], (DL.getD k dr0).2.2.2.2.2.1 + 1, some (q91, va_up (fun _ => none) 0 (some q82)))); rw [← hxN]; exact dtk_set hdt hk (by rw [← hxe]) (fun y hy => List.mem_cons_of_mem _ hy) ⟨hxd.1, sok_add (S := []) (x := (ty, pid)) (fun j hj => absurd hj (Nat.not_lt_zero j)) hpid, (by show (([] : List (Int32 × Nat)) ++ [(ty, pid)]).length ≤ 4; rw [List.length_append, List.length_singleton]; show 0 + 1 ≤ 4; omega)⟩)⟩, ⟨by rw [ht]; exact hP9, va_K.moved hW.alike hK9, hD9⟩, hS.F ht⟩) hS.2.2 d_SS_addStream_100)
  | some wq =>
    have hlt8 : S9.length < 4 := hlt9
    have hsk9 : ∀ j, j < S9.length → ∃ a, wq.2 j = some a ∧ (a, smE (S9.getD j (0, 0)).1 (S9.getD j (0, 0)).2) ∈ Im ∧ (S9.getD j (0, 0)).2 < 8192 := hxd.2.1
    have hP : va_P D classes ([(h, .inr (11, [.ref rc, .ref d])), (xa, .inr (9, [.int xn, .int (nI xp), .ref xs])), (xs, .inr (12, [.ref wq.1, .int (nI S9.length), .int xm])), (wq.1, .inl (cO, 10, .inr (.inr (.inr (.inr wq.2)))))] ++ (dfl cO e0 d DL.length mo dst (L1 ++ L2) ++ Q)) s.heap := hP
    have hD : va_D A ([(h, .inr (11, [.ref rc, .ref d])), (xa, .inr (9, [.int xn, .int (nI xp), .ref xs])), (xs, .inr (12, [.ref wq.1, .int (nI S9.length), .int xm])), (wq.1, .inl (cO, 10, .inr (.inr (.inr (.inr wq.2)))))] ++ (dfl cO e0 d DL.length mo dst (L1 ++ L2) ++ Q)) := hD
    refine lv_aload hx hb d_SS_addStream_80 (lv_at hl 0 rfl) ?_
    refine va_new (ci := 5) (fs := [.int 0, .int 0]) (C := R_Stream) (T := F_Stream) (N := 2) hx hb hts i_Stream t_Stream t_Stream_ok hown (hts _ wd_842) (hts _ wd_629) (hts _ wd_83) hK hP hD hS hA rfl (fs_Stream) (by show 0 + 1 ≤ 3; omega) (by show 0 + 2 ≤ 16; omega) d_SS_addStream_82 (fun q82 H hP hD hS => ?_)
    have hP := hP.swap
    have hD := hD.swap
    have hP : va_P D classes ([(h, .inr (11, [.ref rc, .ref d])), (xa, .inr (9, [.int xn, .int (nI xp), .ref xs])), (xs, .inr (12, [.ref wq.1, .int (nI S9.length), .int xm])), (wq.1, .inl (cO, 10, .inr (.inr (.inr (.inr wq.2))))), (q82, .inr (5, [.int 0, .int 0]))] ++ (dfl cO e0 d DL.length mo dst (L1 ++ L2) ++ Q)) H := hP
    have hD : va_D A ([(h, .inr (11, [.ref rc, .ref d])), (xa, .inr (9, [.int xn, .int (nI xp), .ref xs])), (xs, .inr (12, [.ref wq.1, .int (nI S9.length), .int xm])), (wq.1, .inl (cO, 10, .inr (.inr (.inr (.inr wq.2))))), (q82, .inr (5, [.int 0, .int 0]))] ++ (dfl cO e0 d DL.length mo dst (L1 ++ L2) ++ Q)) := hD
    refine lv_dup hx hb d_SS_addStream_85 rfl ?_
    refine lv_iload_n hx hb d_SS_addStream_86 rfl (lv_at hl 3 rfl) ?_
    refine lv_iload_n hx hb d_SS_addStream_87 rfl (lv_at hl 4 rfl) ?_
    have hPc := hP.sub (ws' := [(q82, .inr (5, [.int 0, .int 0]))]) [4] rfl
    have hKc := hK.sub (tys' := []) [] rfl
    have hDc := hD.sub (ws' := [(q82, .inr (5, [.int 0, .int 0]))]) [4] (by decide) rfl
    have hFc := va_free (wc := [(q82, .inr (5, [.int 0, .int 0]))]) hD hS hA [4] rfl
    refine va_callv (va_runI (As := [.int ty, .int (nI pid)]) (rest := [.ref q82, .ref xs]) ⟨hx, hb, hml, hown, hts⟩ (c_Stream_init l D H.size q82 ty (nI pid) ) (z_cI hN wd_632 wd_83 wd_928 hd_Stream_init rfl rfl ⟨Nat.le_of_ble_eq_true rfl, Nat.le_of_ble_eq_true rfl⟩ wd_631 rfl) (z_preSm hPc hKc hN hDc) rfl rfl hl.1 rfl (lv_room (Nat.le_of_ble_eq_true rfl)) d_SS_addStream_88 ⟨Nat.le_of_ble_eq_true rfl, Nat.le_of_ble_eq_true rfl⟩) hS (fun q _ h => hFc q h) hFc (fun u88 t H locs ht hvm e88 hB hz1 hk1 hS => ?_)
    obtain ⟨hP1, hK1, hD1⟩ := hB
    rw [ht] at hP1
    obtain ⟨hP, hD⟩ := va_joinQ (cx := [(q82, .inr (5, [.int 0, .int 0]))]) (wr := [(h, .inr (11, [.ref rc, .ref d])), (xa, .inr (9, [.int xn, .int (nI xp), .ref xs])), (xs, .inr (12, [.ref wq.1, .int (nI S9.length), .int xm])), (wq.1, .inl (cO, 10, .inr (.inr (.inr (.inr wq.2)))))]) (w1 := [(q82, .inr (5, [.int ty, .int (nI pid)]))]) hP hD [4] [0, 1, 2, 3] rfl rfl (by decide) (by decide) hk1 hFc hP1 hD1
    clear hk1 hP1 hD1 hFc hPc hDc hz1
    have hP : va_P D classes ([(h, .inr (11, [.ref rc, .ref d])), (xa, .inr (9, [.int xn, .int (nI xp), .ref xs])), (xs, .inr (12, [.ref wq.1, .int (nI S9.length), .int xm])), (wq.1, .inl (cO, 10, .inr (.inr (.inr (.inr wq.2))))), (q82, .inr (5, [.int ty, .int (nI pid)]))] ++ (dfl cO e0 d DL.length mo dst (L1 ++ L2) ++ Q)) H := hP
    have hD : va_D A ([(h, .inr (11, [.ref rc, .ref d])), (xa, .inr (9, [.int xn, .int (nI xp), .ref xs])), (xs, .inr (12, [.ref wq.1, .int (nI S9.length), .int xm])), (wq.1, .inl (cO, 10, .inr (.inr (.inr (.inr wq.2))))), (q82, .inr (5, [.int ty, .int (nI pid)]))] ++ (dfl cO e0 d DL.length mo dst (L1 ++ L2) ++ Q)) := hD
    have hPc := hP.sub (ws' := [(xs, .inr (12, [.ref wq.1, .int (nI S9.length), .int xm])), (wq.1, .inl (cO, 10, .inr (.inr (.inr (.inr wq.2))))), (q82, .inr (5, [.int ty, .int (nI pid)]))]) [2, 3, 4] rfl
    have hKc := hK.sub (tys' := [(cO, .object "java/lang/Object")]) [0] rfl
    have hDc := hD.sub (ws' := [(xs, .inr (12, [.ref wq.1, .int (nI S9.length), .int xm])), (wq.1, .inl (cO, 10, .inr (.inr (.inr (.inr wq.2))))), (q82, .inr (5, [.int ty, .int (nI pid)]))]) [2, 3, 4] (by decide) rfl
    have hFc := va_free (wc := [(xs, .inr (12, [.ref wq.1, .int (nI S9.length), .int xm])), (wq.1, .inl (cO, 10, .inr (.inr (.inr (.inr wq.2))))), (q82, .inr (5, [.int ty, .int (nI pid)]))]) hD hS hA [2, 3, 4] rfl
    refine va_calli (va_runV (As := [.ref q82]) (rest := []) ⟨hx, hb, hml, hown, hts⟩ (c_AL_add0 l D H.size cO xs wq.1 S9.length xm wq.2 q82 5 [.int ty, .int (nI pid)] (R_Stream, F_Stream, 2) (by omega) rfl wd_1502) (z_cV hN wd_465 wd_66 wd_918 hd_AL_add0 rfl rfl ⟨Nat.le_of_ble_eq_true rfl, Nat.le_of_ble_eq_true rfl⟩ wd_463 wd_464) (z_preVm (va_recv (ci := 12) (q0 := 2) hK hP rfl rfl) hPc hKc hN hDc) rfl rfl hl.1 rfl (lv_room (Nat.le_of_ble_eq_true rfl)) d_SS_addStream_91 ⟨Nat.le_of_ble_eq_true rfl, Nat.le_of_ble_eq_true rfl⟩) hS (fun q _ h => hFc q h) hFc (fun r91 u91 t H locs ht hvm e91 hB hz1 hk1 hS => ?_)
    obtain ⟨hP1, hK1, hD1⟩ := hB
    rw [ht] at hP1
    obtain ⟨hP, hD⟩ := va_joinQ (cx := [(xs, .inr (12, [.ref wq.1, .int (nI S9.length), .int xm])), (wq.1, .inl (cO, 10, .inr (.inr (.inr (.inr wq.2))))), (q82, .inr (5, [.int ty, .int (nI pid)]))]) (wr := [(h, .inr (11, [.ref rc, .ref d])), (xa, .inr (9, [.int xn, .int (nI xp), .ref xs]))]) (w1 := [(xs, .inr (12, [.ref wq.1, .int (nI (S9.length + 1)), .int (xm + 1)])), (wq.1, .inl (cO, 10, .inr (.inr (.inr (.inr (va_up wq.2 S9.length (some q82))))))), (q82, .inr (5, [.int ty, .int (nI pid)]))]) hP hD [2, 3, 4] [0, 1] rfl rfl (by decide) (by decide) hk1 hFc hP1 hD1
    clear hk1 hP1 hD1 hFc hPc hDc hz1
    have hP : va_P D classes ([(h, .inr (11, [.ref rc, .ref d])), (xa, .inr (9, [.int xn, .int (nI xp), .ref xs])), (xs, .inr (12, [.ref wq.1, .int (nI (S9.length + 1)), .int (xm + 1)])), (wq.1, .inl (cO, 10, .inr (.inr (.inr (.inr (va_up wq.2 S9.length (some q82))))))), (q82, .inr (5, [.int ty, .int (nI pid)]))] ++ (dfl cO e0 d DL.length mo dst (L1 ++ L2) ++ Q)) H := hP
    have hD : va_D A ([(h, .inr (11, [.ref rc, .ref d])), (xa, .inr (9, [.int xn, .int (nI xp), .ref xs])), (xs, .inr (12, [.ref wq.1, .int (nI (S9.length + 1)), .int (xm + 1)])), (wq.1, .inl (cO, 10, .inr (.inr (.inr (.inr (va_up wq.2 S9.length (some q82))))))), (q82, .inr (5, [.int ty, .int (nI pid)]))] ++ (dfl cO e0 d DL.length mo dst (L1 ++ L2) ++ Q)) := hD
    refine lv_pop hx hb d_SS_addStream_94 rfl ?_
    refine lv_aload hx hb d_SS_addStream_95 (lv_at hl 0 rfl) ?_
    have hPc := hP.sub (ws' := [(xs, .inr (12, [.ref wq.1, .int (nI (S9.length + 1)), .int (xm + 1)]))]) [2] rfl
    have hKc := hK.sub (tys' := []) [] rfl
    refine z_ci (va_runV (As := []) (rest := []) ⟨hx, hb, hml, hown, hts⟩ (c_AL_size l D xs wq.1 (nI (S9.length + 1)) (xm + 1) ) (z_cV hN wd_305 wd_66 wd_820 hd_AL_size rfl rfl ⟨Nat.le_of_ble_eq_true rfl, Nat.le_of_ble_eq_true rfl⟩ wd_303 wd_304) (z_preV (va_recv (ci := 12) (q0 := 2) hK hP rfl rfl) hPc hKc hN) rfl rfl hl.1 rfl (lv_room (Nat.le_of_ble_eq_true rfl)) d_SS_addStream_97 ⟨Nat.le_of_ble_eq_true rfl, Nat.le_of_ble_eq_true rfl⟩) (fun r97 e97 => ?_)
    refine z_topi (w := (nI (S9.length + 1))) e97 ?_
    have hP := hP.part (cx := [(h, .inr (11, [.ref rc, .ref d])), (q82, .inr (5, [.int ty, .int (nI pid)])), (xa, .inr (9, [.int xn, .int (nI xp), .ref xs])), (xs, .inr (12, [.ref wq.1, .int (nI (S9.length + 1)), .int (xm + 1)])), (wq.1, .inl (cO, 10, .inr (.inr (.inr (.inr (va_up wq.2 S9.length (some q82)))))))]) [0, 4, 1, 2, 3] rfl
    have hD := hD.part (cx := [(h, .inr (11, [.ref rc, .ref d])), (q82, .inr (5, [.int ty, .int (nI pid)])), (xa, .inr (9, [.int xn, .int (nI xp), .ref xs])), (xs, .inr (12, [.ref wq.1, .int (nI (S9.length + 1)), .int (xm + 1)])), (wq.1, .inl (cO, 10, .inr (.inr (.inr (.inr (va_up wq.2 S9.length (some q82)))))))]) [0, 4, 1, 2, 3] (by decide) rfl
    have hnl : S9.length + 1 = (S9 ++ [(ty, pid)]).length := by rw [List.length_append, List.length_singleton]
    have hP : va_P D classes ([(h, .inr (11, [.ref rc, .ref d])), (q82, .inr (5, [.int ty, .int (nI pid)]))] ++ (drc cO e0 (xa, xn, xp, xs, S9 ++ [(ty, pid)], xm + 1, some (wq.1, va_up wq.2 S9.length (some q82))) ++ (dfl cO e0 d DL.length mo dst (L1 ++ L2) ++ Q))) H := by
      unfold drc
      rw [show ((xa, xn, xp, xs, S9 ++ [(ty, pid)], xm + 1, some (wq.1, va_up wq.2 S9.length (some q82))) : DR9).2.2.2.2.1.length = S9.length + 1 from hnl.symm]
      exact hP
    have hP := z_Pp (df_foc (X := [(h, .inr (11, [.ref rc, .ref d])), (q82, .inr (5, [.int ty, .int (nI pid)]))]) (A := L1) (B := L2) (x := (xa, xn, xp, xs, S9 ++ [(ty, pid)], xm + 1, some (wq.1, va_up wq.2 S9.length (some q82)))) (n := DL.length)).symm hP
    have hP := z_Pp (as_sw (X := [(h, .inr (11, [.ref rc, .ref d]))])) (show va_P D classes (([(h, .inr (11, [.ref rc, .ref d]))] ++ [(q82, smE ty pid)]) ++ (dfl cO e0 d DL.length mo dst (L1 ++ (xa, xn, xp, xs, S9 ++ [(ty, pid)], xm + 1, some (wq.1, va_up wq.2 S9.length (some q82))) :: L2) ++ Q)) H from hP)
    have hD : va_D A ([(h, .inr (11, [.ref rc, .ref d])), (q82, .inr (5, [.int ty, .int (nI pid)]))] ++ (drc cO e0 (xa, xn, xp, xs, S9 ++ [(ty, pid)], xm + 1, some (wq.1, va_up wq.2 S9.length (some q82))) ++ (dfl cO e0 d DL.length mo dst (L1 ++ L2) ++ Q))) := by
      unfold drc
      rw [show ((xa, xn, xp, xs, S9 ++ [(ty, pid)], xm + 1, some (wq.1, va_up wq.2 S9.length (some q82))) : DR9).2.2.2.2.1.length = S9.length + 1 from hnl.symm]
      exact hD
    have hD := z_Dp (df_foc (X := [(h, .inr (11, [.ref rc, .ref d])), (q82, .inr (5, [.int ty, .int (nI pid)]))]) (A := L1) (B := L2) (x := (xa, xn, xp, xs, S9 ++ [(ty, pid)], xm + 1, some (wq.1, va_up wq.2 S9.length (some q82)))) (n := DL.length)).symm hD
    have hD := z_Dp (as_sw (X := [(h, .inr (11, [.ref rc, .ref d]))])) (show va_D A (([(h, .inr (11, [.ref rc, .ref d]))] ++ [(q82, smE ty pid)]) ++ (dfl cO e0 d DL.length mo dst (L1 ++ (xa, xn, xp, xs, S9 ++ [(ty, pid)], xm + 1, some (wq.1, va_up wq.2 S9.length (some q82))) :: L2) ++ Q)) from hD)
    have hset : DL.set k (xa, xn, xp, xs, S9 ++ [(ty, pid)], xm + 1, some (wq.1, va_up wq.2 S9.length (some q82))) = L1 ++ (xa, xn, xp, xs, S9 ++ [(ty, pid)], xm + 1, some (wq.1, va_up wq.2 S9.length (some q82))) :: L2 := by rw [hL1, hL2, ← d_set (x := (xa, xn, xp, xs, S9, xm, some wq)) hk, ← hL1, ← hL2, ← hsp]
    rw [← hset] at hP hD
    have hxN : ((xa, xn, xp, xs, S9 ++ [(ty, pid)], xm + 1, some (wq.1, va_up wq.2 S9.length (some q82))) : DR9) = ((DL.getD k dr0).1, (DL.getD k dr0).2.1, (DL.getD k dr0).2.2.1, (DL.getD k dr0).2.2.2.1, (DL.getD k dr0).2.2.2.2.1 ++ [(ty, pid)], (DL.getD k dr0).2.2.2.2.2.1 + 1, some (wq.1, va_up wq.2 S9.length (some q82))) := by rw [← hxe]
    rw [hxN] at hP hD
    have hP : va_P D classes ([(h, .inr (11, [.ref rc, .ref d]))] ++ (dfl cO e0 d DL.length mo dst (DL.set k ((DL.getD k dr0).1, (DL.getD k dr0).2.1, (DL.getD k dr0).2.2.1, (DL.getD k dr0).2.2.2.1, (DL.getD k dr0).2.2.2.2.1 ++ [(ty, pid)], (DL.getD k dr0).2.2.2.2.2.1 + 1, some (wq.1, va_up wq.2 S9.length (some q82)))) ++ ((q82, smE ty pid) :: Q))) H := hP
    have hD : va_D A ([(h, .inr (11, [.ref rc, .ref d]))] ++ (dfl cO e0 d DL.length mo dst (DL.set k ((DL.getD k dr0).1, (DL.getD k dr0).2.1, (DL.getD k dr0).2.2.1, (DL.getD k dr0).2.2.2.1, (DL.getD k dr0).2.2.2.2.1 ++ [(ty, pid)], (DL.getD k dr0).2.2.2.2.2.1 + 1, some (wq.1, va_up wq.2 S9.length (some q82)))) ++ ((q82, smE ty pid) :: Q))) := hD
    have hP9 := hP.part (cx := [(h, .inr (11, [.ref rc, .ref d]))]) [0] rfl
    have hD9 := hD.part (cx := [(h, .inr (11, [.ref rc, .ref d]))]) [0] (by decide) rfl
    have hK9 := hK.sub (tys' := [(cO, .object "java/lang/Object")]) [0] rfl
    refine W.widen (k := 3) (n := 16) (by omega) (by omega) ?_
    exact W.mono MQ.toT (W.iret (v := (nI (S9.length + 1))) hx hb hr (fun t ht hW => Or.inl ⟨_, (some (wq.1, va_up wq.2 S9.length (some q82)), q82), rfl, ⟨(by rw [← hxe]; try rfl), (by show dtk _ dst (DL.set k ((DL.getD k dr0).1, (DL.getD k dr0).2.1, (DL.getD k dr0).2.2.1, (DL.getD k dr0).2.2.2.1, (DL.getD k dr0).2.2.2.2.1 ++ [(ty, pid)], (DL.getD k dr0).2.2.2.2.2.1 + 1, some (wq.1, va_up wq.2 S9.length (some q82)))); rw [← hxN]; exact dtk_set hdt hk (by rw [← hxe]) (fun y hy => List.mem_cons_of_mem _ hy) ⟨hxd.1, sok_add (x := (ty, pid)) hsk9 hpid, (by show (S9 ++ [(ty, pid)]).length ≤ 4; rw [List.length_append, List.length_singleton]; have : S9.length < 4 := hlt9; omega)⟩)⟩, ⟨by rw [ht]; exact hP9, va_K.moved hW.alike hK9, hD9⟩, hS.F ht⟩) hS.2.2 d_SS_addStream_100)
