theorem d_SS_writeOrder_59 : decode b_SS_writeOrder 59 = .ok (.iconst (-1), 1) := by decide +kernel
theorem d_SS_writeOrder_60 : decode b_SS_writeOrder 60 = .ok (.ireturn, 1) := by decide +kernel
theorem d_SS_writePiece_78 : decode b_SS_writePiece 78 = .ok (.iconst (-1), 1) := by decide +kernel
theorem d_SS_writePiece_79 : decode b_SS_writePiece 79 = .ok (.ireturn, 1) := by decide +kernel
theorem d_SS_writeTables_36 : decode b_SS_writeTables 36 = .ok (.iconst (-1), 1) := by decide +kernel
theorem d_SS_writeTables_37 : decode b_SS_writeTables 37 = .ok (.ireturn, 1) := by decide +kernel
theorem rm_no {n k : Nat} (h : 9400 < n + 188 * k) : ¬ (if 9400 < n + 188 * k then (1 : Int32) else 0) = 0 := by
  rw [if_pos h]; decide

set_option maxHeartbeats 4000000 in
set_option maxRecDepth 100000 in
theorem c_SS_writePiece_no (l : Launch) (D : va_G) (hfl : l.stackTraces = false) (B0 : State) (hG : zG B0) (sz : Nat) (h rv d tp ln tb ct0 dp a : Nat) (cB : ClassId) (T : List Int32) (f : Nat → Int32) (i9 n : Nat) (t0 : Int64) (sd fl : Int32) (hT9 : T.length ≤ 9400) (hi9 : i9 ≤ 2097151) (hn4 : n ≤ 4000) (ht0 : t0 < 8589934592) (hT : 9400 < T.length + 188 * ((9 + tx t0 + n + 183) / 184)) : MetT l y_SS_writePiece [Cond.code y_SS_writePiece b_SS_writePiece 9 (some .int)] ({ frames := 1, cells := 2, slots := 14, locals := 21 }) (zMo [.ref h, .int (nI i9), .long t0, .int (nI n), .int sd, .int fl] D [(h, .inr (11, [.ref rv, .ref d])), (rv, .inr (4, [.ref tp, .ref ln, .ref tb, .ref ct0, .ref dp])), (tp, .inr (0, [.ref a, .int (nI T.length)])), (a, .inl (cB, 9400, .inl f))] [(cB, .byte)] sz B0) (zQi (fun r0 (_ : Unit) => r0 = -1) (fun (_u : Unit) t => zW D (va_A [(h, .inr (11, [.ref rv, .ref d])), (rv, .inr (4, [.ref tp, .ref ln, .ref tb, .ref ct0, .ref dp])), (tp, .inr (0, [.ref a, .int (nI T.length)])), (a, .inl (cB, 9400, .inl f))] sz) [(h, .inr (11, [.ref rv, .ref d])), (rv, .inr (4, [.ref tp, .ref ln, .ref tb, .ref ct0, .ref dp])), (tp, .inr (0, [.ref a, .int (nI T.length)])), (a, .inl (cB, 9400, .inl f))] [(cB, .byte)] t) (va_A [(h, .inr (11, [.ref rv, .ref d])), (rv, .inr (4, [.ref tp, .ref ln, .ref tb, .ref ct0, .ref dp])), (tp, .inr (0, [.ref a, .int (nI T.length)])), (a, .inl (cB, 9400, .inl f))] sz) (fun _ => False)) 2 14 (va_A [(h, .inr (11, [.ref rv, .ref d])), (rv, .inr (4, [.ref tp, .ref ln, .ref tb, .ref ct0, .ref dp])), (tp, .inr (0, [.ref a, .int (nI T.length)])), (a, .inl (cB, 9400, .inl f))] sz) := by
  refine MetT.ofW (cc := b_SS_writePiece) (maxL := 9) (ret := (some .int)) (by decide) rfl ?_
  intro p e s m args below meth cd s₁ Bd hml hem hv
  obtain ⟨rfl, hsz, hP, hK, hN, hD0, hO⟩ := hv
  have hx := Bd.exec
  have hb := Bd.bytes
  have hr := Bd.returns
  have hts := hN.use (a := ([.ref h, .int (nI i9), .long t0, .int (nI n), .int sd, .int fl]).toArray)
  have hown : s.vm.findClass R_SS = some m.cls := findClass_of_methodNamed Bd.named
  have hlocks := Bd.notSynchronized
  subst hsz
  have hD := hD0.self (sz := s.heap.size)
  have hAO := z_AO hD0 hO
  clear hD0
  have hA : ∀ q : Nat, s.heap.size ≤ q → va_A [(h, .inr (11, [.ref rv, .ref d])), (rv, .inr (4, [.ref tp, .ref ln, .ref tb, .ref ct0, .ref dp])), (tp, .inr (0, [.ref a, .int (nI T.length)])), (a, .inl (cB, 9400, .inl f))] s.heap.size q := fun q h => Or.inr h
  have hS : va_S (va_A [(h, .inr (11, [.ref rv, .ref d])), (rv, .inr (4, [.ref tp, .ref ln, .ref tb, .ref ct0, .ref dp])), (tp, .inr (0, [.ref a, .int (nI T.length)])), (a, .inl (cB, 9400, .inl f))] s.heap.size) s.heap s.heap [] := va_S.rf
  generalize hAe : va_A [(h, .inr (11, [.ref rv, .ref d])), (rv, .inr (4, [.ref tp, .ref ln, .ref tb, .ref ct0, .ref dp])), (tp, .inr (0, [.ref a, .int (nI T.length)])), (a, .inl (cB, 9400, .inl f))] s.heap.size = A at hD hA hS hAO ⊢
  have hP : va_P D classes [(h, .inr (11, [.ref rv, .ref d])), (rv, .inr (4, [.ref tp, .ref ln, .ref tb, .ref ct0, .ref dp])), (tp, .inr (0, [.ref a, .int (nI T.length)])), (a, .inl (cB, 9400, .inl f))] s.heap := hP
  have hl := lv_entry ([.ref h, .int (nI i9), .long t0, .int (nI n), .int sd, .int fl]) (n := 9) (Nat.le_of_ble_eq_true rfl)
  rw [lg_entry_eq]
  generalize (lg_sl ([.ref h, .int (nI i9), .long t0, .int (nI n), .int sd, .int fl]) ++ List.replicate (9 - (lg_sl ([.ref h, .int (nI i9), .long t0, .int (nI n), .int sd, .int fl])).length) Slot.unset).toArray = ls at hl ⊢
  have hl : lv_has ls 9 [(0, .ref h), (1, .int (nI i9)), (2, .long t0), (4, .int (nI n)), (5, .int sd), (6, .int fl)] := hl
  have htx := tx_le t0
  have htot : 9 + tx t0 + n ≤ 4100 := by omega
  refine lv_iload_n hx hb d_SS_writePiece_0 rfl (lv_at hl 1 rfl) ?_
  refine lv_if_lt (tgt := 31) hx hb d_SS_writePiece_1 rfl (fun h9 => absurd h9 (nI_pos (by omega))) (fun h1 => ?_)
  refine lv_iload_n hx hb d_SS_writePiece_4 rfl (lv_at hl 1 rfl) ?_
  refine lv_ldc hx hb hown (hts _ wd_1037) d_SS_writePiece_5 ?_
  refine lv_icmp_gt (tgt := 31) hx hb d_SS_writePiece_7 rfl (fun h9 => absurd (nI_le (a := i9) (b := 2097151) hi9 (by decide)) (Int32.not_le.mpr h9)) (fun h7 => ?_)
  refine lv_iload hx hb d_SS_writePiece_10 (lv_at hl 3 rfl) ?_
  refine lv_if_lt (tgt := 31) hx hb d_SS_writePiece_12 rfl (fun h9 => absurd h9 (nI_pos (by omega))) (fun h12 => ?_)
  refine lv_iload hx hb d_SS_writePiece_15 (lv_at hl 3 rfl) ?_
  refine lv_sipush (v := 4000) hx hb d_SS_writePiece_17 (by decide) ?_
  refine lv_icmp_gt (tgt := 31) hx hb d_SS_writePiece_20 rfl (fun h9 => absurd (nI_le (a := n) (b := 4000) hn4 (by decide)) (Int32.not_le.mpr h9)) (fun h20 => ?_)
  refine lv_lload_n hx hb d_SS_writePiece_23 rfl (lv_at hl 2 rfl) ?_
  refine lv_ldc2 hx hb hown (hts _ wd_1038) d_SS_writePiece_24 ?_
  refine W.lcmp hx hb d_SS_writePiece_27 ?_
  refine lv_if_lt (tgt := 41) hx hb d_SS_writePiece_28 rfl (fun h28 => ?_) (fun h9 => absurd ((lg_cmp_lt _ _).mpr ht0) h9)
  refine lv_lload_n hx hb d_SS_writePiece_41 rfl (lv_at hl 2 rfl) ?_
  refine lv_lconst (v := 0) hx hb d_SS_writePiece_42 (by decide) ?_
  refine W.lcmp hx hb d_SS_writePiece_43 ?_
  suffices key44 : W p l e ({ frames := 1, cells := 2, slots := 14, locals := 21 }) s m ([.ref h, .int (nI i9), .long t0, .int (nI n), .int sd, .int fl]).toArray below meth cd s.heap [] 0 0 (MQT below (zQi (fun r0 (_ : Unit) => r0 = -1) (fun (_u : Unit) t => zW D (A) [(h, .inr (11, [.ref rv, .ref d])), (rv, .inr (4, [.ref tp, .ref ln, .ref tb, .ref ct0, .ref dp])), (tp, .inr (0, [.ref a, .int (nI T.length)])), (a, .inl (cB, 9400, .inl f))] [(cB, .byte)] t) (A) (fun _ => False)) ([.ref h, .int (nI i9), .long t0, .int (nI n), .int sd, .int fl]).toArray s 2 14 (A)) (F0 m 54 ls [.int (nI (9 + tx t0))]) by
    refine lv_if_ge (tgt := 52) hx hb d_SS_writePiece_44 rfl (fun h44 => ?_) (fun h44 => ?_)
    · refine lv_bipush (v := 14) hx hb d_SS_writePiece_52 (by decide) ?_
      refine z_topi (w := (nI (9 + tx t0))) (by unfold tx; rw [if_neg (Int64.not_lt.mpr ((lg_cmp_ge _ _).mp h44))]; rfl) ?_
      exact key44
    · refine lv_bipush (v := 9) hx hb d_SS_writePiece_47 (by decide) ?_
      refine lv_goto (tgt := 54) hx hb d_SS_writePiece_49 rfl ?_
      refine z_topi (w := (nI (9 + tx t0))) (by unfold tx; rw [if_pos (Int64.not_le.mp (mt (lg_cmp_ge _ _).mpr h44))]; rfl) ?_
      exact key44
  refine lv_istore (lv' := [(7, .int (nI (9 + tx t0))), (0, .ref h), (1, .int (nI i9)), (2, .long t0), (4, .int (nI n)), (5, .int sd), (6, .int fl)]) hx hb d_SS_writePiece_54 hl (by decide) rfl (fun ls hl => ?_)
  refine lv_aload_n hx hb d_SS_writePiece_56 rfl (lv_at hl 1 rfl) ?_
  refine lv_iload hx hb d_SS_writePiece_57 (lv_at hl 0 rfl) ?_
  refine lv_iload hx hb d_SS_writePiece_59 (lv_at hl 4 rfl) ?_
  refine lv_iadd hx hb d_SS_writePiece_61 ?_
  refine z_topi (w := nI (9 + tx t0 + n)) (nI_add _ _) ?_
  refine lv_sipush (v := 184) hx hb d_SS_writePiece_62 (by decide) ?_
  refine lv_iadd hx hb d_SS_writePiece_65 ?_
  refine z_topi (w := nI (9 + tx t0 + n + 184)) (nI_add _ 184) ?_
  refine lv_iconst (v := 1) hx hb d_SS_writePiece_66 (by decide) ?_
  refine lv_isub hx hb d_SS_writePiece_67 ?_
  refine z_topi (w := nI (9 + tx t0 + n + 184 - 1)) (pk_sub (b := 1) (by omega)) ?_
  refine lv_sipush (v := 184) hx hb d_SS_writePiece_68 (by decide) ?_
  refine lv_idiv hx hb d_SS_writePiece_71 (by decide) ?_
  refine z_topi (w := nI ((9 + tx t0 + n + 184 - 1) / 184)) (pk_div (d := 184) (by omega) (by omega) (by omega)) ?_
  have hPc := hP.sub (ws' := [(h, .inr (11, [.ref rv, .ref d])), (rv, .inr (4, [.ref tp, .ref ln, .ref tb, .ref ct0, .ref dp])), (tp, .inr (0, [.ref a, .int (nI T.length)])), (a, .inl (cB, 9400, .inl f))]) [0, 1, 2, 3] rfl
  have hKc := hK.sub (tys' := [(cB, .byte)]) [0] rfl
  refine z_ci (va_runV (As := [.int (nI ((9 + tx t0 + n + 184 - 1) / 184))]) (rest := []) ⟨hx, hb, hml, hown, hts⟩ (c_SS_hasNoRoom l D cB h d rv ln tb ct0 dp tp a T.length f ((9 + tx t0 + n + 184 - 1) / 184) (by omega) (by omega)) (z_cV hN wd_940 wd_59 wd_937 hd_SS_hasNoRoom rfl rfl ⟨Nat.le_of_ble_eq_true rfl, Nat.le_of_ble_eq_true rfl⟩ wd_939 wd_20) (z_preV (va_recv (ci := 11) (q0 := 0) hK hP rfl rfl) hPc hKc hN) rfl rfl hl.1 rfl (lv_room (Nat.le_of_ble_eq_true rfl)) d_SS_writePiece_72 ⟨Nat.le_of_ble_eq_true rfl, Nat.le_of_ble_eq_true rfl⟩) (fun r72 e72 => ?_)
  subst e72
  refine lv_if_eq (tgt := 80) hx hb d_SS_writePiece_75 rfl (fun h9 => absurd h9 (rm_no (by rw [show 9 + tx t0 + n + 184 - 1 = 9 + tx t0 + n + 183 by omega]; exact hT))) (fun h75 => ?_)
  refine lv_iconst (v := (-1)) hx hb d_SS_writePiece_78 (by decide) ?_
  have hP9 := hP.sub (ws' := [(h, .inr (11, [.ref rv, .ref d])), (rv, .inr (4, [.ref tp, .ref ln, .ref tb, .ref ct0, .ref dp])), (tp, .inr (0, [.ref a, .int (nI T.length)])), (a, .inl (cB, 9400, .inl f))]) [0, 1, 2, 3] rfl
  have hD9 := hD.sub (ws' := [(h, .inr (11, [.ref rv, .ref d])), (rv, .inr (4, [.ref tp, .ref ln, .ref tb, .ref ct0, .ref dp])), (tp, .inr (0, [.ref a, .int (nI T.length)])), (a, .inl (cB, 9400, .inl f))]) [0, 1, 2, 3] (by decide) rfl
  have hK9 := hK.sub (tys' := [(cB, .byte)]) [0] rfl
  refine W.widen (k := 2) (n := 14) (by omega) (by omega) ?_
  exact W.mono MQ.toT (W.iret (v := (-1)) hx hb hr (fun t ht hW => Or.inl ⟨_, (), rfl, rfl, ⟨by rw [ht]; exact hP9, va_K.moved hW.alike hK9, hD9⟩, hS.F ht⟩) hS.2.2 d_SS_writePiece_79)
set_option maxHeartbeats 4000000 in
set_option maxRecDepth 100000 in
theorem c_SS_writeOrder_no (l : Launch) (D : va_G) (hfl : l.stackTraces = false) (B0 : State) (hG : zG B0) (sz : Nat) (h rv d tp ln tb ct0 dp a : Nat) (cB : ClassId) (T : List Int32) (f : Nat → Int32) (pid : Nat) (nm how : Int32) (t0 l9 : Int64) (hT9 : T.length ≤ 9400) (hpid : pid < 8192) (hh1 : ¬ how < 0) (hh2 : ¬ 63 < how) (ht1 : ¬ t0 < 0) (ht2 : t0 < 8589934592) (hl9 : ¬ l9 < 0) (hT : 9400 < T.length + 188) : MetT l y_SS_writeOrder [Cond.code y_SS_writeOrder b_SS_writeOrder 9 (some .int)] ({ frames := 1, cells := 2, slots := 14, locals := 21 }) (zMo [.ref h, .int (nI pid), .int nm, .int how, .long t0, .long l9] D [(h, .inr (11, [.ref rv, .ref d])), (rv, .inr (4, [.ref tp, .ref ln, .ref tb, .ref ct0, .ref dp])), (tp, .inr (0, [.ref a, .int (nI T.length)])), (a, .inl (cB, 9400, .inl f))] [(cB, .byte)] sz B0) (zQi (fun r0 (_ : Unit) => r0 = -1) (fun (_u : Unit) t => zW D (va_A [(h, .inr (11, [.ref rv, .ref d])), (rv, .inr (4, [.ref tp, .ref ln, .ref tb, .ref ct0, .ref dp])), (tp, .inr (0, [.ref a, .int (nI T.length)])), (a, .inl (cB, 9400, .inl f))] sz) [(h, .inr (11, [.ref rv, .ref d])), (rv, .inr (4, [.ref tp, .ref ln, .ref tb, .ref ct0, .ref dp])), (tp, .inr (0, [.ref a, .int (nI T.length)])), (a, .inl (cB, 9400, .inl f))] [(cB, .byte)] t) (va_A [(h, .inr (11, [.ref rv, .ref d])), (rv, .inr (4, [.ref tp, .ref ln, .ref tb, .ref ct0, .ref dp])), (tp, .inr (0, [.ref a, .int (nI T.length)])), (a, .inl (cB, 9400, .inl f))] sz) (fun _ => False)) 2 14 (va_A [(h, .inr (11, [.ref rv, .ref d])), (rv, .inr (4, [.ref tp, .ref ln, .ref tb, .ref ct0, .ref dp])), (tp, .inr (0, [.ref a, .int (nI T.length)])), (a, .inl (cB, 9400, .inl f))] sz) := by
  refine MetT.ofW (cc := b_SS_writeOrder) (maxL := 9) (ret := (some .int)) (by decide) rfl ?_
  intro p e s m args below meth cd s₁ Bd hml hem hv
  obtain ⟨rfl, hsz, hP, hK, hN, hD0, hO⟩ := hv
  have hx := Bd.exec
  have hb := Bd.bytes
  have hr := Bd.returns
  have hts := hN.use (a := ([.ref h, .int (nI pid), .int nm, .int how, .long t0, .long l9]).toArray)
  have hown : s.vm.findClass R_SS = some m.cls := findClass_of_methodNamed Bd.named
  have hlocks := Bd.notSynchronized
  subst hsz
  have hD := hD0.self (sz := s.heap.size)
  have hAO := z_AO hD0 hO
  clear hD0
  have hA : ∀ q : Nat, s.heap.size ≤ q → va_A [(h, .inr (11, [.ref rv, .ref d])), (rv, .inr (4, [.ref tp, .ref ln, .ref tb, .ref ct0, .ref dp])), (tp, .inr (0, [.ref a, .int (nI T.length)])), (a, .inl (cB, 9400, .inl f))] s.heap.size q := fun q h => Or.inr h
  have hS : va_S (va_A [(h, .inr (11, [.ref rv, .ref d])), (rv, .inr (4, [.ref tp, .ref ln, .ref tb, .ref ct0, .ref dp])), (tp, .inr (0, [.ref a, .int (nI T.length)])), (a, .inl (cB, 9400, .inl f))] s.heap.size) s.heap s.heap [] := va_S.rf
  generalize hAe : va_A [(h, .inr (11, [.ref rv, .ref d])), (rv, .inr (4, [.ref tp, .ref ln, .ref tb, .ref ct0, .ref dp])), (tp, .inr (0, [.ref a, .int (nI T.length)])), (a, .inl (cB, 9400, .inl f))] s.heap.size = A at hD hA hS hAO ⊢
  have hP : va_P D classes [(h, .inr (11, [.ref rv, .ref d])), (rv, .inr (4, [.ref tp, .ref ln, .ref tb, .ref ct0, .ref dp])), (tp, .inr (0, [.ref a, .int (nI T.length)])), (a, .inl (cB, 9400, .inl f))] s.heap := hP
  have hl := lv_entry ([.ref h, .int (nI pid), .int nm, .int how, .long t0, .long l9]) (n := 9) (Nat.le_of_ble_eq_true rfl)
  rw [lg_entry_eq]
  generalize (lg_sl ([.ref h, .int (nI pid), .int nm, .int how, .long t0, .long l9]) ++ List.replicate (9 - (lg_sl ([.ref h, .int (nI pid), .int nm, .int how, .long t0, .long l9])).length) Slot.unset).toArray = ls at hl ⊢
  have hl : lv_has ls 9 [(0, .ref h), (1, .int (nI pid)), (2, .int nm), (3, .int how), (4, .long t0), (6, .long l9)] := hl
  refine lv_iload_n hx hb d_SS_writeOrder_0 rfl (lv_at hl 1 rfl) ?_
  have hPc := hP.sub (ws' := []) [] rfl
  have hKc := hK.sub (tys' := []) [] rfl
  refine z_ci (va_runS (As := [.int (nI pid)]) (rest := []) ⟨hx, hb, hml, hown, hts⟩ (c_SS_isNoPid l D (nI pid) ) (z_cS hN wd_883 wd_59 wd_881 hd_SS_isNoPid rfl rfl ⟨Nat.le_of_ble_eq_true rfl, Nat.le_of_ble_eq_true rfl⟩ wd_882) (z_preS hPc hKc hN) rfl rfl hl.1 rfl (lv_room (Nat.le_of_ble_eq_true rfl)) d_SS_writeOrder_1 ⟨Nat.le_of_ble_eq_true rfl, Nat.le_of_ble_eq_true rfl⟩) (fun r1 e1 => ?_)
  subst e1
  refine lv_if_ne (tgt := 40) hx hb d_SS_writeOrder_4 rfl (fun h9 => absurd (if_neg (fun z => z.elim (nI_pos (by omega)) (Int32.not_lt.mpr (nI_le (a := pid) (b := 8191) (by omega) (by decide))))) h9) (fun h4 => ?_)
  refine lv_iload_n hx hb d_SS_writeOrder_7 rfl (lv_at hl 3 rfl) ?_
  refine lv_if_lt (tgt := 40) hx hb d_SS_writeOrder_8 rfl (fun h9 => absurd h9 hh1) (fun h8 => ?_)
  refine lv_iload_n hx hb d_SS_writeOrder_11 rfl (lv_at hl 3 rfl) ?_
  refine lv_bipush (v := 63) hx hb d_SS_writeOrder_12 (by decide) ?_
  refine lv_icmp_gt (tgt := 40) hx hb d_SS_writeOrder_14 rfl (fun h9 => absurd h9 hh2) (fun h14 => ?_)
  refine lv_lload hx hb d_SS_writeOrder_17 (lv_at hl 4 rfl) ?_
  refine lv_lconst (v := 0) hx hb d_SS_writeOrder_19 (by decide) ?_
  refine W.lcmp hx hb d_SS_writeOrder_20 ?_
  refine lv_if_lt (tgt := 40) hx hb d_SS_writeOrder_21 rfl (fun h9 => absurd ((lg_cmp_lt _ _).mp h9) ht1) (fun h21 => ?_)
  refine lv_lload hx hb d_SS_writeOrder_24 (lv_at hl 4 rfl) ?_
  refine lv_ldc2 hx hb hown (hts _ wd_1038) d_SS_writeOrder_26 ?_
  refine W.lcmp hx hb d_SS_writeOrder_29 ?_
  refine lv_if_ge (tgt := 40) hx hb d_SS_writeOrder_30 rfl (fun h9 => absurd ht2 (Int64.not_lt.mpr ((lg_cmp_ge _ _).mp h9))) (fun h30 => ?_)
  refine lv_lload hx hb d_SS_writeOrder_33 (lv_at hl 5 rfl) ?_
  refine lv_lconst (v := 0) hx hb d_SS_writeOrder_35 (by decide) ?_
  refine W.lcmp hx hb d_SS_writeOrder_36 ?_
  refine lv_if_ge (tgt := 51) hx hb d_SS_writeOrder_37 rfl (fun h37 => ?_) (fun h9 => absurd ((lg_cmp_ge _ _).mpr (Int64.not_lt.mp hl9)) h9)
  refine lv_aload_n hx hb d_SS_writeOrder_51 rfl (lv_at hl 0 rfl) ?_
  refine lv_iconst (v := 1) hx hb d_SS_writeOrder_52 (by decide) ?_
  have hPc := hP.sub (ws' := [(h, .inr (11, [.ref rv, .ref d])), (rv, .inr (4, [.ref tp, .ref ln, .ref tb, .ref ct0, .ref dp])), (tp, .inr (0, [.ref a, .int (nI T.length)])), (a, .inl (cB, 9400, .inl f))]) [0, 1, 2, 3] rfl
  have hKc := hK.sub (tys' := [(cB, .byte)]) [0] rfl
  refine z_ci (va_runV (As := [.int (nI 1)]) (rest := []) ⟨hx, hb, hml, hown, hts⟩ (c_SS_hasNoRoom l D cB h d rv ln tb ct0 dp tp a T.length f 1 (by omega) (by omega)) (z_cV hN wd_940 wd_59 wd_937 hd_SS_hasNoRoom rfl rfl ⟨Nat.le_of_ble_eq_true rfl, Nat.le_of_ble_eq_true rfl⟩ wd_939 wd_20) (z_preV (va_recv (ci := 11) (q0 := 0) hK hP rfl rfl) hPc hKc hN) rfl rfl hl.1 rfl (lv_room (Nat.le_of_ble_eq_true rfl)) d_SS_writeOrder_53 ⟨Nat.le_of_ble_eq_true rfl, Nat.le_of_ble_eq_true rfl⟩) (fun r53 e53 => ?_)
  subst e53
  refine lv_if_eq (tgt := 61) hx hb d_SS_writeOrder_56 rfl (fun h9 => absurd h9 (rm_no (by omega))) (fun h56 => ?_)
  refine lv_iconst (v := (-1)) hx hb d_SS_writeOrder_59 (by decide) ?_
  have hP9 := hP.sub (ws' := [(h, .inr (11, [.ref rv, .ref d])), (rv, .inr (4, [.ref tp, .ref ln, .ref tb, .ref ct0, .ref dp])), (tp, .inr (0, [.ref a, .int (nI T.length)])), (a, .inl (cB, 9400, .inl f))]) [0, 1, 2, 3] rfl
  have hD9 := hD.sub (ws' := [(h, .inr (11, [.ref rv, .ref d])), (rv, .inr (4, [.ref tp, .ref ln, .ref tb, .ref ct0, .ref dp])), (tp, .inr (0, [.ref a, .int (nI T.length)])), (a, .inl (cB, 9400, .inl f))]) [0, 1, 2, 3] (by decide) rfl
  have hK9 := hK.sub (tys' := [(cB, .byte)]) [0] rfl
  refine W.widen (k := 2) (n := 14) (by omega) (by omega) ?_
  exact W.mono MQ.toT (W.iret (v := (-1)) hx hb hr (fun t ht hW => Or.inl ⟨_, (), rfl, rfl, ⟨by rw [ht]; exact hP9, va_K.moved hW.alike hK9, hD9⟩, hS.F ht⟩) hS.2.2 d_SS_writeOrder_60)
set_option maxHeartbeats 4000000 in
set_option maxRecDepth 100000 in
theorem c_SS_writeTables_no (l : Launch) (D : va_G) (hfl : l.stackTraces = false) (B0 : State) (hG : zG B0) (sz : Nat) (h rv d tp ln tb ct0 dp a : Nat) (cB : ClassId) (T : List Int32) (f : Nat → Int32) (e0 : Nat) (cO : ClassId) (mo : Int32) (dst : Option (Nat × (Nat → Option Nat))) (DL : List DR9) (Q : va_W) (ve : Int32) (hT9 : T.length ≤ 9400) (hd4 : DL.length ≤ 4) (hv1 : ¬ ve < 0) (hv2 : ¬ 31 < ve) (hT : 9400 < T.length + 188 * (1 + DL.length)) : MetT l y_SS_writeTables [Cond.code y_SS_writeTables b_SS_writeTables 4 (some .int)] ({ frames := 1, cells := 10, slots := 70, locals := 21 }) (zMo [.ref h, .int ve] D ([(h, .inr (11, [.ref rv, .ref d])), (rv, .inr (4, [.ref tp, .ref ln, .ref tb, .ref ct0, .ref dp])), (tp, .inr (0, [.ref a, .int (nI T.length)])), (a, .inl (cB, 9400, .inl f))] ++ (dfl cO e0 d DL.length mo dst DL ++ Q)) [(cB, .byte)] sz B0) (zQi (fun r0 (_ : Unit) => r0 = -1) (fun (_u : Unit) t => zW D (va_A ([(h, .inr (11, [.ref rv, .ref d])), (rv, .inr (4, [.ref tp, .ref ln, .ref tb, .ref ct0, .ref dp])), (tp, .inr (0, [.ref a, .int (nI T.length)])), (a, .inl (cB, 9400, .inl f))] ++ (dfl cO e0 d DL.length mo dst DL ++ Q)) sz) ([(h, .inr (11, [.ref rv, .ref d])), (rv, .inr (4, [.ref tp, .ref ln, .ref tb, .ref ct0, .ref dp])), (tp, .inr (0, [.ref a, .int (nI T.length)])), (a, .inl (cB, 9400, .inl f))] ++ (dfl cO e0 d DL.length mo dst DL ++ Q)) [(cB, .byte)] t) (va_A ([(h, .inr (11, [.ref rv, .ref d])), (rv, .inr (4, [.ref tp, .ref ln, .ref tb, .ref ct0, .ref dp])), (tp, .inr (0, [.ref a, .int (nI T.length)])), (a, .inl (cB, 9400, .inl f))] ++ (dfl cO e0 d DL.length mo dst DL ++ Q)) sz) (fun _ => False)) 10 70 (va_A ([(h, .inr (11, [.ref rv, .ref d])), (rv, .inr (4, [.ref tp, .ref ln, .ref tb, .ref ct0, .ref dp])), (tp, .inr (0, [.ref a, .int (nI T.length)])), (a, .inl (cB, 9400, .inl f))] ++ (dfl cO e0 d DL.length mo dst DL ++ Q)) sz) := by
  refine MetT.ofW (cc := b_SS_writeTables) (maxL := 4) (ret := (some .int)) (by decide) rfl ?_
  intro p e s m args below meth cd s₁ Bd hml hem hv
  obtain ⟨rfl, hsz, hP, hK, hN, hD0, hO⟩ := hv
  have hx := Bd.exec
  have hb := Bd.bytes
  have hr := Bd.returns
  have hts := hN.use (a := ([.ref h, .int ve]).toArray)
  have hown : s.vm.findClass R_SS = some m.cls := findClass_of_methodNamed Bd.named
  have hlocks := Bd.notSynchronized
  subst hsz
  have hD := hD0.self (sz := s.heap.size)
  have hAO := z_AO hD0 hO
  clear hD0
  have hA : ∀ q : Nat, s.heap.size ≤ q → va_A ([(h, .inr (11, [.ref rv, .ref d])), (rv, .inr (4, [.ref tp, .ref ln, .ref tb, .ref ct0, .ref dp])), (tp, .inr (0, [.ref a, .int (nI T.length)])), (a, .inl (cB, 9400, .inl f))] ++ (dfl cO e0 d DL.length mo dst DL ++ Q)) s.heap.size q := fun q h => Or.inr h
  have hS : va_S (va_A ([(h, .inr (11, [.ref rv, .ref d])), (rv, .inr (4, [.ref tp, .ref ln, .ref tb, .ref ct0, .ref dp])), (tp, .inr (0, [.ref a, .int (nI T.length)])), (a, .inl (cB, 9400, .inl f))] ++ (dfl cO e0 d DL.length mo dst DL ++ Q)) s.heap.size) s.heap s.heap [] := va_S.rf
  generalize hAe : va_A ([(h, .inr (11, [.ref rv, .ref d])), (rv, .inr (4, [.ref tp, .ref ln, .ref tb, .ref ct0, .ref dp])), (tp, .inr (0, [.ref a, .int (nI T.length)])), (a, .inl (cB, 9400, .inl f))] ++ (dfl cO e0 d DL.length mo dst DL ++ Q)) s.heap.size = A at hD hA hS hAO ⊢
  have hP : va_P D classes ([(h, .inr (11, [.ref rv, .ref d])), (rv, .inr (4, [.ref tp, .ref ln, .ref tb, .ref ct0, .ref dp])), (tp, .inr (0, [.ref a, .int (nI T.length)])), (a, .inl (cB, 9400, .inl f))] ++ (dfl cO e0 d DL.length mo dst DL ++ Q)) s.heap := hP
  have hl := lv_entry ([.ref h, .int ve]) (n := 4) (Nat.le_of_ble_eq_true rfl)
  rw [lg_entry_eq]
  generalize (lg_sl ([.ref h, .int ve]) ++ List.replicate (4 - (lg_sl ([.ref h, .int ve])).length) Slot.unset).toArray = ls at hl ⊢
  have hl : lv_has ls 4 [(0, .ref h), (1, .int ve)] := hl
  refine lv_iload_n hx hb d_SS_writeTables_0 rfl (lv_at hl 1 rfl) ?_
  refine lv_if_lt (tgt := 10) hx hb d_SS_writeTables_1 rfl (fun h9 => absurd h9 hv1) (fun h1 => ?_)
  refine lv_iload_n hx hb d_SS_writeTables_4 rfl (lv_at hl 1 rfl) ?_
  refine lv_bipush (v := 31) hx hb d_SS_writeTables_5 (by decide) ?_
  refine lv_icmp_le (tgt := 20) hx hb d_SS_writeTables_7 rfl (fun h7 => ?_) (fun h9 => absurd (Int32.not_le.mp h9) hv2)
  refine lv_aload_n hx hb d_SS_writeTables_20 rfl (lv_at hl 0 rfl) ?_
  refine lv_iconst (v := 1) hx hb d_SS_writeTables_21 (by decide) ?_
  refine lv_aload_n hx hb d_SS_writeTables_22 rfl (lv_at hl 0 rfl) ?_
  refine va_get (D := D) (ci := 11) (v := .ref d) (C := R_SS) (T := F_SS) (N := 2) hx hb hts i_SS hown hK hP 0 rfl rfl 1 (by decide) (hts _ wd_199) (fun _ h9 => h9) rfl d_SS_writeTables_23 ?_
  obtain ⟨b26, hm26⟩ := df_memL (X := [(h, .inr (11, [.ref rv, .ref d])), (rv, .inr (4, [.ref tp, .ref ln, .ref tb, .ref ct0, .ref dp])), (tp, .inr (0, [.ref a, .int (nI T.length)])), (a, .inl (cB, 9400, .inl f))]) (cO := cO) (e0 := e0) (d := d) (n := DL.length) (mo := mo) (dst := dst) (L := DL) (Q := Q)
  obtain ⟨q26z, hq26z⟩ := List.getElem?_of_mem hm26
  have hPc : va_P D classes [(d, .inr (12, [.ref b26, .int (nI DL.length), .int mo]))] s.heap := z_Pm1 hm26 hP
  have hKc := hK.sub (tys' := []) [] rfl
  refine z_ci (va_runV (As := []) (rest := [.int 1, .ref h]) ⟨hx, hb, hml, hown, hts⟩ (c_AL_size l D d b26 (nI DL.length) mo ) (z_cV hN wd_305 wd_66 wd_820 hd_AL_size rfl rfl ⟨Nat.le_of_ble_eq_true rfl, Nat.le_of_ble_eq_true rfl⟩ wd_303 wd_304) (z_preV (va_recv (ci := 12) (q0 := q26z) hK hP rfl hq26z) hPc hKc hN) rfl rfl hl.1 rfl (lv_room (Nat.le_of_ble_eq_true rfl)) d_SS_writeTables_26 ⟨Nat.le_of_ble_eq_true rfl, Nat.le_of_ble_eq_true rfl⟩) (fun r26 e26 => ?_)
  refine z_topi (w := (nI DL.length)) e26 ?_
  refine lv_iadd hx hb d_SS_writeTables_29 ?_
  refine z_topi (w := nI (1 + DL.length)) (nI_add 1 _) ?_
  have hPc := hP.sub (ws' := [(h, .inr (11, [.ref rv, .ref d])), (rv, .inr (4, [.ref tp, .ref ln, .ref tb, .ref ct0, .ref dp])), (tp, .inr (0, [.ref a, .int (nI T.length)])), (a, .inl (cB, 9400, .inl f))]) [0, 1, 2, 3] rfl
  have hKc := hK.sub (tys' := [(cB, .byte)]) [0] rfl
  refine z_ci (va_runV (As := [.int (nI (1 + DL.length))]) (rest := []) ⟨hx, hb, hml, hown, hts⟩ (c_SS_hasNoRoom l D cB h d rv ln tb ct0 dp tp a T.length f (1 + DL.length) (by omega) (by omega)) (z_cV hN wd_940 wd_59 wd_937 hd_SS_hasNoRoom rfl rfl ⟨Nat.le_of_ble_eq_true rfl, Nat.le_of_ble_eq_true rfl⟩ wd_939 wd_20) (z_preV (va_recv (ci := 11) (q0 := 0) hK hP rfl rfl) hPc hKc hN) rfl rfl hl.1 rfl (lv_room (Nat.le_of_ble_eq_true rfl)) d_SS_writeTables_30 ⟨Nat.le_of_ble_eq_true rfl, Nat.le_of_ble_eq_true rfl⟩) (fun r30 e30 => ?_)
  subst e30
  refine lv_if_eq (tgt := 38) hx hb d_SS_writeTables_33 rfl (fun h9 => absurd h9 (rm_no hT)) (fun h33 => ?_)
  refine lv_iconst (v := (-1)) hx hb d_SS_writeTables_36 (by decide) ?_
  have hP9 := hP.part (cx := [(h, .inr (11, [.ref rv, .ref d])), (rv, .inr (4, [.ref tp, .ref ln, .ref tb, .ref ct0, .ref dp])), (tp, .inr (0, [.ref a, .int (nI T.length)])), (a, .inl (cB, 9400, .inl f))]) [0, 1, 2, 3] rfl
  have hD9 := hD.part (cx := [(h, .inr (11, [.ref rv, .ref d])), (rv, .inr (4, [.ref tp, .ref ln, .ref tb, .ref ct0, .ref dp])), (tp, .inr (0, [.ref a, .int (nI T.length)])), (a, .inl (cB, 9400, .inl f))]) [0, 1, 2, 3] (by decide) rfl
  have hK9 := hK.sub (tys' := [(cB, .byte)]) [0] rfl
  refine W.widen (k := 10) (n := 70) (by omega) (by omega) ?_
  exact W.mono MQ.toT (W.iret (v := (-1)) hx hb hr (fun t ht hW => Or.inl ⟨_, (), rfl, rfl, ⟨by rw [ht]; exact hP9, va_K.moved hW.alike hK9, hD9⟩, hS.F ht⟩) hS.2.2 d_SS_writeTables_37)
