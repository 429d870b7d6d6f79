theorem d_Law_addStream_10 : decode b_Law_addStream 10 = .ok (.i2l, 1) := by decide +kernel
theorem d_Law_addStream_11 : decode b_Law_addStream 11 = .ok (.lastore, 1) := by decide +kernel
theorem d_Law_addStream_12 : decode b_Law_addStream 12 = .ok (.goto 11, 3) := by decide +kernel
theorem d_Law_addStream_19 : decode b_Law_addStream 19 = .ok (.astore 5, 2) := by decide +kernel
theorem d_Law_addStream_21 : decode b_Law_addStream 21 = .ok (.iconst 2, 1) := by decide +kernel
theorem d_Law_addStream_22 : decode b_Law_addStream 22 = .ok (.ireturn, 1) := by decide +kernel
theorem d_Law_addStream_23 : decode b_Law_addStream 23 = .ok (.iconst 0, 1) := by decide +kernel
theorem d_Law_addStream_24 : decode b_Law_addStream 24 = .ok (.ireturn, 1) := by decide +kernel
set_option maxHeartbeats 4000000 in
set_option maxRecDepth 100000 in
theorem c_Law_piece_noneG (l : Launch) (D : va_G) (hfl : l.stackTraces = false) (B0 : State) (hG : zG B0) (sz : Nat) (cI cQ : ClassId) (h d rc tp ln tb ct dp : Nat) (cn : Nat → Int32) (dpf : Nat → Option Nat) (dn : Nat → Option PQ9) (Q : va_W) (k : Int32) (w : Int32) (cJ : ClassId) (o9 : Nat) (g9 : Nat → Int64) (h0 : ¬ w < 0) (h4 : ¬ 4 < w) (hk : ¬ k < 0) (hdp : dpok dpf dn) (hno : ¬ dbK cn k ∨ dn (kdI (cn 9 - 1 - k)) = none) : Met l y_Law_piece [Cond.codeWith y_Law_piece b_Law_piece 5 (some .int) [(0, 9, 12, 13)]] ({ frames := 2, cells := 1, slots := 6, locals := 44 }) (zMo [.ref h, .int k, .int w, .ref o9] D ([(h, .inr (11, [.ref rc, .ref d])), (rc, .inr (4, [.ref tp, .ref ln, .ref tb, .ref ct, .ref dp])), (ct, .inl (cI, 10, .inl cn)), (dp, .inl (cQ, 16, .inr (.inr (.inr (.inr dpf))))), (o9, .inl (cJ, 1, .inr (.inl g9)))] ++ (dpl dn ++ Q)) [(cI, .int), (cQ, .object "StreamSplitter$Piece"), (cJ, .long)] sz B0) (va_Qi (fun r0 (u : (Unit) × Int64) => r0 = 0 ∧ (fun r0 (_ : Unit) => r0 = -1) u.2 u.1) (fun (u : (Unit) × Int64) t => zW D (va_A ([(h, .inr (11, [.ref rc, .ref d])), (rc, .inr (4, [.ref tp, .ref ln, .ref tb, .ref ct, .ref dp])), (ct, .inl (cI, 10, .inl cn)), (dp, .inl (cQ, 16, .inr (.inr (.inr (.inr dpf))))), (o9, .inl (cJ, 1, .inr (.inl g9)))] ++ (dpl dn ++ Q)) sz) ([(h, .inr (11, [.ref rc, .ref d])), (rc, .inr (4, [.ref tp, .ref ln, .ref tb, .ref ct, .ref dp])), (ct, .inl (cI, 10, .inl cn)), (dp, .inl (cQ, 16, .inr (.inr (.inr (.inr dpf))))), (o9, .inl (cJ, 1, .inr (.inl (vp_updL g9 0 u.2))))] ++ (dpl dn ++ Q)) [(cI, .int), (cQ, .object "StreamSplitter$Piece"), (cJ, .long)] t) (va_A ([(h, .inr (11, [.ref rc, .ref d])), (rc, .inr (4, [.ref tp, .ref ln, .ref tb, .ref ct, .ref dp])), (ct, .inl (cI, 10, .inl cn)), (dp, .inl (cQ, 16, .inr (.inr (.inr (.inr dpf))))), (o9, .inl (cJ, 1, .inr (.inl g9)))] ++ (dpl dn ++ Q)) sz)) 1 6 (va_A ([(h, .inr (11, [.ref rc, .ref d])), (rc, .inr (4, [.ref tp, .ref ln, .ref tb, .ref ct, .ref dp])), (ct, .inl (cI, 10, .inl cn)), (dp, .inl (cQ, 16, .inr (.inr (.inr (.inr dpf))))), (o9, .inl (cJ, 1, .inr (.inl g9)))] ++ (dpl dn ++ Q)) sz) := by
  refine va_MetW (cc := b_Law_piece) (maxL := 5) (ret := (some .int)) (hh := [(0, 9, 12, 13)]) (by decide) rfl ?_
  intro p e s m args below meth cd s₁ Bd hml hv
  obtain ⟨rfl, hsz, hP, hK, hN, hD0, hO⟩ := hv
  have hx := Bd.exec
  have hb := Bd.bytes
  have hr := Bd.returns
  have hts := hN.use (a := ([.ref h, .int k, .int w, .ref o9]).toArray)
  have hown : s.vm.findClass R_Law = some m.cls := findClass_of_methodNamed Bd.named
  have hlocks := Bd.notSynchronized
  have htab := z_tab Bd
  subst hsz
  have hD := hD0.self (sz := s.heap.size)
  have hAO := z_AO hD0 hO
  clear hD0
  have hA : ∀ q : Nat, s.heap.size ≤ q → va_A ([(h, .inr (11, [.ref rc, .ref d])), (rc, .inr (4, [.ref tp, .ref ln, .ref tb, .ref ct, .ref dp])), (ct, .inl (cI, 10, .inl cn)), (dp, .inl (cQ, 16, .inr (.inr (.inr (.inr dpf))))), (o9, .inl (cJ, 1, .inr (.inl g9)))] ++ (dpl dn ++ Q)) s.heap.size q := fun q h => Or.inr h
  have hS : va_S (va_A ([(h, .inr (11, [.ref rc, .ref d])), (rc, .inr (4, [.ref tp, .ref ln, .ref tb, .ref ct, .ref dp])), (ct, .inl (cI, 10, .inl cn)), (dp, .inl (cQ, 16, .inr (.inr (.inr (.inr dpf))))), (o9, .inl (cJ, 1, .inr (.inl g9)))] ++ (dpl dn ++ Q)) s.heap.size) s.heap s.heap [] := va_S.rf
  generalize hAe : va_A ([(h, .inr (11, [.ref rc, .ref d])), (rc, .inr (4, [.ref tp, .ref ln, .ref tb, .ref ct, .ref dp])), (ct, .inl (cI, 10, .inl cn)), (dp, .inl (cQ, 16, .inr (.inr (.inr (.inr dpf))))), (o9, .inl (cJ, 1, .inr (.inl g9)))] ++ (dpl dn ++ Q)) s.heap.size = A at hD hA hS hAO ⊢
  have hP : va_P D classes ([(h, .inr (11, [.ref rc, .ref d])), (rc, .inr (4, [.ref tp, .ref ln, .ref tb, .ref ct, .ref dp])), (ct, .inl (cI, 10, .inl cn)), (dp, .inl (cQ, 16, .inr (.inr (.inr (.inr dpf))))), (o9, .inl (cJ, 1, .inr (.inl g9)))] ++ (dpl dn ++ Q)) s.heap := hP
  have hl := lv_entry ([.ref h, .int k, .int w, .ref o9]) (n := 5) (Nat.le_of_ble_eq_true rfl)
  rw [lg_entry_eq]
  generalize (lg_sl ([.ref h, .int k, .int w, .ref o9]) ++ List.replicate (5 - (lg_sl ([.ref h, .int k, .int w, .ref o9])).length) Slot.unset).toArray = ls at hl ⊢
  have hl : lv_has ls 5 [(0, .ref h), (1, .int k), (2, .int w), (3, .ref o9)] := hl
  refine lv_aload_n hx hb d_Law_piece_0 rfl (lv_at hl 3 rfl) ?_
  refine lv_iconst (v := 0) hx hb d_Law_piece_1 (by decide) ?_
  refine lv_aload_n hx hb d_Law_piece_2 rfl (lv_at hl 0 rfl) ?_
  refine lv_iload_n hx hb d_Law_piece_3 rfl (lv_at hl 1 rfl) ?_
  refine lv_iload_n hx hb d_Law_piece_4 rfl (lv_at hl 2 rfl) ?_
  have hPc := hP.part (cx := [(h, .inr (11, [.ref rc, .ref d])), (rc, .inr (4, [.ref tp, .ref ln, .ref tb, .ref ct, .ref dp])), (ct, .inl (cI, 10, .inl cn)), (dp, .inl (cQ, 16, .inr (.inr (.inr (.inr dpf)))))]) [0, 1, 2, 3] rfl
  have hKc := hK.sub (tys' := [(cI, .int), (cQ, .object "StreamSplitter$Piece")]) [0, 1] rfl
  have hDc := hD.part (cx := [(h, .inr (11, [.ref rc, .ref d])), (rc, .inr (4, [.ref tp, .ref ln, .ref tb, .ref ct, .ref dp])), (ct, .inl (cI, 10, .inl cn)), (dp, .inl (cQ, 16, .inr (.inr (.inr (.inr dpf)))))]) [0, 1, 2, 3] (by decide) rfl
  have hFc := va_freeP (cx := [(h, .inr (11, [.ref rc, .ref d])), (rc, .inr (4, [.ref tp, .ref ln, .ref tb, .ref ct, .ref dp])), (ct, .inl (cI, 10, .inl cn)), (dp, .inl (cQ, 16, .inr (.inr (.inr (.inr dpf)))))]) hD hS hA [0, 1, 2, 3] rfl
  refine z_callVTl (As := [.int k, .int w]) (rest := [.int 0, .ref o9]) ⟨hx, hb, hml, hown, hts⟩ (c_SS_piece_none l D hfl B0 hG s.heap.size cI cQ h d rc tp ln tb ct dp cn dpf dn Q k w h0 h4 hk hdp hno) (z_cV hN wd_868 wd_59 wd_865 hd_SS_piece rfl rfl ⟨Nat.le_of_ble_eq_true rfl, Nat.le_of_ble_eq_true rfl⟩ wd_866 wd_867) (z_preVo (va_recv (ci := 11) (q0 := 0) hK hP rfl rfl) hPc hKc hN hDc hO hS hAO) rfl hl.1 rfl (lv_room (Nat.le_of_ble_eq_true rfl)) d_Law_piece_5 ⟨Nat.le_of_ble_eq_true rfl, Nat.le_of_ble_eq_true rfl⟩ hS (fun q _ h => hFc q h) hFc (fun r9 u9 t H locs ht hvm e5 hB hz1 hk1 hS => ?_) (fun X x H locs eX hcx hz1 hk1 hS => ?_)
  · obtain ⟨hP1, hK1, hD1⟩ := hB
    rw [ht] at hP1
    obtain ⟨hP, hD⟩ := va_joinP (wr := [(o9, .inl (cJ, 1, .inr (.inl g9)))]) (rx := [(h, .inr (11, [.ref rc, .ref d])), (rc, .inr (4, [.ref tp, .ref ln, .ref tb, .ref ct, .ref dp])), (ct, .inl (cI, 10, .inl cn)), (dp, .inl (cQ, 16, .inr (.inr (.inr (.inr dpf)))))]) hP hD [0, 1, 2, 3] [4] rfl rfl (by decide) (by decide) hk1 hFc hP1 hD1
    clear hk1 hP1 hD1 hFc hPc hDc hz1
    have hP : va_P D classes ([(o9, .inl (cJ, 1, .inr (.inl g9))), (h, .inr (11, [.ref rc, .ref d])), (rc, .inr (4, [.ref tp, .ref ln, .ref tb, .ref ct, .ref dp])), (ct, .inl (cI, 10, .inl cn)), (dp, .inl (cQ, 16, .inr (.inr (.inr (.inr dpf)))))] ++ (dpl dn ++ Q)) H := hP
    have hD : va_D A ([(o9, .inl (cJ, 1, .inr (.inl g9))), (h, .inr (11, [.ref rc, .ref d])), (rc, .inr (4, [.ref tp, .ref ln, .ref tb, .ref ct, .ref dp])), (ct, .inl (cI, 10, .inl cn)), (dp, .inl (cQ, 16, .inr (.inr (.inr (.inr dpf)))))] ++ (dpl dn ++ Q)) := hD
    refine z_last hx hb hK hP hD hS 0 2 rfl rfl 0 rfl (by decide) (by decide) d_Law_piece_8 (fun H locs hP hD hS => ?_)
    have hP : va_P D classes ([(o9, .inl (cJ, 1, .inr (.inl (vp_updL g9 0 r9)))), (h, .inr (11, [.ref rc, .ref d])), (rc, .inr (4, [.ref tp, .ref ln, .ref tb, .ref ct, .ref dp])), (ct, .inl (cI, 10, .inl cn)), (dp, .inl (cQ, 16, .inr (.inr (.inr (.inr dpf)))))] ++ (dpl dn ++ Q)) H := hP
    have hD : va_D A ([(o9, .inl (cJ, 1, .inr (.inl (vp_updL g9 0 r9)))), (h, .inr (11, [.ref rc, .ref d])), (rc, .inr (4, [.ref tp, .ref ln, .ref tb, .ref ct, .ref dp])), (ct, .inl (cI, 10, .inl cn)), (dp, .inl (cQ, 16, .inr (.inr (.inr (.inr dpf)))))] ++ (dpl dn ++ Q)) := hD
    refine lv_goto (tgt := 16) hx hb d_Law_piece_9 rfl ?_
    refine lv_iconst (v := 0) hx hb d_Law_piece_16 (by decide) ?_
    have hP9 := hP.part (cx := [(h, .inr (11, [.ref rc, .ref d])), (rc, .inr (4, [.ref tp, .ref ln, .ref tb, .ref ct, .ref dp])), (ct, .inl (cI, 10, .inl cn)), (dp, .inl (cQ, 16, .inr (.inr (.inr (.inr dpf))))), (o9, .inl (cJ, 1, .inr (.inl (vp_updL g9 0 r9))))]) [1, 2, 3, 4, 0] rfl
    have hD9 := hD.part (cx := [(h, .inr (11, [.ref rc, .ref d])), (rc, .inr (4, [.ref tp, .ref ln, .ref tb, .ref ct, .ref dp])), (ct, .inl (cI, 10, .inl cn)), (dp, .inl (cQ, 16, .inr (.inr (.inr (.inr dpf))))), (o9, .inl (cJ, 1, .inr (.inl (vp_updL g9 0 r9))))]) [1, 2, 3, 4, 0] (by decide) rfl
    have hK9 := hK.sub (tys' := [(cI, .int), (cQ, .object "StreamSplitter$Piece"), (cJ, .long)]) [0, 1, 2] rfl
    refine W.widen (k := 1) (n := 6) (by omega) (by omega) ?_
    exact W.iret (v := 0) hx hb hr (fun t ht hW => ⟨⟨_, (u9, r9), rfl, ⟨rfl, e5⟩, ⟨by rw [ht]; exact hP9, va_K.moved hW.alike hK9, hD9⟩⟩, hS.F ht⟩) hS.2.2 d_Law_piece_17
  · exact absurd eX (fun z => z)
set_option maxHeartbeats 4000000 in
set_option maxRecDepth 100000 in
theorem c_Law_piece_someG (l : Launch) (D : va_G) (hfl : l.stackTraces = false) (B0 : State) (hG : zG B0) (sz : Nat) (cI cQ : ClassId) (h d rc tp ln tb ct dp : Nat) (cn : Nat → Int32) (dpf : Nat → Option Nat) (dn : Nat → Option PQ9) (Q : va_W) (k : Int32) (w : Nat) (q : PQ9) (cJ : ClassId) (o9 : Nat) (g9 : Nat → Int64) (hw : w ≤ 4) (hk : ¬ k < 0) (hdp : dpok dpf dn) (hbk : dbK cn k) (hq : dn (kdI (cn 9 - 1 - k)) = some q) : Met l y_Law_piece [Cond.codeWith y_Law_piece b_Law_piece 5 (some .int) [(0, 9, 12, 13)]] ({ frames := 2, cells := 1, slots := 6, locals := 44 }) (zMo [.ref h, .int k, .int (nI w), .ref o9] D ([(h, .inr (11, [.ref rc, .ref d])), (rc, .inr (4, [.ref tp, .ref ln, .ref tb, .ref ct, .ref dp])), (ct, .inl (cI, 10, .inl cn)), (dp, .inl (cQ, 16, .inr (.inr (.inr (.inr dpf))))), (o9, .inl (cJ, 1, .inr (.inl g9)))] ++ (dpl dn ++ Q)) [(cI, .int), (cQ, .object "StreamSplitter$Piece"), (cJ, .long)] sz B0) (va_Qi (fun r0 (u : (Unit) × Int64) => r0 = 0 ∧ (fun r0 (_ : Unit) => r0 = pcV q w) u.2 u.1) (fun (u : (Unit) × Int64) t => zW D (va_A ([(h, .inr (11, [.ref rc, .ref d])), (rc, .inr (4, [.ref tp, .ref ln, .ref tb, .ref ct, .ref dp])), (ct, .inl (cI, 10, .inl cn)), (dp, .inl (cQ, 16, .inr (.inr (.inr (.inr dpf))))), (o9, .inl (cJ, 1, .inr (.inl g9)))] ++ (dpl dn ++ Q)) sz) ([(h, .inr (11, [.ref rc, .ref d])), (rc, .inr (4, [.ref tp, .ref ln, .ref tb, .ref ct, .ref dp])), (ct, .inl (cI, 10, .inl cn)), (dp, .inl (cQ, 16, .inr (.inr (.inr (.inr dpf))))), (o9, .inl (cJ, 1, .inr (.inl (vp_updL g9 0 u.2))))] ++ (dpl dn ++ Q)) [(cI, .int), (cQ, .object "StreamSplitter$Piece"), (cJ, .long)] t) (va_A ([(h, .inr (11, [.ref rc, .ref d])), (rc, .inr (4, [.ref tp, .ref ln, .ref tb, .ref ct, .ref dp])), (ct, .inl (cI, 10, .inl cn)), (dp, .inl (cQ, 16, .inr (.inr (.inr (.inr dpf))))), (o9, .inl (cJ, 1, .inr (.inl g9)))] ++ (dpl dn ++ Q)) sz)) 1 6 (va_A ([(h, .inr (11, [.ref rc, .ref d])), (rc, .inr (4, [.ref tp, .ref ln, .ref tb, .ref ct, .ref dp])), (ct, .inl (cI, 10, .inl cn)), (dp, .inl (cQ, 16, .inr (.inr (.inr (.inr dpf))))), (o9, .inl (cJ, 1, .inr (.inl g9)))] ++ (dpl dn ++ Q)) sz) := by
  refine va_MetW (cc := b_Law_piece) (maxL := 5) (ret := (some .int)) (hh := [(0, 9, 12, 13)]) (by decide) rfl ?_
  intro p e s m args below meth cd s₁ Bd hml hv
  obtain ⟨rfl, hsz, hP, hK, hN, hD0, hO⟩ := hv
  have hx := Bd.exec
  have hb := Bd.bytes
  have hr := Bd.returns
  have hts := hN.use (a := ([.ref h, .int k, .int (nI w), .ref o9]).toArray)
  have hown : s.vm.findClass R_Law = some m.cls := findClass_of_methodNamed Bd.named
  have hlocks := Bd.notSynchronized
  have htab := z_tab Bd
  subst hsz
  have hD := hD0.self (sz := s.heap.size)
  have hAO := z_AO hD0 hO
  clear hD0
  have hA : ∀ q : Nat, s.heap.size ≤ q → va_A ([(h, .inr (11, [.ref rc, .ref d])), (rc, .inr (4, [.ref tp, .ref ln, .ref tb, .ref ct, .ref dp])), (ct, .inl (cI, 10, .inl cn)), (dp, .inl (cQ, 16, .inr (.inr (.inr (.inr dpf))))), (o9, .inl (cJ, 1, .inr (.inl g9)))] ++ (dpl dn ++ Q)) s.heap.size q := fun q h => Or.inr h
  have hS : va_S (va_A ([(h, .inr (11, [.ref rc, .ref d])), (rc, .inr (4, [.ref tp, .ref ln, .ref tb, .ref ct, .ref dp])), (ct, .inl (cI, 10, .inl cn)), (dp, .inl (cQ, 16, .inr (.inr (.inr (.inr dpf))))), (o9, .inl (cJ, 1, .inr (.inl g9)))] ++ (dpl dn ++ Q)) s.heap.size) s.heap s.heap [] := va_S.rf
  generalize hAe : va_A ([(h, .inr (11, [.ref rc, .ref d])), (rc, .inr (4, [.ref tp, .ref ln, .ref tb, .ref ct, .ref dp])), (ct, .inl (cI, 10, .inl cn)), (dp, .inl (cQ, 16, .inr (.inr (.inr (.inr dpf))))), (o9, .inl (cJ, 1, .inr (.inl g9)))] ++ (dpl dn ++ Q)) s.heap.size = A at hD hA hS hAO ⊢
  have hP : va_P D classes ([(h, .inr (11, [.ref rc, .ref d])), (rc, .inr (4, [.ref tp, .ref ln, .ref tb, .ref ct, .ref dp])), (ct, .inl (cI, 10, .inl cn)), (dp, .inl (cQ, 16, .inr (.inr (.inr (.inr dpf))))), (o9, .inl (cJ, 1, .inr (.inl g9)))] ++ (dpl dn ++ Q)) s.heap := hP
  have hl := lv_entry ([.ref h, .int k, .int (nI w), .ref o9]) (n := 5) (Nat.le_of_ble_eq_true rfl)
  rw [lg_entry_eq]
  generalize (lg_sl ([.ref h, .int k, .int (nI w), .ref o9]) ++ List.replicate (5 - (lg_sl ([.ref h, .int k, .int (nI w), .ref o9])).length) Slot.unset).toArray = ls at hl ⊢
  have hl : lv_has ls 5 [(0, .ref h), (1, .int k), (2, .int (nI w)), (3, .ref o9)] := hl
  refine lv_aload_n hx hb d_Law_piece_0 rfl (lv_at hl 3 rfl) ?_
  refine lv_iconst (v := 0) hx hb d_Law_piece_1 (by decide) ?_
  refine lv_aload_n hx hb d_Law_piece_2 rfl (lv_at hl 0 rfl) ?_
  refine lv_iload_n hx hb d_Law_piece_3 rfl (lv_at hl 1 rfl) ?_
  refine lv_iload_n hx hb d_Law_piece_4 rfl (lv_at hl 2 rfl) ?_
  have hPc := hP.part (cx := [(h, .inr (11, [.ref rc, .ref d])), (rc, .inr (4, [.ref tp, .ref ln, .ref tb, .ref ct, .ref dp])), (ct, .inl (cI, 10, .inl cn)), (dp, .inl (cQ, 16, .inr (.inr (.inr (.inr dpf)))))]) [0, 1, 2, 3] rfl
  have hKc := hK.sub (tys' := [(cI, .int), (cQ, .object "StreamSplitter$Piece")]) [0, 1] rfl
  have hDc := hD.part (cx := [(h, .inr (11, [.ref rc, .ref d])), (rc, .inr (4, [.ref tp, .ref ln, .ref tb, .ref ct, .ref dp])), (ct, .inl (cI, 10, .inl cn)), (dp, .inl (cQ, 16, .inr (.inr (.inr (.inr dpf)))))]) [0, 1, 2, 3] (by decide) rfl
  have hFc := va_freeP (cx := [(h, .inr (11, [.ref rc, .ref d])), (rc, .inr (4, [.ref tp, .ref ln, .ref tb, .ref ct, .ref dp])), (ct, .inl (cI, 10, .inl cn)), (dp, .inl (cQ, 16, .inr (.inr (.inr (.inr dpf)))))]) hD hS hA [0, 1, 2, 3] rfl
  refine z_callVTl (As := [.int k, .int (nI w)]) (rest := [.int 0, .ref o9]) ⟨hx, hb, hml, hown, hts⟩ (c_SS_piece_some l D hfl B0 hG s.heap.size cI cQ h d rc tp ln tb ct dp cn dpf dn Q k w q hw hk hdp hbk hq) (z_cV hN wd_868 wd_59 wd_865 hd_SS_piece rfl rfl ⟨Nat.le_of_ble_eq_true rfl, Nat.le_of_ble_eq_true rfl⟩ wd_866 wd_867) (z_preVo (va_recv (ci := 11) (q0 := 0) hK hP rfl rfl) hPc hKc hN hDc hO hS hAO) rfl hl.1 rfl (lv_room (Nat.le_of_ble_eq_true rfl)) d_Law_piece_5 ⟨Nat.le_of_ble_eq_true rfl, Nat.le_of_ble_eq_true rfl⟩ hS (fun q _ h => hFc q h) hFc (fun r9 u9 t H locs ht hvm e5 hB hz1 hk1 hS => ?_) (fun X x H locs eX hcx hz1 hk1 hS => ?_)
  · obtain ⟨hP1, hK1, hD1⟩ := hB
    rw [ht] at hP1
    obtain ⟨hP, hD⟩ := va_joinP (wr := [(o9, .inl (cJ, 1, .inr (.inl g9)))]) (rx := [(h, .inr (11, [.ref rc, .ref d])), (rc, .inr (4, [.ref tp, .ref ln, .ref tb, .ref ct, .ref dp])), (ct, .inl (cI, 10, .inl cn)), (dp, .inl (cQ, 16, .inr (.inr (.inr (.inr dpf)))))]) hP hD [0, 1, 2, 3] [4] rfl rfl (by decide) (by decide) hk1 hFc hP1 hD1
    clear hk1 hP1 hD1 hFc hPc hDc hz1
    have hP : va_P D classes ([(o9, .inl (cJ, 1, .inr (.inl g9))), (h, .inr (11, [.ref rc, .ref d])), (rc, .inr (4, [.ref tp, .ref ln, .ref tb, .ref ct, .ref dp])), (ct, .inl (cI, 10, .inl cn)), (dp, .inl (cQ, 16, .inr (.inr (.inr (.inr dpf)))))] ++ (dpl dn ++ Q)) H := hP
    have hD : va_D A ([(o9, .inl (cJ, 1, .inr (.inl g9))), (h, .inr (11, [.ref rc, .ref d])), (rc, .inr (4, [.ref tp, .ref ln, .ref tb, .ref ct, .ref dp])), (ct, .inl (cI, 10, .inl cn)), (dp, .inl (cQ, 16, .inr (.inr (.inr (.inr dpf)))))] ++ (dpl dn ++ Q)) := hD
    refine z_last hx hb hK hP hD hS 0 2 rfl rfl 0 rfl (by decide) (by decide) d_Law_piece_8 (fun H locs hP hD hS => ?_)
    have hP : va_P D classes ([(o9, .inl (cJ, 1, .inr (.inl (vp_updL g9 0 r9)))), (h, .inr (11, [.ref rc, .ref d])), (rc, .inr (4, [.ref tp, .ref ln, .ref tb, .ref ct, .ref dp])), (ct, .inl (cI, 10, .inl cn)), (dp, .inl (cQ, 16, .inr (.inr (.inr (.inr dpf)))))] ++ (dpl dn ++ Q)) H := hP
    have hD : va_D A ([(o9, .inl (cJ, 1, .inr (.inl (vp_updL g9 0 r9)))), (h, .inr (11, [.ref rc, .ref d])), (rc, .inr (4, [.ref tp, .ref ln, .ref tb, .ref ct, .ref dp])), (ct, .inl (cI, 10, .inl cn)), (dp, .inl (cQ, 16, .inr (.inr (.inr (.inr dpf)))))] ++ (dpl dn ++ Q)) := hD
    refine lv_goto (tgt := 16) hx hb d_Law_piece_9 rfl ?_
    refine lv_iconst (v := 0) hx hb d_Law_piece_16 (by decide) ?_
    have hP9 := hP.part (cx := [(h, .inr (11, [.ref rc, .ref d])), (rc, .inr (4, [.ref tp, .ref ln, .ref tb, .ref ct, .ref dp])), (ct, .inl (cI, 10, .inl cn)), (dp, .inl (cQ, 16, .inr (.inr (.inr (.inr dpf))))), (o9, .inl (cJ, 1, .inr (.inl (vp_updL g9 0 r9))))]) [1, 2, 3, 4, 0] rfl
    have hD9 := hD.part (cx := [(h, .inr (11, [.ref rc, .ref d])), (rc, .inr (4, [.ref tp, .ref ln, .ref tb, .ref ct, .ref dp])), (ct, .inl (cI, 10, .inl cn)), (dp, .inl (cQ, 16, .inr (.inr (.inr (.inr dpf))))), (o9, .inl (cJ, 1, .inr (.inl (vp_updL g9 0 r9))))]) [1, 2, 3, 4, 0] (by decide) rfl
    have hK9 := hK.sub (tys' := [(cI, .int), (cQ, .object "StreamSplitter$Piece"), (cJ, .long)]) [0, 1, 2] rfl
    refine W.widen (k := 1) (n := 6) (by omega) (by omega) ?_
    exact W.iret (v := 0) hx hb hr (fun t ht hW => ⟨⟨_, (u9, r9), rfl, ⟨rfl, e5⟩, ⟨by rw [ht]; exact hP9, va_K.moved hW.alike hK9, hD9⟩⟩, hS.F ht⟩) hS.2.2 d_Law_piece_17
  · exact absurd eX (fun z => z)
set_option maxHeartbeats 4000000 in
set_option maxRecDepth 100000 in
theorem c_Law_clock_okG (l : Launch) (D : va_G) (hfl : l.stackTraces = false) (B0 : State) (hG : zG B0) (sz : Nat) (h rc d tp tb ct dp : Nat) (cB cN : ClassId) (ln hd : Nat) (hf : Nat → Option Nat) (pid : Nat) (Ls : List LZ) (Q : va_W) (cJ : ClassId) (o9 : Nat) (g9 : Nat → Int64) (hpid : pid < 8192) (hLN : ∀ k, k < 256 → hf k = lhd k Ls) (hok : lok Ls) : Met l y_Law_clock [Cond.codeWith y_Law_clock b_Law_clock 4 (some .int) [(0, 8, 11, 13)]] ({ frames := 2, cells := 1, slots := 6, locals := 44 }) (zMo [.ref h, .int (nI pid), .ref o9] D ([(h, .inr (11, [.ref rc, .ref d])), (rc, .inr (4, [.ref tp, .ref ln, .ref tb, .ref ct, .ref dp])), (ln, .inr (2, [.ref hd])), (hd, .inl (cN, 256, .inr (.inr (.inr (.inr hf))))), (o9, .inl (cJ, 1, .inr (.inl g9)))] ++ (lpl cB Ls ++ Q)) [(cN, .object "StreamSplitter$Lane"), (cJ, .long)] sz B0) (va_Qi (fun r0 (u : (Unit) × Int64) => r0 = 0 ∧ (fun r0 (_ : Unit) => r0 = clkOf Ls pid) u.2 u.1) (fun (u : (Unit) × Int64) t => zW D (va_A ([(h, .inr (11, [.ref rc, .ref d])), (rc, .inr (4, [.ref tp, .ref ln, .ref tb, .ref ct, .ref dp])), (ln, .inr (2, [.ref hd])), (hd, .inl (cN, 256, .inr (.inr (.inr (.inr hf))))), (o9, .inl (cJ, 1, .inr (.inl g9)))] ++ (lpl cB Ls ++ Q)) sz) ([(h, .inr (11, [.ref rc, .ref d])), (rc, .inr (4, [.ref tp, .ref ln, .ref tb, .ref ct, .ref dp])), (ln, .inr (2, [.ref hd])), (hd, .inl (cN, 256, .inr (.inr (.inr (.inr hf))))), (o9, .inl (cJ, 1, .inr (.inl (vp_updL g9 0 u.2))))] ++ (lpl cB Ls ++ Q)) [(cN, .object "StreamSplitter$Lane"), (cJ, .long)] t) (va_A ([(h, .inr (11, [.ref rc, .ref d])), (rc, .inr (4, [.ref tp, .ref ln, .ref tb, .ref ct, .ref dp])), (ln, .inr (2, [.ref hd])), (hd, .inl (cN, 256, .inr (.inr (.inr (.inr hf))))), (o9, .inl (cJ, 1, .inr (.inl g9)))] ++ (lpl cB Ls ++ Q)) sz)) 1 6 (va_A ([(h, .inr (11, [.ref rc, .ref d])), (rc, .inr (4, [.ref tp, .ref ln, .ref tb, .ref ct, .ref dp])), (ln, .inr (2, [.ref hd])), (hd, .inl (cN, 256, .inr (.inr (.inr (.inr hf))))), (o9, .inl (cJ, 1, .inr (.inl g9)))] ++ (lpl cB Ls ++ Q)) sz) := by
  refine va_MetW (cc := b_Law_clock) (maxL := 4) (ret := (some .int)) (hh := [(0, 8, 11, 13)]) (by decide) rfl ?_
  intro p e s m args below meth cd s₁ Bd hml hv
  obtain ⟨rfl, hsz, hP, hK, hN, hD0, hO⟩ := hv
  have hx := Bd.exec
  have hb := Bd.bytes
  have hr := Bd.returns
  have hts := hN.use (a := ([.ref h, .int (nI pid), .ref o9]).toArray)
  have hown : s.vm.findClass R_Law = some m.cls := findClass_of_methodNamed Bd.named
  have hlocks := Bd.notSynchronized
  have htab := z_tab Bd
  subst hsz
  have hD := hD0.self (sz := s.heap.size)
  have hAO := z_AO hD0 hO
  clear hD0
  have hA : ∀ q : Nat, s.heap.size ≤ q → va_A ([(h, .inr (11, [.ref rc, .ref d])), (rc, .inr (4, [.ref tp, .ref ln, .ref tb, .ref ct, .ref dp])), (ln, .inr (2, [.ref hd])), (hd, .inl (cN, 256, .inr (.inr (.inr (.inr hf))))), (o9, .inl (cJ, 1, .inr (.inl g9)))] ++ (lpl cB Ls ++ Q)) s.heap.size q := fun q h => Or.inr h
  have hS : va_S (va_A ([(h, .inr (11, [.ref rc, .ref d])), (rc, .inr (4, [.ref tp, .ref ln, .ref tb, .ref ct, .ref dp])), (ln, .inr (2, [.ref hd])), (hd, .inl (cN, 256, .inr (.inr (.inr (.inr hf))))), (o9, .inl (cJ, 1, .inr (.inl g9)))] ++ (lpl cB Ls ++ Q)) s.heap.size) s.heap s.heap [] := va_S.rf
  generalize hAe : va_A ([(h, .inr (11, [.ref rc, .ref d])), (rc, .inr (4, [.ref tp, .ref ln, .ref tb, .ref ct, .ref dp])), (ln, .inr (2, [.ref hd])), (hd, .inl (cN, 256, .inr (.inr (.inr (.inr hf))))), (o9, .inl (cJ, 1, .inr (.inl g9)))] ++ (lpl cB Ls ++ Q)) s.heap.size = A at hD hA hS hAO ⊢
  have hP : va_P D classes ([(h, .inr (11, [.ref rc, .ref d])), (rc, .inr (4, [.ref tp, .ref ln, .ref tb, .ref ct, .ref dp])), (ln, .inr (2, [.ref hd])), (hd, .inl (cN, 256, .inr (.inr (.inr (.inr hf))))), (o9, .inl (cJ, 1, .inr (.inl g9)))] ++ (lpl cB Ls ++ Q)) s.heap := hP
  have hl := lv_entry ([.ref h, .int (nI pid), .ref o9]) (n := 4) (Nat.le_of_ble_eq_true rfl)
  rw [lg_entry_eq]
  generalize (lg_sl ([.ref h, .int (nI pid), .ref o9]) ++ List.replicate (4 - (lg_sl ([.ref h, .int (nI pid), .ref o9])).length) Slot.unset).toArray = ls at hl ⊢
  have hl : lv_has ls 4 [(0, .ref h), (1, .int (nI pid)), (2, .ref o9)] := hl
  refine lv_aload_n hx hb d_Law_clock_0 rfl (lv_at hl 2 rfl) ?_
  refine lv_iconst (v := 0) hx hb d_Law_clock_1 (by decide) ?_
  refine lv_aload_n hx hb d_Law_clock_2 rfl (lv_at hl 0 rfl) ?_
  refine lv_iload_n hx hb d_Law_clock_3 rfl (lv_at hl 1 rfl) ?_
  have hPc := hP.part (cx := [(h, .inr (11, [.ref rc, .ref d])), (rc, .inr (4, [.ref tp, .ref ln, .ref tb, .ref ct, .ref dp])), (ln, .inr (2, [.ref hd])), (hd, .inl (cN, 256, .inr (.inr (.inr (.inr hf)))))]) [0, 1, 2, 3] rfl
  have hKc := hK.sub (tys' := [(cN, .object "StreamSplitter$Lane")]) [0] rfl
  have hDc := hD.part (cx := [(h, .inr (11, [.ref rc, .ref d])), (rc, .inr (4, [.ref tp, .ref ln, .ref tb, .ref ct, .ref dp])), (ln, .inr (2, [.ref hd])), (hd, .inl (cN, 256, .inr (.inr (.inr (.inr hf)))))]) [0, 1, 2, 3] (by decide) rfl
  have hFc := va_freeP (cx := [(h, .inr (11, [.ref rc, .ref d])), (rc, .inr (4, [.ref tp, .ref ln, .ref tb, .ref ct, .ref dp])), (ln, .inr (2, [.ref hd])), (hd, .inl (cN, 256, .inr (.inr (.inr (.inr hf)))))]) hD hS hA [0, 1, 2, 3] rfl
  refine z_callVTl (As := [.int (nI pid)]) (rest := [.int 0, .ref o9]) ⟨hx, hb, hml, hown, hts⟩ (c_SS_clock_ok l D hfl B0 hG s.heap.size h rc d tp tb ct dp cB cN ln hd hf pid Ls Q hpid hLN hok) (z_cV hN wd_880 wd_59 wd_877 hd_SS_clock rfl rfl ⟨Nat.le_of_ble_eq_true rfl, Nat.le_of_ble_eq_true rfl⟩ wd_878 wd_879) (z_preVo (va_recv (ci := 11) (q0 := 0) hK hP rfl rfl) hPc hKc hN hDc hO hS hAO) rfl hl.1 rfl (lv_room (Nat.le_of_ble_eq_true rfl)) d_Law_clock_4 ⟨Nat.le_of_ble_eq_true rfl, Nat.le_of_ble_eq_true rfl⟩ hS (fun q _ h => hFc q h) hFc (fun r9 u9 t H locs ht hvm e4 hB hz1 hk1 hS => ?_) (fun X x H locs eX hcx hz1 hk1 hS => ?_)
  · obtain ⟨hP1, hK1, hD1⟩ := hB
    rw [ht] at hP1
    obtain ⟨hP, hD⟩ := va_joinP (wr := [(o9, .inl (cJ, 1, .inr (.inl g9)))]) (rx := [(h, .inr (11, [.ref rc, .ref d])), (rc, .inr (4, [.ref tp, .ref ln, .ref tb, .ref ct, .ref dp])), (ln, .inr (2, [.ref hd])), (hd, .inl (cN, 256, .inr (.inr (.inr (.inr hf)))))]) hP hD [0, 1, 2, 3] [4] rfl rfl (by decide) (by decide) hk1 hFc hP1 hD1
    clear hk1 hP1 hD1 hFc hPc hDc hz1
    have hP : va_P D classes ([(o9, .inl (cJ, 1, .inr (.inl g9))), (h, .inr (11, [.ref rc, .ref d])), (rc, .inr (4, [.ref tp, .ref ln, .ref tb, .ref ct, .ref dp])), (ln, .inr (2, [.ref hd])), (hd, .inl (cN, 256, .inr (.inr (.inr (.inr hf)))))] ++ (lpl cB Ls ++ Q)) H := hP
    have hD : va_D A ([(o9, .inl (cJ, 1, .inr (.inl g9))), (h, .inr (11, [.ref rc, .ref d])), (rc, .inr (4, [.ref tp, .ref ln, .ref tb, .ref ct, .ref dp])), (ln, .inr (2, [.ref hd])), (hd, .inl (cN, 256, .inr (.inr (.inr (.inr hf)))))] ++ (lpl cB Ls ++ Q)) := hD
    refine z_last hx hb hK hP hD hS 0 1 rfl rfl 0 rfl (by decide) (by decide) d_Law_clock_7 (fun H locs hP hD hS => ?_)
    have hP : va_P D classes ([(o9, .inl (cJ, 1, .inr (.inl (vp_updL g9 0 r9)))), (h, .inr (11, [.ref rc, .ref d])), (rc, .inr (4, [.ref tp, .ref ln, .ref tb, .ref ct, .ref dp])), (ln, .inr (2, [.ref hd])), (hd, .inl (cN, 256, .inr (.inr (.inr (.inr hf)))))] ++ (lpl cB Ls ++ Q)) H := hP
    have hD : va_D A ([(o9, .inl (cJ, 1, .inr (.inl (vp_updL g9 0 r9)))), (h, .inr (11, [.ref rc, .ref d])), (rc, .inr (4, [.ref tp, .ref ln, .ref tb, .ref ct, .ref dp])), (ln, .inr (2, [.ref hd])), (hd, .inl (cN, 256, .inr (.inr (.inr (.inr hf)))))] ++ (lpl cB Ls ++ Q)) := hD
    refine lv_goto (tgt := 14) hx hb d_Law_clock_8 rfl ?_
    refine lv_iconst (v := 0) hx hb d_Law_clock_14 (by decide) ?_
    have hP9 := hP.part (cx := [(h, .inr (11, [.ref rc, .ref d])), (rc, .inr (4, [.ref tp, .ref ln, .ref tb, .ref ct, .ref dp])), (ln, .inr (2, [.ref hd])), (hd, .inl (cN, 256, .inr (.inr (.inr (.inr hf))))), (o9, .inl (cJ, 1, .inr (.inl (vp_updL g9 0 r9))))]) [1, 2, 3, 4, 0] rfl
    have hD9 := hD.part (cx := [(h, .inr (11, [.ref rc, .ref d])), (rc, .inr (4, [.ref tp, .ref ln, .ref tb, .ref ct, .ref dp])), (ln, .inr (2, [.ref hd])), (hd, .inl (cN, 256, .inr (.inr (.inr (.inr hf))))), (o9, .inl (cJ, 1, .inr (.inl (vp_updL g9 0 r9))))]) [1, 2, 3, 4, 0] (by decide) rfl
    have hK9 := hK.sub (tys' := [(cN, .object "StreamSplitter$Lane"), (cJ, .long)]) [0, 1] rfl
    refine W.widen (k := 1) (n := 6) (by omega) (by omega) ?_
    exact W.iret (v := 0) hx hb hr (fun t ht hW => ⟨⟨_, (u9, r9), rfl, ⟨rfl, e4⟩, ⟨by rw [ht]; exact hP9, va_K.moved hW.alike hK9, hD9⟩⟩, hS.F ht⟩) hS.2.2 d_Law_clock_15
  · exact absurd eX (fun z => z)
set_option maxHeartbeats 4000000 in
set_option maxRecDepth 100000 in
theorem c_Law_plan_addG (l : Launch) (D : va_G) (hfl : l.stackTraces = false) (B0 : State) (hG : zG B0) (sz : Nat) (h rc d e0 : Nat) (cO : ClassId) (mo : Int32) (dst : Option (Nat × (Nat → Option Nat))) (DL : List DR9) (Q Im : va_W) (i : Int32) (pid : Nat) (cJ : ClassId) (o9 : Nat) (g9 : Nat → Int64) (he0 : zE0 B0 e0) (hdt : dtk Im dst DL) (hIm : ∀ y ∈ Im, y ∈ Q) (hok : ¬ (i < 1 ∨ 65535 < i ∨ nI pid < 0 ∨ 8191 < nI pid)) (hpid : pid < 8192) (hlt : DL.length < 4) : Met l y_Law_plan [Cond.codeWith y_Law_plan b_Law_plan 5 (some .int) [(0, 10, 13, 13)]] ({ frames := 6, cells := 3, slots := 16, locals := 123 }) (zMo [.ref h, .int i, .int (nI pid), .ref o9] D ([(h, .inr (11, [.ref rc, .ref d])), (o9, .inl (cJ, 1, .inr (.inl g9)))] ++ (dfl cO e0 d DL.length mo dst DL ++ Q)) [(cO, .object "java/lang/Object"), (cJ, .long)] sz B0) (va_Qi (fun r0 (u : (Option (Nat × (Nat → Option Nat)) × Nat × Nat) × Int32) => r0 = 0 ∧ (fun r0 (u : Option (Nat × (Nat → Option Nat)) × Nat × Nat) => r0 = nI (DL.length + 1) ∧ dtk Im u.1 (DL ++ [(u.2.1, i, pid, u.2.2, [], 0, none)])) u.2 u.1) (fun (u : (Option (Nat × (Nat → Option Nat)) × Nat × Nat) × Int32) t => zW D (va_A ([(h, .inr (11, [.ref rc, .ref d])), (o9, .inl (cJ, 1, .inr (.inl g9)))] ++ (dfl cO e0 d DL.length mo dst DL ++ Q)) sz) ([(h, .inr (11, [.ref rc, .ref d])), (o9, .inl (cJ, 1, .inr (.inl (vp_updL g9 0 u.2.toInt64))))] ++ (dfl cO e0 d ((DL ++ [(u.1.2.1, i, pid, u.1.2.2, [], 0, none)]).length) (mo + 1) u.1.1 (DL ++ [(u.1.2.1, i, pid, u.1.2.2, [], 0, none)]) ++ Q)) [(cO, .object "java/lang/Object"), (cJ, .long)] t) (va_A ([(h, .inr (11, [.ref rc, .ref d])), (o9, .inl (cJ, 1, .inr (.inl g9)))] ++ (dfl cO e0 d DL.length mo dst DL ++ Q)) sz)) 3 16 (va_A ([(h, .inr (11, [.ref rc, .ref d])), (o9, .inl (cJ, 1, .inr (.inl g9)))] ++ (dfl cO e0 d DL.length mo dst DL ++ Q)) sz) := by
  refine va_MetW (cc := b_Law_plan) (maxL := 5) (ret := (some .int)) (hh := [(0, 10, 13, 13)]) (by decide) rfl ?_
  intro p e s m args below meth cd s₁ Bd hml hv
  obtain ⟨rfl, hsz, hP, hK, hN, hD0, hO⟩ := hv
  have hx := Bd.exec
  have hb := Bd.bytes
  have hr := Bd.returns
  have hts := hN.use (a := ([.ref h, .int i, .int (nI pid), .ref o9]).toArray)
  have hown : s.vm.findClass R_Law = some m.cls := findClass_of_methodNamed Bd.named
  have hlocks := Bd.notSynchronized
  have htab := z_tab Bd
  subst hsz
  have hD := hD0.self (sz := s.heap.size)
  have hAO := z_AO hD0 hO
  clear hD0
  have hA : ∀ q : Nat, s.heap.size ≤ q → va_A ([(h, .inr (11, [.ref rc, .ref d])), (o9, .inl (cJ, 1, .inr (.inl g9)))] ++ (dfl cO e0 d DL.length mo dst DL ++ Q)) s.heap.size q := fun q h => Or.inr h
  have hS : va_S (va_A ([(h, .inr (11, [.ref rc, .ref d])), (o9, .inl (cJ, 1, .inr (.inl g9)))] ++ (dfl cO e0 d DL.length mo dst DL ++ Q)) s.heap.size) s.heap s.heap [] := va_S.rf
  generalize hAe : va_A ([(h, .inr (11, [.ref rc, .ref d])), (o9, .inl (cJ, 1, .inr (.inl g9)))] ++ (dfl cO e0 d DL.length mo dst DL ++ Q)) s.heap.size = A at hD hA hS hAO ⊢
  have hP : va_P D classes ([(h, .inr (11, [.ref rc, .ref d])), (o9, .inl (cJ, 1, .inr (.inl g9)))] ++ (dfl cO e0 d DL.length mo dst DL ++ Q)) s.heap := hP
  have hl := lv_entry ([.ref h, .int i, .int (nI pid), .ref o9]) (n := 5) (Nat.le_of_ble_eq_true rfl)
  rw [lg_entry_eq]
  generalize (lg_sl ([.ref h, .int i, .int (nI pid), .ref o9]) ++ List.replicate (5 - (lg_sl ([.ref h, .int i, .int (nI pid), .ref o9])).length) Slot.unset).toArray = ls at hl ⊢
  have hl : lv_has ls 5 [(0, .ref h), (1, .int i), (2, .int (nI pid)), (3, .ref o9)] := hl
  refine lv_aload_n hx hb d_Law_plan_0 rfl (lv_at hl 3 rfl) ?_
  refine lv_iconst (v := 0) hx hb d_Law_plan_1 (by decide) ?_
  refine lv_aload_n hx hb d_Law_plan_2 rfl (lv_at hl 0 rfl) ?_
  refine lv_iload_n hx hb d_Law_plan_3 rfl (lv_at hl 1 rfl) ?_
  refine lv_iload_n hx hb d_Law_plan_4 rfl (lv_at hl 2 rfl) ?_
  have hPc := hP.part (cx := [(h, .inr (11, [.ref rc, .ref d]))]) [0] rfl
  have hKc := hK.sub (tys' := [(cO, .object "java/lang/Object")]) [0] rfl
  have hDc := hD.part (cx := [(h, .inr (11, [.ref rc, .ref d]))]) [0] (by decide) rfl
  have hFc := va_freeP (cx := [(h, .inr (11, [.ref rc, .ref d]))]) hD hS hA [0] rfl
  refine z_callVTi (As := [.int i, .int (nI pid)]) (rest := [.int 0, .ref o9]) ⟨hx, hb, hml, hown, hts⟩ (c_SS_plan_add l D hfl B0 hG s.heap.size h rc d e0 cO mo dst DL Q Im i pid he0 hdt hIm hok hpid hlt) (z_cV hN wd_892 wd_59 wd_889 hd_SS_plan rfl rfl ⟨Nat.le_of_ble_eq_true rfl, Nat.le_of_ble_eq_true rfl⟩ wd_890 wd_891) (z_preVo (va_recv (ci := 11) (q0 := 0) hK hP rfl rfl) hPc hKc hN hDc hO hS hAO) rfl hl.1 rfl (lv_room (Nat.le_of_ble_eq_true rfl)) d_Law_plan_5 ⟨Nat.le_of_ble_eq_true rfl, Nat.le_of_ble_eq_true rfl⟩ hS (fun q _ h => hFc q h) hFc (fun r9 u9 t H locs ht hvm e5 hB hz1 hk1 hS => ?_) (fun X x H locs eX hcx hz1 hk1 hS => ?_)
  · obtain ⟨hP1, hK1, hD1⟩ := hB
    rw [ht] at hP1
    obtain ⟨hP, hD⟩ := va_joinP (wr := [(o9, .inl (cJ, 1, .inr (.inl g9)))]) (rx := [(h, .inr (11, [.ref rc, .ref d]))]) hP hD [0] [1] rfl rfl (by decide) (by decide) hk1 hFc hP1 hD1
    clear hk1 hP1 hD1 hFc hPc hDc hz1
    have hP : va_P D classes ([(o9, .inl (cJ, 1, .inr (.inl g9))), (h, .inr (11, [.ref rc, .ref d]))] ++ (dfl cO e0 d ((DL ++ [(u9.2.1, i, pid, u9.2.2, [], 0, none)]).length) (mo + 1) u9.1 (DL ++ [(u9.2.1, i, pid, u9.2.2, [], 0, none)]) ++ Q)) H := hP
    have hD : va_D A ([(o9, .inl (cJ, 1, .inr (.inl g9))), (h, .inr (11, [.ref rc, .ref d]))] ++ (dfl cO e0 d ((DL ++ [(u9.2.1, i, pid, u9.2.2, [], 0, none)]).length) (mo + 1) u9.1 (DL ++ [(u9.2.1, i, pid, u9.2.2, [], 0, none)]) ++ Q)) := hD
    refine lv_i2l (v := r9.toInt64) hx hb d_Law_plan_8 rfl ?_
    refine z_last hx hb hK hP hD hS 0 1 rfl rfl 0 rfl (by decide) (by decide) d_Law_plan_9 (fun H locs hP hD hS => ?_)
    have hP : va_P D classes ([(o9, .inl (cJ, 1, .inr (.inl (vp_updL g9 0 r9.toInt64)))), (h, .inr (11, [.ref rc, .ref d]))] ++ (dfl cO e0 d ((DL ++ [(u9.2.1, i, pid, u9.2.2, [], 0, none)]).length) (mo + 1) u9.1 (DL ++ [(u9.2.1, i, pid, u9.2.2, [], 0, none)]) ++ Q)) H := hP
    have hD : va_D A ([(o9, .inl (cJ, 1, .inr (.inl (vp_updL g9 0 r9.toInt64)))), (h, .inr (11, [.ref rc, .ref d]))] ++ (dfl cO e0 d ((DL ++ [(u9.2.1, i, pid, u9.2.2, [], 0, none)]).length) (mo + 1) u9.1 (DL ++ [(u9.2.1, i, pid, u9.2.2, [], 0, none)]) ++ Q)) := hD
    refine lv_goto (tgt := 17) hx hb d_Law_plan_10 rfl ?_
    refine lv_iconst (v := 0) hx hb d_Law_plan_17 (by decide) ?_
    have hP9 := hP.part (cx := [(h, .inr (11, [.ref rc, .ref d])), (o9, .inl (cJ, 1, .inr (.inl (vp_updL g9 0 r9.toInt64))))]) [1, 0] rfl
    have hD9 := hD.part (cx := [(h, .inr (11, [.ref rc, .ref d])), (o9, .inl (cJ, 1, .inr (.inl (vp_updL g9 0 r9.toInt64))))]) [1, 0] (by decide) rfl
    have hK9 := hK.sub (tys' := [(cO, .object "java/lang/Object"), (cJ, .long)]) [0, 1] rfl
    refine W.widen (k := 3) (n := 16) (by omega) (by omega) ?_
    exact W.iret (v := 0) hx hb hr (fun t ht hW => ⟨⟨_, (u9, r9), rfl, ⟨rfl, e5⟩, ⟨by rw [ht]; exact hP9, va_K.moved hW.alike hK9, hD9⟩⟩, hS.F ht⟩) hS.2.2 d_Law_plan_18
  · exact absurd eX (fun z => z)
set_option maxHeartbeats 4000000 in
set_option maxRecDepth 100000 in
theorem c_Law_plan_fullG (l : Launch) (D : va_G) (hfl : l.stackTraces = false) (B0 : State) (hG : zG B0) (sz : Nat) (h rc d e0 : Nat) (cO : ClassId) (mo : Int32) (dst : Option (Nat × (Nat → Option Nat))) (DL : List DR9) (Q Im : va_W) (i : Int32) (pid : Nat) (cJ : ClassId) (o9 : Nat) (g9 : Nat → Int64) (he0 : zE0 B0 e0) (hdt : dtk Im dst DL) (hIm : ∀ y ∈ Im, y ∈ Q) (hok : ¬ (i < 1 ∨ 65535 < i ∨ nI pid < 0 ∨ 8191 < nI pid)) (hpid : pid < 8192) (hge : DL.length = 4) : Met l y_Law_plan [Cond.codeWith y_Law_plan b_Law_plan 5 (some .int) [(0, 10, 13, 13)]] ({ frames := 2, cells := 3, slots := 16, locals := 42 }) (zMo [.ref h, .int i, .int (nI pid), .ref o9] D ([(h, .inr (11, [.ref rc, .ref d])), (o9, .inl (cJ, 1, .inr (.inl g9)))] ++ (dfl cO e0 d DL.length mo dst DL ++ Q)) [(cO, .object "java/lang/Object"), (cJ, .long)] sz B0) (va_Qi (fun r0 (u : (Unit) × Int32) => r0 = 0 ∧ (fun r0 (_ : Unit) => r0 = -1) u.2 u.1) (fun (u : (Unit) × Int32) t => zW D (va_A ([(h, .inr (11, [.ref rc, .ref d])), (o9, .inl (cJ, 1, .inr (.inl g9)))] ++ (dfl cO e0 d DL.length mo dst DL ++ Q)) sz) ([(h, .inr (11, [.ref rc, .ref d])), (o9, .inl (cJ, 1, .inr (.inl (vp_updL g9 0 u.2.toInt64))))] ++ (dfl cO e0 d DL.length mo dst DL ++ Q)) [(cO, .object "java/lang/Object"), (cJ, .long)] t) (va_A ([(h, .inr (11, [.ref rc, .ref d])), (o9, .inl (cJ, 1, .inr (.inl g9)))] ++ (dfl cO e0 d DL.length mo dst DL ++ Q)) sz)) 3 16 (va_A ([(h, .inr (11, [.ref rc, .ref d])), (o9, .inl (cJ, 1, .inr (.inl g9)))] ++ (dfl cO e0 d DL.length mo dst DL ++ Q)) sz) := by
  refine va_MetW (cc := b_Law_plan) (maxL := 5) (ret := (some .int)) (hh := [(0, 10, 13, 13)]) (by decide) rfl ?_
  intro p e s m args below meth cd s₁ Bd hml hv
  obtain ⟨rfl, hsz, hP, hK, hN, hD0, hO⟩ := hv
  have hx := Bd.exec
  have hb := Bd.bytes
  have hr := Bd.returns
  have hts := hN.use (a := ([.ref h, .int i, .int (nI pid), .ref o9]).toArray)
  have hown : s.vm.findClass R_Law = some m.cls := findClass_of_methodNamed Bd.named
  have hlocks := Bd.notSynchronized
  have htab := z_tab Bd
  subst hsz
  have hD := hD0.self (sz := s.heap.size)
  have hAO := z_AO hD0 hO
  clear hD0
  have hA : ∀ q : Nat, s.heap.size ≤ q → va_A ([(h, .inr (11, [.ref rc, .ref d])), (o9, .inl (cJ, 1, .inr (.inl g9)))] ++ (dfl cO e0 d DL.length mo dst DL ++ Q)) s.heap.size q := fun q h => Or.inr h
  have hS : va_S (va_A ([(h, .inr (11, [.ref rc, .ref d])), (o9, .inl (cJ, 1, .inr (.inl g9)))] ++ (dfl cO e0 d DL.length mo dst DL ++ Q)) s.heap.size) s.heap s.heap [] := va_S.rf
  generalize hAe : va_A ([(h, .inr (11, [.ref rc, .ref d])), (o9, .inl (cJ, 1, .inr (.inl g9)))] ++ (dfl cO e0 d DL.length mo dst DL ++ Q)) s.heap.size = A at hD hA hS hAO ⊢
  have hP : va_P D classes ([(h, .inr (11, [.ref rc, .ref d])), (o9, .inl (cJ, 1, .inr (.inl g9)))] ++ (dfl cO e0 d DL.length mo dst DL ++ Q)) s.heap := hP
  have hl := lv_entry ([.ref h, .int i, .int (nI pid), .ref o9]) (n := 5) (Nat.le_of_ble_eq_true rfl)
  rw [lg_entry_eq]
  generalize (lg_sl ([.ref h, .int i, .int (nI pid), .ref o9]) ++ List.replicate (5 - (lg_sl ([.ref h, .int i, .int (nI pid), .ref o9])).length) Slot.unset).toArray = ls at hl ⊢
  have hl : lv_has ls 5 [(0, .ref h), (1, .int i), (2, .int (nI pid)), (3, .ref o9)] := hl
  refine lv_aload_n hx hb d_Law_plan_0 rfl (lv_at hl 3 rfl) ?_
  refine lv_iconst (v := 0) hx hb d_Law_plan_1 (by decide) ?_
  refine lv_aload_n hx hb d_Law_plan_2 rfl (lv_at hl 0 rfl) ?_
  refine lv_iload_n hx hb d_Law_plan_3 rfl (lv_at hl 1 rfl) ?_
  refine lv_iload_n hx hb d_Law_plan_4 rfl (lv_at hl 2 rfl) ?_
  have hPc := hP.part (cx := [(h, .inr (11, [.ref rc, .ref d]))]) [0] rfl
  have hKc := hK.sub (tys' := [(cO, .object "java/lang/Object")]) [0] rfl
  have hDc := hD.part (cx := [(h, .inr (11, [.ref rc, .ref d]))]) [0] (by decide) rfl
  have hFc := va_freeP (cx := [(h, .inr (11, [.ref rc, .ref d]))]) hD hS hA [0] rfl
  refine z_callVTi (As := [.int i, .int (nI pid)]) (rest := [.int 0, .ref o9]) ⟨hx, hb, hml, hown, hts⟩ (c_SS_plan_full l D hfl B0 hG s.heap.size h rc d e0 cO mo dst DL Q Im i pid he0 hdt hIm hok hpid hge) (z_cV hN wd_892 wd_59 wd_889 hd_SS_plan rfl rfl ⟨Nat.le_of_ble_eq_true rfl, Nat.le_of_ble_eq_true rfl⟩ wd_890 wd_891) (z_preVo (va_recv (ci := 11) (q0 := 0) hK hP rfl rfl) hPc hKc hN hDc hO hS hAO) rfl hl.1 rfl (lv_room (Nat.le_of_ble_eq_true rfl)) d_Law_plan_5 ⟨Nat.le_of_ble_eq_true rfl, Nat.le_of_ble_eq_true rfl⟩ hS (fun q _ h => hFc q h) hFc (fun r9 u9 t H locs ht hvm e5 hB hz1 hk1 hS => ?_) (fun X x H locs eX hcx hz1 hk1 hS => ?_)
  · obtain ⟨hP1, hK1, hD1⟩ := hB
    rw [ht] at hP1
    obtain ⟨hP, hD⟩ := va_joinP (wr := [(o9, .inl (cJ, 1, .inr (.inl g9)))]) (rx := [(h, .inr (11, [.ref rc, .ref d]))]) hP hD [0] [1] rfl rfl (by decide) (by decide) hk1 hFc hP1 hD1
    clear hk1 hP1 hD1 hFc hPc hDc hz1
    have hP : va_P D classes ([(o9, .inl (cJ, 1, .inr (.inl g9))), (h, .inr (11, [.ref rc, .ref d]))] ++ (dfl cO e0 d DL.length mo dst DL ++ Q)) H := hP
    have hD : va_D A ([(o9, .inl (cJ, 1, .inr (.inl g9))), (h, .inr (11, [.ref rc, .ref d]))] ++ (dfl cO e0 d DL.length mo dst DL ++ Q)) := hD
    refine lv_i2l (v := r9.toInt64) hx hb d_Law_plan_8 rfl ?_
    refine z_last hx hb hK hP hD hS 0 1 rfl rfl 0 rfl (by decide) (by decide) d_Law_plan_9 (fun H locs hP hD hS => ?_)
    have hP : va_P D classes ([(o9, .inl (cJ, 1, .inr (.inl (vp_updL g9 0 r9.toInt64)))), (h, .inr (11, [.ref rc, .ref d]))] ++ (dfl cO e0 d DL.length mo dst DL ++ Q)) H := hP
    have hD : va_D A ([(o9, .inl (cJ, 1, .inr (.inl (vp_updL g9 0 r9.toInt64)))), (h, .inr (11, [.ref rc, .ref d]))] ++ (dfl cO e0 d DL.length mo dst DL ++ Q)) := hD
    refine lv_goto (tgt := 17) hx hb d_Law_plan_10 rfl ?_
    refine lv_iconst (v := 0) hx hb d_Law_plan_17 (by decide) ?_
    have hP9 := hP.part (cx := [(h, .inr (11, [.ref rc, .ref d])), (o9, .inl (cJ, 1, .inr (.inl (vp_updL g9 0 r9.toInt64))))]) [1, 0] rfl
    have hD9 := hD.part (cx := [(h, .inr (11, [.ref rc, .ref d])), (o9, .inl (cJ, 1, .inr (.inl (vp_updL g9 0 r9.toInt64))))]) [1, 0] (by decide) rfl
    have hK9 := hK.sub (tys' := [(cO, .object "java/lang/Object"), (cJ, .long)]) [0, 1] rfl
    refine W.widen (k := 3) (n := 16) (by omega) (by omega) ?_
    exact W.iret (v := 0) hx hb hr (fun t ht hW => ⟨⟨_, (u9, r9), rfl, ⟨rfl, e5⟩, ⟨by rw [ht]; exact hP9, va_K.moved hW.alike hK9, hD9⟩⟩, hS.F ht⟩) hS.2.2 d_Law_plan_18
  · exact absurd eX (fun z => z)
set_option maxHeartbeats 4000000 in
set_option maxRecDepth 100000 in
theorem c_Law_addStream_fullG (l : Launch) (D : va_G) (hfl : l.stackTraces = false) (B0 : State) (hG : zG B0) (sz : Nat) (h rc d e0 : Nat) (cO : ClassId) (mo : Int32) (dst : Option (Nat × (Nat → Option Nat))) (DL : List DR9) (Q Im : va_W) (k : Nat) (ty : Int32) (pid : Nat) (cJ : ClassId) (o9 : Nat) (g9 : Nat → Int64) (he0 : zE0 B0 e0) (hdt : dtk Im dst DL) (hIm : ∀ y ∈ Im, y ∈ Q) (hk : k < DL.length) (hok : ¬ (ty < 0 ∨ 255 < ty ∨ nI pid < 0 ∨ 8191 < nI pid)) (hpid : pid < 8192) (hge : (DL.getD k dr0).2.2.2.2.1.length = 4) : Met l y_Law_addStream [Cond.codeWith y_Law_addStream b_Law_addStream 6 (some .int) [(0, 12, 15, 19), (0, 12, 19, 13)]] ({ frames := 4, cells := 3, slots := 16, locals := 88 }) (zMo [.ref h, .int (nI k), .int ty, .int (nI pid), .ref o9] D ([(h, .inr (11, [.ref rc, .ref d])), (o9, .inl (cJ, 1, .inr (.inl g9)))] ++ (dfl cO e0 d DL.length mo dst DL ++ Q)) [(cO, .object "java/lang/Object"), (cJ, .long)] sz B0) (va_Qi (fun r0 (u : (Unit) × Int32) => r0 = 0 ∧ (fun r0 (_ : Unit) => r0 = -1) u.2 u.1) (fun (u : (Unit) × Int32) t => zW D (va_A ([(h, .inr (11, [.ref rc, .ref d])), (o9, .inl (cJ, 1, .inr (.inl g9)))] ++ (dfl cO e0 d DL.length mo dst DL ++ Q)) sz) ([(h, .inr (11, [.ref rc, .ref d])), (o9, .inl (cJ, 1, .inr (.inl (vp_updL g9 0 u.2.toInt64))))] ++ (dfl cO e0 d DL.length mo dst DL ++ Q)) [(cO, .object "java/lang/Object"), (cJ, .long)] t) (va_A ([(h, .inr (11, [.ref rc, .ref d])), (o9, .inl (cJ, 1, .inr (.inl g9)))] ++ (dfl cO e0 d DL.length mo dst DL ++ Q)) sz)) 3 16 (va_A ([(h, .inr (11, [.ref rc, .ref d])), (o9, .inl (cJ, 1, .inr (.inl g9)))] ++ (dfl cO e0 d DL.length mo dst DL ++ Q)) sz) := by
  refine va_MetW (cc := b_Law_addStream) (maxL := 6) (ret := (some .int)) (hh := [(0, 12, 15, 19), (0, 12, 19, 13)]) (by decide) rfl ?_
  intro p e s m args below meth cd s₁ Bd hml hv
  obtain ⟨rfl, hsz, hP, hK, hN, hD0, hO⟩ := hv
  have hx := Bd.exec
  have hb := Bd.bytes
  have hr := Bd.returns
  have hts := hN.use (a := ([.ref h, .int (nI k), .int ty, .int (nI pid), .ref o9]).toArray)
  have hown : s.vm.findClass R_Law = some m.cls := findClass_of_methodNamed Bd.named
  have hlocks := Bd.notSynchronized
  have htab := z_tab Bd
  subst hsz
  have hD := hD0.self (sz := s.heap.size)
  have hAO := z_AO hD0 hO
  clear hD0
  have hA : ∀ q : Nat, s.heap.size ≤ q → va_A ([(h, .inr (11, [.ref rc, .ref d])), (o9, .inl (cJ, 1, .inr (.inl g9)))] ++ (dfl cO e0 d DL.length mo dst DL ++ Q)) s.heap.size q := fun q h => Or.inr h
  have hS : va_S (va_A ([(h, .inr (11, [.ref rc, .ref d])), (o9, .inl (cJ, 1, .inr (.inl g9)))] ++ (dfl cO e0 d DL.length mo dst DL ++ Q)) s.heap.size) s.heap s.heap [] := va_S.rf
  generalize hAe : va_A ([(h, .inr (11, [.ref rc, .ref d])), (o9, .inl (cJ, 1, .inr (.inl g9)))] ++ (dfl cO e0 d DL.length mo dst DL ++ Q)) s.heap.size = A at hD hA hS hAO ⊢
  have hP : va_P D classes ([(h, .inr (11, [.ref rc, .ref d])), (o9, .inl (cJ, 1, .inr (.inl g9)))] ++ (dfl cO e0 d DL.length mo dst DL ++ Q)) s.heap := hP
  have hl := lv_entry ([.ref h, .int (nI k), .int ty, .int (nI pid), .ref o9]) (n := 6) (Nat.le_of_ble_eq_true rfl)
  rw [lg_entry_eq]
  generalize (lg_sl ([.ref h, .int (nI k), .int ty, .int (nI pid), .ref o9]) ++ List.replicate (6 - (lg_sl ([.ref h, .int (nI k), .int ty, .int (nI pid), .ref o9])).length) Slot.unset).toArray = ls at hl ⊢
  have hl : lv_has ls 6 [(0, .ref h), (1, .int (nI k)), (2, .int ty), (3, .int (nI pid)), (4, .ref o9)] := hl
  refine lv_aload hx hb d_Law_addStream_0 (lv_at hl 4 rfl) ?_
  refine lv_iconst (v := 0) hx hb d_Law_addStream_2 (by decide) ?_
  refine lv_aload_n hx hb d_Law_addStream_3 rfl (lv_at hl 0 rfl) ?_
  refine lv_iload_n hx hb d_Law_addStream_4 rfl (lv_at hl 1 rfl) ?_
  refine lv_iload_n hx hb d_Law_addStream_5 rfl (lv_at hl 2 rfl) ?_
  refine lv_iload_n hx hb d_Law_addStream_6 rfl (lv_at hl 3 rfl) ?_
  have hPc := hP.part (cx := [(h, .inr (11, [.ref rc, .ref d]))]) [0] rfl
  have hKc := hK.sub (tys' := [(cO, .object "java/lang/Object")]) [0] rfl
  have hDc := hD.part (cx := [(h, .inr (11, [.ref rc, .ref d]))]) [0] (by decide) rfl
  have hFc := va_freeP (cx := [(h, .inr (11, [.ref rc, .ref d]))]) hD hS hA [0] rfl
  refine z_callVTi (As := [.int (nI k), .int ty, .int (nI pid)]) (rest := [.int 0, .ref o9]) ⟨hx, hb, hml, hown, hts⟩ (c_SS_addStream_full l D hfl B0 hG s.heap.size h rc d e0 cO mo dst DL Q Im k ty pid he0 hdt hIm hk hok hpid hge) (z_cV hN wd_925 wd_59 wd_922 hd_SS_addStream rfl rfl ⟨Nat.le_of_ble_eq_true rfl, Nat.le_of_ble_eq_true rfl⟩ wd_923 wd_924) (z_preVo (va_recv (ci := 11) (q0 := 0) hK hP rfl rfl) hPc hKc hN hDc hO hS hAO) rfl hl.1 rfl (lv_room (Nat.le_of_ble_eq_true rfl)) d_Law_addStream_7 ⟨Nat.le_of_ble_eq_true rfl, Nat.le_of_ble_eq_true rfl⟩ hS (fun q _ h => hFc q h) hFc (fun r9 u9 t H locs ht hvm e7 hB hz1 hk1 hS => ?_) (fun X x H locs eX hcx hz1 hk1 hS => ?_)
  · obtain ⟨hP1, hK1, hD1⟩ := hB
    rw [ht] at hP1
    obtain ⟨hP, hD⟩ := va_joinP (wr := [(o9, .inl (cJ, 1, .inr (.inl g9)))]) (rx := [(h, .inr (11, [.ref rc, .ref d]))]) hP hD [0] [1] rfl rfl (by decide) (by decide) hk1 hFc hP1 hD1
    clear hk1 hP1 hD1 hFc hPc hDc hz1
    have hP : va_P D classes ([(o9, .inl (cJ, 1, .inr (.inl g9))), (h, .inr (11, [.ref rc, .ref d]))] ++ (dfl cO e0 d DL.length mo dst DL ++ Q)) H := hP
    have hD : va_D A ([(o9, .inl (cJ, 1, .inr (.inl g9))), (h, .inr (11, [.ref rc, .ref d]))] ++ (dfl cO e0 d DL.length mo dst DL ++ Q)) := hD
    refine lv_i2l (v := r9.toInt64) hx hb d_Law_addStream_10 rfl ?_
    refine z_last hx hb hK hP hD hS 0 1 rfl rfl 0 rfl (by decide) (by decide) d_Law_addStream_11 (fun H locs hP hD hS => ?_)
    have hP : va_P D classes ([(o9, .inl (cJ, 1, .inr (.inl (vp_updL g9 0 r9.toInt64)))), (h, .inr (11, [.ref rc, .ref d]))] ++ (dfl cO e0 d DL.length mo dst DL ++ Q)) H := hP
    have hD : va_D A ([(o9, .inl (cJ, 1, .inr (.inl (vp_updL g9 0 r9.toInt64)))), (h, .inr (11, [.ref rc, .ref d]))] ++ (dfl cO e0 d DL.length mo dst DL ++ Q)) := hD
    refine lv_goto (tgt := 23) hx hb d_Law_addStream_12 rfl ?_
    refine lv_iconst (v := 0) hx hb d_Law_addStream_23 (by decide) ?_
    have hP9 := hP.part (cx := [(h, .inr (11, [.ref rc, .ref d])), (o9, .inl (cJ, 1, .inr (.inl (vp_updL g9 0 r9.toInt64))))]) [1, 0] rfl
    have hD9 := hD.part (cx := [(h, .inr (11, [.ref rc, .ref d])), (o9, .inl (cJ, 1, .inr (.inl (vp_updL g9 0 r9.toInt64))))]) [1, 0] (by decide) rfl
    have hK9 := hK.sub (tys' := [(cO, .object "java/lang/Object"), (cJ, .long)]) [0, 1] rfl
    refine W.widen (k := 3) (n := 16) (by omega) (by omega) ?_
    exact W.iret (v := 0) hx hb hr (fun t ht hW => ⟨⟨_, (u9, r9), rfl, ⟨rfl, e7⟩, ⟨by rw [ht]; exact hP9, va_K.moved hW.alike hK9, hD9⟩⟩, hS.F ht⟩) hS.2.2 d_Law_addStream_24
  · exact absurd eX (fun z => z)
set_option maxHeartbeats 4000000 in
set_option maxRecDepth 100000 in
theorem c_Law_addStream_addG (l : Launch) (D : va_G) (hfl : l.stackTraces = false) (B0 : State) (hG : zG B0) (sz : Nat) (h rc d e0 : Nat) (cO : ClassId) (mo : Int32) (dst : Option (Nat × (Nat → Option Nat))) (DL : List DR9) (Q Im : va_W) (k : Nat) (ty : Int32) (pid : Nat) (cJ : ClassId) (o9 : Nat) (g9 : Nat → Int64) (he0 : zE0 B0 e0) (hdt : dtk Im dst DL) (hIm : ∀ y ∈ Im, y ∈ Q) (hk : k < DL.length) (hok : ¬ (ty < 0 ∨ 255 < ty ∨ nI pid < 0 ∨ 8191 < nI pid)) (hpid : pid < 8192) (hlt : (DL.getD k dr0).2.2.2.2.1.length < 4) : Met l y_Law_addStream [Cond.codeWith y_Law_addStream b_Law_addStream 6 (some .int) [(0, 12, 15, 19), (0, 12, 19, 13)]] ({ frames := 6, cells := 3, slots := 16, locals := 125 }) (zMo [.ref h, .int (nI k), .int ty, .int (nI pid), .ref o9] D ([(h, .inr (11, [.ref rc, .ref d])), (o9, .inl (cJ, 1, .inr (.inl g9)))] ++ (dfl cO e0 d DL.length mo dst DL ++ Q)) [(cO, .object "java/lang/Object"), (cJ, .long)] sz B0) (va_Qi (fun r0 (u : (Option (Nat × (Nat → Option Nat)) × Nat) × Int32) => r0 = 0 ∧ (fun r0 (u : Option (Nat × (Nat → Option Nat)) × Nat) => r0 = nI ((DL.getD k dr0).2.2.2.2.1.length + 1) ∧ dtk ((u.2, smE ty pid) :: Im) dst (DL.set k ((DL.getD k dr0).1, (DL.getD k dr0).2.1, (DL.getD k dr0).2.2.1, (DL.getD k dr0).2.2.2.1, (DL.getD k dr0).2.2.2.2.1 ++ [(ty, pid)], (DL.getD k dr0).2.2.2.2.2.1 + 1, u.1))) u.2 u.1) (fun (u : (Option (Nat × (Nat → Option Nat)) × Nat) × Int32) t => zW D (va_A ([(h, .inr (11, [.ref rc, .ref d])), (o9, .inl (cJ, 1, .inr (.inl g9)))] ++ (dfl cO e0 d DL.length mo dst DL ++ Q)) sz) ([(h, .inr (11, [.ref rc, .ref d])), (o9, .inl (cJ, 1, .inr (.inl (vp_updL g9 0 u.2.toInt64))))] ++ (dfl cO e0 d DL.length mo dst (DL.set k ((DL.getD k dr0).1, (DL.getD k dr0).2.1, (DL.getD k dr0).2.2.1, (DL.getD k dr0).2.2.2.1, (DL.getD k dr0).2.2.2.2.1 ++ [(ty, pid)], (DL.getD k dr0).2.2.2.2.2.1 + 1, u.1.1)) ++ ((u.1.2, smE ty pid) :: Q))) [(cO, .object "java/lang/Object"), (cJ, .long)] t) (va_A ([(h, .inr (11, [.ref rc, .ref d])), (o9, .inl (cJ, 1, .inr (.inl g9)))] ++ (dfl cO e0 d DL.length mo dst DL ++ Q)) sz)) 3 16 (va_A ([(h, .inr (11, [.ref rc, .ref d])), (o9, .inl (cJ, 1, .inr (.inl g9)))] ++ (dfl cO e0 d DL.length mo dst DL ++ Q)) sz) := by
  refine va_MetW (cc := b_Law_addStream) (maxL := 6) (ret := (some .int)) (hh := [(0, 12, 15, 19), (0, 12, 19, 13)]) (by decide) rfl ?_
  intro p e s m args below meth cd s₁ Bd hml hv
  obtain ⟨rfl, hsz, hP, hK, hN, hD0, hO⟩ := hv
  have hx := Bd.exec
  have hb := Bd.bytes
  have hr := Bd.returns
  have hts := hN.use (a := ([.ref h, .int (nI k), .int ty, .int (nI pid), .ref o9]).toArray)
  have hown : s.vm.findClass R_Law = some m.cls := findClass_of_methodNamed Bd.named
  have hlocks := Bd.notSynchronized
  have htab := z_tab Bd
  subst hsz
  have hD := hD0.self (sz := s.heap.size)
  have hAO := z_AO hD0 hO
  clear hD0
  have hA : ∀ q : Nat, s.heap.size ≤ q → va_A ([(h, .inr (11, [.ref rc, .ref d])), (o9, .inl (cJ, 1, .inr (.inl g9)))] ++ (dfl cO e0 d DL.length mo dst DL ++ Q)) s.heap.size q := fun q h => Or.inr h
  have hS : va_S (va_A ([(h, .inr (11, [.ref rc, .ref d])), (o9, .inl (cJ, 1, .inr (.inl g9)))] ++ (dfl cO e0 d DL.length mo dst DL ++ Q)) s.heap.size) s.heap s.heap [] := va_S.rf
  generalize hAe : va_A ([(h, .inr (11, [.ref rc, .ref d])), (o9, .inl (cJ, 1, .inr (.inl g9)))] ++ (dfl cO e0 d DL.length mo dst DL ++ Q)) s.heap.size = A at hD hA hS hAO ⊢
  have hP : va_P D classes ([(h, .inr (11, [.ref rc, .ref d])), (o9, .inl (cJ, 1, .inr (.inl g9)))] ++ (dfl cO e0 d DL.length mo dst DL ++ Q)) s.heap := hP
  have hl := lv_entry ([.ref h, .int (nI k), .int ty, .int (nI pid), .ref o9]) (n := 6) (Nat.le_of_ble_eq_true rfl)
  rw [lg_entry_eq]
  generalize (lg_sl ([.ref h, .int (nI k), .int ty, .int (nI pid), .ref o9]) ++ List.replicate (6 - (lg_sl ([.ref h, .int (nI k), .int ty, .int (nI pid), .ref o9])).length) Slot.unset).toArray = ls at hl ⊢
  have hl : lv_has ls 6 [(0, .ref h), (1, .int (nI k)), (2, .int ty), (3, .int (nI pid)), (4, .ref o9)] := hl
  refine lv_aload hx hb d_Law_addStream_0 (lv_at hl 4 rfl) ?_
  refine lv_iconst (v := 0) hx hb d_Law_addStream_2 (by decide) ?_
  refine lv_aload_n hx hb d_Law_addStream_3 rfl (lv_at hl 0 rfl) ?_
  refine lv_iload_n hx hb d_Law_addStream_4 rfl (lv_at hl 1 rfl) ?_
  refine lv_iload_n hx hb d_Law_addStream_5 rfl (lv_at hl 2 rfl) ?_
  refine lv_iload_n hx hb d_Law_addStream_6 rfl (lv_at hl 3 rfl) ?_
  have hPc := hP.part (cx := [(h, .inr (11, [.ref rc, .ref d]))]) [0] rfl
  have hKc := hK.sub (tys' := [(cO, .object "java/lang/Object")]) [0] rfl
  have hDc := hD.part (cx := [(h, .inr (11, [.ref rc, .ref d]))]) [0] (by decide) rfl
  have hFc := va_freeP (cx := [(h, .inr (11, [.ref rc, .ref d]))]) hD hS hA [0] rfl
  refine z_callVTi (As := [.int (nI k), .int ty, .int (nI pid)]) (rest := [.int 0, .ref o9]) ⟨hx, hb, hml, hown, hts⟩ (c_SS_addStream_add l D hfl B0 hG s.heap.size h rc d e0 cO mo dst DL Q Im k ty pid he0 hdt hIm hk hok hpid hlt) (z_cV hN wd_925 wd_59 wd_922 hd_SS_addStream rfl rfl ⟨Nat.le_of_ble_eq_true rfl, Nat.le_of_ble_eq_true rfl⟩ wd_923 wd_924) (z_preVo (va_recv (ci := 11) (q0 := 0) hK hP rfl rfl) hPc hKc hN hDc hO hS hAO) rfl hl.1 rfl (lv_room (Nat.le_of_ble_eq_true rfl)) d_Law_addStream_7 ⟨Nat.le_of_ble_eq_true rfl, Nat.le_of_ble_eq_true rfl⟩ hS (fun q _ h => hFc q h) hFc (fun r9 u9 t H locs ht hvm e7 hB hz1 hk1 hS => ?_) (fun X x H locs eX hcx hz1 hk1 hS => ?_)
  · obtain ⟨hP1, hK1, hD1⟩ := hB
    rw [ht] at hP1
    obtain ⟨hP, hD⟩ := va_joinP (wr := [(o9, .inl (cJ, 1, .inr (.inl g9)))]) (rx := [(h, .inr (11, [.ref rc, .ref d]))]) hP hD [0] [1] rfl rfl (by decide) (by decide) hk1 hFc hP1 hD1
    clear hk1 hP1 hD1 hFc hPc hDc hz1
    have hP : va_P D classes ([(o9, .inl (cJ, 1, .inr (.inl g9))), (h, .inr (11, [.ref rc, .ref d]))] ++ (dfl cO e0 d DL.length mo dst (DL.set k ((DL.getD k dr0).1, (DL.getD k dr0).2.1, (DL.getD k dr0).2.2.1, (DL.getD k dr0).2.2.2.1, (DL.getD k dr0).2.2.2.2.1 ++ [(ty, pid)], (DL.getD k dr0).2.2.2.2.2.1 + 1, u9.1)) ++ ((u9.2, smE ty pid) :: Q))) H := hP
    have hD : va_D A ([(o9, .inl (cJ, 1, .inr (.inl g9))), (h, .inr (11, [.ref rc, .ref d]))] ++ (dfl cO e0 d DL.length mo dst (DL.set k ((DL.getD k dr0).1, (DL.getD k dr0).2.1, (DL.getD k dr0).2.2.1, (DL.getD k dr0).2.2.2.1, (DL.getD k dr0).2.2.2.2.1 ++ [(ty, pid)], (DL.getD k dr0).2.2.2.2.2.1 + 1, u9.1)) ++ ((u9.2, smE ty pid) :: Q))) := hD
    refine lv_i2l (v := r9.toInt64) hx hb d_Law_addStream_10 rfl ?_
    refine z_last hx hb hK hP hD hS 0 1 rfl rfl 0 rfl (by decide) (by decide) d_Law_addStream_11 (fun H locs hP hD hS => ?_)
    have hP : va_P D classes ([(o9, .inl (cJ, 1, .inr (.inl (vp_updL g9 0 r9.toInt64)))), (h, .inr (11, [.ref rc, .ref d]))] ++ (dfl cO e0 d DL.length mo dst (DL.set k ((DL.getD k dr0).1, (DL.getD k dr0).2.1, (DL.getD k dr0).2.2.1, (DL.getD k dr0).2.2.2.1, (DL.getD k dr0).2.2.2.2.1 ++ [(ty, pid)], (DL.getD k dr0).2.2.2.2.2.1 + 1, u9.1)) ++ ((u9.2, smE ty pid) :: Q))) H := hP
    have hD : va_D A ([(o9, .inl (cJ, 1, .inr (.inl (vp_updL g9 0 r9.toInt64)))), (h, .inr (11, [.ref rc, .ref d]))] ++ (dfl cO e0 d DL.length mo dst (DL.set k ((DL.getD k dr0).1, (DL.getD k dr0).2.1, (DL.getD k dr0).2.2.1, (DL.getD k dr0).2.2.2.1, (DL.getD k dr0).2.2.2.2.1 ++ [(ty, pid)], (DL.getD k dr0).2.2.2.2.2.1 + 1, u9.1)) ++ ((u9.2, smE ty pid) :: Q))) := hD
    refine lv_goto (tgt := 23) hx hb d_Law_addStream_12 rfl ?_
    refine lv_iconst (v := 0) hx hb d_Law_addStream_23 (by decide) ?_
    have hP9 := hP.part (cx := [(h, .inr (11, [.ref rc, .ref d])), (o9, .inl (cJ, 1, .inr (.inl (vp_updL g9 0 r9.toInt64))))]) [1, 0] rfl
    have hD9 := hD.part (cx := [(h, .inr (11, [.ref rc, .ref d])), (o9, .inl (cJ, 1, .inr (.inl (vp_updL g9 0 r9.toInt64))))]) [1, 0] (by decide) rfl
    have hK9 := hK.sub (tys' := [(cO, .object "java/lang/Object"), (cJ, .long)]) [0, 1] rfl
    refine W.widen (k := 3) (n := 16) (by omega) (by omega) ?_
    exact W.iret (v := 0) hx hb hr (fun t ht hW => ⟨⟨_, (u9, r9), rfl, ⟨rfl, e7⟩, ⟨by rw [ht]; exact hP9, va_K.moved hW.alike hK9, hD9⟩⟩, hS.F ht⟩) hS.2.2 d_Law_addStream_24
  · exact absurd eX (fun z => z)
set_option maxHeartbeats 4000000 in
set_option maxRecDepth 100000 in
theorem c_Law_addStream_badNG (l : Launch) (D : va_G) (hfl : l.stackTraces = false) (B0 : State) (hG : zG B0) (sz : Nat) (h rc d e0 : Nat) (cO : ClassId) (mo : Int32) (dst : Option (Nat × (Nat → Option Nat))) (DL : List DR9) (Q Im : va_W) (k ty c : Int32) (cJ : ClassId) (o9 : Nat) (g9 : Nat → Int64) (he0 : zE0 B0 e0) (hdt : dtk Im dst DL) (hIm : ∀ y ∈ Im, y ∈ Q) (hk : k < 0 ∨ ¬ k < nI DL.length) : Met l y_Law_addStream [Cond.codeWith y_Law_addStream b_Law_addStream 6 (some .int) [(0, 12, 15, 19), (0, 12, 19, 13)]] ({ frames := 7, cells := 1, slots := 6, locals := 106 }) (zMo [.ref h, .int k, .int ty, .int c, .ref o9] D ([(h, .inr (11, [.ref rc, .ref d])), (o9, .inl (cJ, 1, .inr (.inl g9)))] ++ (dfl cO e0 d DL.length mo dst DL ++ Q)) [(cO, .object "java/lang/Object"), (cJ, .long)] sz B0) (va_Qi (fun r0 (_ : Unit) => r0 = 1) (fun (_u : Unit) t => zW D (va_A ([(h, .inr (11, [.ref rc, .ref d])), (o9, .inl (cJ, 1, .inr (.inl g9)))] ++ (dfl cO e0 d DL.length mo dst DL ++ Q)) sz) ([(h, .inr (11, [.ref rc, .ref d])), (o9, .inl (cJ, 1, .inr (.inl g9)))] ++ (dfl cO e0 d DL.length mo dst DL ++ Q)) [(cO, .object "java/lang/Object"), (cJ, .long)] t) (va_A ([(h, .inr (11, [.ref rc, .ref d])), (o9, .inl (cJ, 1, .inr (.inl g9)))] ++ (dfl cO e0 d DL.length mo dst DL ++ Q)) sz)) 1 6 (va_A ([(h, .inr (11, [.ref rc, .ref d])), (o9, .inl (cJ, 1, .inr (.inl g9)))] ++ (dfl cO e0 d DL.length mo dst DL ++ Q)) sz) := by
  refine va_MetW (cc := b_Law_addStream) (maxL := 6) (ret := (some .int)) (hh := [(0, 12, 15, 19), (0, 12, 19, 13)]) (by decide) rfl ?_
  intro p e s m args below meth cd s₁ Bd hml hv
  obtain ⟨rfl, hsz, hP, hK, hN, hD0, hO⟩ := hv
  have hx := Bd.exec
  have hb := Bd.bytes
  have hr := Bd.returns
  have hts := hN.use (a := ([.ref h, .int k, .int ty, .int c, .ref o9]).toArray)
  have hown : s.vm.findClass R_Law = some m.cls := findClass_of_methodNamed Bd.named
  have hlocks := Bd.notSynchronized
  have htab := z_tab Bd
  subst hsz
  have hD := hD0.self (sz := s.heap.size)
  have hAO := z_AO hD0 hO
  clear hD0
  have hA : ∀ q : Nat, s.heap.size ≤ q → va_A ([(h, .inr (11, [.ref rc, .ref d])), (o9, .inl (cJ, 1, .inr (.inl g9)))] ++ (dfl cO e0 d DL.length mo dst DL ++ Q)) s.heap.size q := fun q h => Or.inr h
  have hS : va_S (va_A ([(h, .inr (11, [.ref rc, .ref d])), (o9, .inl (cJ, 1, .inr (.inl g9)))] ++ (dfl cO e0 d DL.length mo dst DL ++ Q)) s.heap.size) s.heap s.heap [] := va_S.rf
  generalize hAe : va_A ([(h, .inr (11, [.ref rc, .ref d])), (o9, .inl (cJ, 1, .inr (.inl g9)))] ++ (dfl cO e0 d DL.length mo dst DL ++ Q)) s.heap.size = A at hD hA hS hAO ⊢
  have hP : va_P D classes ([(h, .inr (11, [.ref rc, .ref d])), (o9, .inl (cJ, 1, .inr (.inl g9)))] ++ (dfl cO e0 d DL.length mo dst DL ++ Q)) s.heap := hP
  have hl := lv_entry ([.ref h, .int k, .int ty, .int c, .ref o9]) (n := 6) (Nat.le_of_ble_eq_true rfl)
  rw [lg_entry_eq]
  generalize (lg_sl ([.ref h, .int k, .int ty, .int c, .ref o9]) ++ List.replicate (6 - (lg_sl ([.ref h, .int k, .int ty, .int c, .ref o9])).length) Slot.unset).toArray = ls at hl ⊢
  have hl : lv_has ls 6 [(0, .ref h), (1, .int k), (2, .int ty), (3, .int c), (4, .ref o9)] := hl
  refine lv_aload hx hb d_Law_addStream_0 (lv_at hl 4 rfl) ?_
  refine lv_iconst (v := 0) hx hb d_Law_addStream_2 (by decide) ?_
  refine lv_aload_n hx hb d_Law_addStream_3 rfl (lv_at hl 0 rfl) ?_
  refine lv_iload_n hx hb d_Law_addStream_4 rfl (lv_at hl 1 rfl) ?_
  refine lv_iload_n hx hb d_Law_addStream_5 rfl (lv_at hl 2 rfl) ?_
  refine lv_iload_n hx hb d_Law_addStream_6 rfl (lv_at hl 3 rfl) ?_
  have hPc := hP.part (cx := [(h, .inr (11, [.ref rc, .ref d]))]) [0] rfl
  have hKc := hK.sub (tys' := [(cO, .object "java/lang/Object")]) [0] rfl
  have hDc := hD.part (cx := [(h, .inr (11, [.ref rc, .ref d]))]) [0] (by decide) rfl
  have hFc := va_freeP (cx := [(h, .inr (11, [.ref rc, .ref d]))]) hD hS hA [0] rfl
  refine z_callVTi (As := [.int k, .int ty, .int c]) (rest := [.int 0, .ref o9]) ⟨hx, hb, hml, hown, hts⟩ (c_SS_addStream_badN l D hfl B0 hG s.heap.size h rc d e0 cO mo dst DL Q Im k ty c he0 hdt hIm hk) (z_cV hN wd_925 wd_59 wd_922 hd_SS_addStream rfl rfl ⟨Nat.le_of_ble_eq_true rfl, Nat.le_of_ble_eq_true rfl⟩ wd_923 wd_924) (z_preVo (va_recv (ci := 11) (q0 := 0) hK hP rfl rfl) hPc hKc hN hDc hO hS hAO) rfl hl.1 rfl (lv_room (Nat.le_of_ble_eq_true rfl)) d_Law_addStream_7 ⟨Nat.le_of_ble_eq_true rfl, Nat.le_of_ble_eq_true rfl⟩ hS (fun q _ h => hFc q h) hFc (fun r9 u9 t H locs ht hvm e7 hB hz1 hk1 hS => ?_) (fun X x H locs eX hcx hz1 hk1 hS => ?_)
  · exact absurd e7 (fun z => z)
  · subst eX
    have hP : va_P D classes ([(h, .inr (11, [.ref rc, .ref d])), (o9, .inl (cJ, 1, .inr (.inl g9)))] ++ (dfl cO e0 d DL.length mo dst DL ++ Q)) H := z_Pkept hP hk1
    refine z_catch1h htab (by decide) (by decide) hown (hts _ wd_770) (hts _ wd_777) hcx ?_
    clear hcx hz1 hk1
    refine lv_astore (lv' := [(5, .ref x), (0, .ref h), (1, .int k), (2, .int ty), (3, .int c), (4, .ref o9)]) hx hb d_Law_addStream_15 hl (by decide) rfl (fun ls hl => ?_)
    refine lv_iconst (v := 1) hx hb d_Law_addStream_17 (by decide) ?_
    have hP9 := hP.part (cx := [(h, .inr (11, [.ref rc, .ref d])), (o9, .inl (cJ, 1, .inr (.inl g9)))]) [0, 1] rfl
    have hD9 := hD.part (cx := [(h, .inr (11, [.ref rc, .ref d])), (o9, .inl (cJ, 1, .inr (.inl g9)))]) [0, 1] (by decide) rfl
    have hK9 := hK.sub (tys' := [(cO, .object "java/lang/Object"), (cJ, .long)]) [0, 1] rfl
    refine W.widen (k := 1) (n := 6) (by omega) (by omega) ?_
    exact W.iret (v := 1) hx hb hr (fun t ht hW => ⟨⟨_, (), rfl, rfl, ⟨by rw [ht]; exact hP9, va_K.moved hW.alike hK9, hD9⟩⟩, hS.F ht⟩) hS.2.2 d_Law_addStream_18
set_option maxHeartbeats 4000000 in
set_option maxRecDepth 100000 in
theorem c_Law_addStream_badAG (l : Launch) (D : va_G) (hfl : l.stackTraces = false) (B0 : State) (hG : zG B0) (sz : Nat) (h rc d e0 : Nat) (cO : ClassId) (mo : Int32) (dst : Option (Nat × (Nat → Option Nat))) (DL : List DR9) (Q Im : va_W) (k : Nat) (ty c : Int32) (cJ : ClassId) (o9 : Nat) (g9 : Nat → Int64) (he0 : zE0 B0 e0) (hdt : dtk Im dst DL) (hIm : ∀ y ∈ Im, y ∈ Q) (hk : k < DL.length) (hbad : ty < 0 ∨ 255 < ty ∨ c < 0 ∨ 8191 < c) : Met l y_Law_addStream [Cond.codeWith y_Law_addStream b_Law_addStream 6 (some .int) [(0, 12, 15, 19), (0, 12, 19, 13)]] ({ frames := 7, cells := 1, slots := 6, locals := 106 }) (zMo [.ref h, .int (nI k), .int ty, .int c, .ref o9] D ([(h, .inr (11, [.ref rc, .ref d])), (o9, .inl (cJ, 1, .inr (.inl g9)))] ++ (dfl cO e0 d DL.length mo dst DL ++ Q)) [(cO, .object "java/lang/Object"), (cJ, .long)] sz B0) (va_Qi (fun r0 (_ : Unit) => r0 = 2) (fun (_u : Unit) t => zW D (va_A ([(h, .inr (11, [.ref rc, .ref d])), (o9, .inl (cJ, 1, .inr (.inl g9)))] ++ (dfl cO e0 d DL.length mo dst DL ++ Q)) sz) ([(h, .inr (11, [.ref rc, .ref d])), (o9, .inl (cJ, 1, .inr (.inl g9)))] ++ (dfl cO e0 d DL.length mo dst DL ++ Q)) [(cO, .object "java/lang/Object"), (cJ, .long)] t) (va_A ([(h, .inr (11, [.ref rc, .ref d])), (o9, .inl (cJ, 1, .inr (.inl g9)))] ++ (dfl cO e0 d DL.length mo dst DL ++ Q)) sz)) 1 6 (va_A ([(h, .inr (11, [.ref rc, .ref d])), (o9, .inl (cJ, 1, .inr (.inl g9)))] ++ (dfl cO e0 d DL.length mo dst DL ++ Q)) sz) := by
  refine va_MetW (cc := b_Law_addStream) (maxL := 6) (ret := (some .int)) (hh := [(0, 12, 15, 19), (0, 12, 19, 13)]) (by decide) rfl ?_
  intro p e s m args below meth cd s₁ Bd hml hv
  obtain ⟨rfl, hsz, hP, hK, hN, hD0, hO⟩ := hv
  have hx := Bd.exec
  have hb := Bd.bytes
  have hr := Bd.returns
  have hts := hN.use (a := ([.ref h, .int (nI k), .int ty, .int c, .ref o9]).toArray)
  have hown : s.vm.findClass R_Law = some m.cls := findClass_of_methodNamed Bd.named
  have hlocks := Bd.notSynchronized
  have htab := z_tab Bd
  subst hsz
  have hD := hD0.self (sz := s.heap.size)
  have hAO := z_AO hD0 hO
  clear hD0
  have hA : ∀ q : Nat, s.heap.size ≤ q → va_A ([(h, .inr (11, [.ref rc, .ref d])), (o9, .inl (cJ, 1, .inr (.inl g9)))] ++ (dfl cO e0 d DL.length mo dst DL ++ Q)) s.heap.size q := fun q h => Or.inr h
  have hS : va_S (va_A ([(h, .inr (11, [.ref rc, .ref d])), (o9, .inl (cJ, 1, .inr (.inl g9)))] ++ (dfl cO e0 d DL.length mo dst DL ++ Q)) s.heap.size) s.heap s.heap [] := va_S.rf
  generalize hAe : va_A ([(h, .inr (11, [.ref rc, .ref d])), (o9, .inl (cJ, 1, .inr (.inl g9)))] ++ (dfl cO e0 d DL.length mo dst DL ++ Q)) s.heap.size = A at hD hA hS hAO ⊢
  have hP : va_P D classes ([(h, .inr (11, [.ref rc, .ref d])), (o9, .inl (cJ, 1, .inr (.inl g9)))] ++ (dfl cO e0 d DL.length mo dst DL ++ Q)) s.heap := hP
  have hl := lv_entry ([.ref h, .int (nI k), .int ty, .int c, .ref o9]) (n := 6) (Nat.le_of_ble_eq_true rfl)
  rw [lg_entry_eq]
  generalize (lg_sl ([.ref h, .int (nI k), .int ty, .int c, .ref o9]) ++ List.replicate (6 - (lg_sl ([.ref h, .int (nI k), .int ty, .int c, .ref o9])).length) Slot.unset).toArray = ls at hl ⊢
  have hl : lv_has ls 6 [(0, .ref h), (1, .int (nI k)), (2, .int ty), (3, .int c), (4, .ref o9)] := hl
  refine lv_aload hx hb d_Law_addStream_0 (lv_at hl 4 rfl) ?_
  refine lv_iconst (v := 0) hx hb d_Law_addStream_2 (by decide) ?_
  refine lv_aload_n hx hb d_Law_addStream_3 rfl (lv_at hl 0 rfl) ?_
  refine lv_iload_n hx hb d_Law_addStream_4 rfl (lv_at hl 1 rfl) ?_
  refine lv_iload_n hx hb d_Law_addStream_5 rfl (lv_at hl 2 rfl) ?_
  refine lv_iload_n hx hb d_Law_addStream_6 rfl (lv_at hl 3 rfl) ?_
  have hPc := hP.part (cx := [(h, .inr (11, [.ref rc, .ref d]))]) [0] rfl
  have hKc := hK.sub (tys' := [(cO, .object "java/lang/Object")]) [0] rfl
  have hDc := hD.part (cx := [(h, .inr (11, [.ref rc, .ref d]))]) [0] (by decide) rfl
  have hFc := va_freeP (cx := [(h, .inr (11, [.ref rc, .ref d]))]) hD hS hA [0] rfl
  refine z_callVTi (As := [.int (nI k), .int ty, .int c]) (rest := [.int 0, .ref o9]) ⟨hx, hb, hml, hown, hts⟩ (c_SS_addStream_badA l D hfl B0 hG s.heap.size h rc d e0 cO mo dst DL Q Im k ty c he0 hdt hIm hk hbad) (z_cV hN wd_925 wd_59 wd_922 hd_SS_addStream rfl rfl ⟨Nat.le_of_ble_eq_true rfl, Nat.le_of_ble_eq_true rfl⟩ wd_923 wd_924) (z_preVo (va_recv (ci := 11) (q0 := 0) hK hP rfl rfl) hPc hKc hN hDc hO hS hAO) rfl hl.1 rfl (lv_room (Nat.le_of_ble_eq_true rfl)) d_Law_addStream_7 ⟨Nat.le_of_ble_eq_true rfl, Nat.le_of_ble_eq_true rfl⟩ hS (fun q _ h => hFc q h) hFc (fun r9 u9 t H locs ht hvm e7 hB hz1 hk1 hS => ?_) (fun X x H locs eX hcx hz1 hk1 hS => ?_)
  · exact absurd e7 (fun z => z)
  · subst eX
    have hP : va_P D classes ([(h, .inr (11, [.ref rc, .ref d])), (o9, .inl (cJ, 1, .inr (.inl g9)))] ++ (dfl cO e0 d DL.length mo dst DL ++ Q)) H := z_Pkept hP hk1
    refine z_catch2N htab (by decide) (by decide) (by decide) (by decide) hown (hts _ wd_770) (hts _ wd_695) (z_no hG hO (by decide +kernel)) (hts _ wd_702) hcx ?_
    clear hcx hz1 hk1
    refine lv_astore (lv' := [(5, .ref x), (0, .ref h), (1, .int (nI k)), (2, .int ty), (3, .int c), (4, .ref o9)]) hx hb d_Law_addStream_19 hl (by decide) rfl (fun ls hl => ?_)
    refine lv_iconst (v := 2) hx hb d_Law_addStream_21 (by decide) ?_
    have hP9 := hP.part (cx := [(h, .inr (11, [.ref rc, .ref d])), (o9, .inl (cJ, 1, .inr (.inl g9)))]) [0, 1] rfl
    have hD9 := hD.part (cx := [(h, .inr (11, [.ref rc, .ref d])), (o9, .inl (cJ, 1, .inr (.inl g9)))]) [0, 1] (by decide) rfl
    have hK9 := hK.sub (tys' := [(cO, .object "java/lang/Object"), (cJ, .long)]) [0, 1] rfl
    refine W.widen (k := 1) (n := 6) (by omega) (by omega) ?_
    exact W.iret (v := 2) hx hb hr (fun t ht hW => ⟨⟨_, (), rfl, rfl, ⟨by rw [ht]; exact hP9, va_K.moved hW.alike hK9, hD9⟩⟩, hS.F ht⟩) hS.2.2 d_Law_addStream_22
