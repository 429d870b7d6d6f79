theorem wd_361 : (Jvm.Cond.fieldLinkNest "StreamSplitter" (177 : Nat) "StreamSplitter$Piece" "pid" "I" "StreamSplitter") ∈ lw_ok := List.mem_filter.mpr ⟨List.mem_of_getElem? (i := 361) (by decide +kernel), rfl⟩
theorem wd_363 : (Jvm.Cond.fieldLinkNest "StreamSplitter" (180 : Nat) "StreamSplitter$Piece" "kind" "I" "StreamSplitter") ∈ lw_ok := List.mem_filter.mpr ⟨List.mem_of_getElem? (i := 363) (by decide +kernel), rfl⟩
theorem wd_365 : (Jvm.Cond.fieldLinkNest "StreamSplitter" (183 : Nat) "StreamSplitter$Piece" "time" "J" "StreamSplitter") ∈ lw_ok := List.mem_filter.mpr ⟨List.mem_of_getElem? (i := 365) (by decide +kernel), rfl⟩
theorem wd_367 : (Jvm.Cond.fieldLinkNest "StreamSplitter" (184 : Nat) "StreamSplitter$Piece" "bytes" "I" "StreamSplitter") ∈ lw_ok := List.mem_filter.mpr ⟨List.mem_of_getElem? (i := 367) (by decide +kernel), rfl⟩
theorem wd_369 : (Jvm.Cond.fieldLinkNest "StreamSplitter" (187 : Nat) "StreamSplitter$Piece" "sum" "I" "StreamSplitter") ∈ lw_ok := List.mem_filter.mpr ⟨List.mem_of_getElem? (i := 369) (by decide +kernel), rfl⟩
theorem d_Receiver_doneBefore_23 : decode b_Receiver_doneBefore 23 = .ok (.aload_n 0, 1) := by decide +kernel
theorem d_Receiver_doneBefore_24 : decode b_Receiver_doneBefore 24 = .ok (.getfield 40, 3) := by decide +kernel
theorem d_Receiver_doneBefore_27 : decode b_Receiver_doneBefore 27 = .ok (.aload_n 0, 1) := by decide +kernel
theorem d_Receiver_doneBefore_28 : decode b_Receiver_doneBefore 28 = .ok (.getfield 34, 3) := by decide +kernel
theorem d_Receiver_doneBefore_31 : decode b_Receiver_doneBefore 31 = .ok (.bipush 9, 2) := by decide +kernel
theorem d_Receiver_doneBefore_33 : decode b_Receiver_doneBefore 33 = .ok (.iaload, 1) := by decide +kernel
theorem d_Receiver_doneBefore_34 : decode b_Receiver_doneBefore 34 = .ok (.iconst 1, 1) := by decide +kernel
theorem d_Receiver_doneBefore_35 : decode b_Receiver_doneBefore 35 = .ok (.isub, 1) := by decide +kernel
theorem d_Receiver_doneBefore_36 : decode b_Receiver_doneBefore 36 = .ok (.iload_n 1, 1) := by decide +kernel
theorem d_Receiver_doneBefore_37 : decode b_Receiver_doneBefore 37 = .ok (.isub, 1) := by decide +kernel
theorem d_Receiver_doneBefore_38 : decode b_Receiver_doneBefore 38 = .ok (.bipush 15, 2) := by decide +kernel
theorem d_Receiver_doneBefore_40 : decode b_Receiver_doneBefore 40 = .ok (.iand, 1) := by decide +kernel
theorem d_Receiver_doneBefore_41 : decode b_Receiver_doneBefore 41 = .ok (.aaload, 1) := by decide +kernel
theorem d_Receiver_doneBefore_42 : decode b_Receiver_doneBefore 42 = .ok (.areturn, 1) := by decide +kernel
theorem d_SS_piece_40 : decode b_SS_piece 40 = .ok (.iload_n 2, 1) := by decide +kernel
theorem d_SS_piece_41 : decode b_SS_piece 41 = .ok (.tableswitch 54 0 3 #[31, 37, 43, 48], 31) := by decide +kernel
theorem d_SS_piece_72 : decode b_SS_piece 72 = .ok (.aload_n 3, 1) := by decide +kernel
theorem d_SS_piece_73 : decode b_SS_piece 73 = .ok (.getfield 177, 3) := by decide +kernel
theorem d_SS_piece_76 : decode b_SS_piece 76 = .ok (.i2l, 1) := by decide +kernel
theorem d_SS_piece_77 : decode b_SS_piece 77 = .ok (.lreturn, 1) := by decide +kernel
theorem d_SS_piece_78 : decode b_SS_piece 78 = .ok (.aload_n 3, 1) := by decide +kernel
theorem d_SS_piece_79 : decode b_SS_piece 79 = .ok (.getfield 180, 3) := by decide +kernel
theorem d_SS_piece_82 : decode b_SS_piece 82 = .ok (.i2l, 1) := by decide +kernel
theorem d_SS_piece_83 : decode b_SS_piece 83 = .ok (.lreturn, 1) := by decide +kernel
theorem d_SS_piece_84 : decode b_SS_piece 84 = .ok (.aload_n 3, 1) := by decide +kernel
theorem d_SS_piece_85 : decode b_SS_piece 85 = .ok (.getfield 183, 3) := by decide +kernel
theorem d_SS_piece_88 : decode b_SS_piece 88 = .ok (.lreturn, 1) := by decide +kernel
theorem d_SS_piece_89 : decode b_SS_piece 89 = .ok (.aload_n 3, 1) := by decide +kernel
theorem d_SS_piece_90 : decode b_SS_piece 90 = .ok (.getfield 184, 3) := by decide +kernel
theorem d_SS_piece_93 : decode b_SS_piece 93 = .ok (.i2l, 1) := by decide +kernel
theorem d_SS_piece_94 : decode b_SS_piece 94 = .ok (.lreturn, 1) := by decide +kernel
theorem d_SS_piece_95 : decode b_SS_piece 95 = .ok (.aload_n 3, 1) := by decide +kernel
theorem d_SS_piece_96 : decode b_SS_piece 96 = .ok (.getfield 187, 3) := by decide +kernel
theorem d_SS_piece_99 : decode b_SS_piece 99 = .ok (.i2l, 1) := by decide +kernel
theorem d_SS_piece_100 : decode b_SS_piece 100 = .ok (.lreturn, 1) := by decide +kernel
set_option maxHeartbeats 4000000 in
set_option maxRecDepth 100000 in
theorem c_Receiver_doneBeforeS (l : Launch) (D : va_G) (cI cQ : ClassId) (rc tp ln tb ct dp : Nat) (cn : Nat → Int32) (dpf : Nat → Option Nat) (k : Int32) (hbk : dbK cn k) : Met l y_Receiver_doneBefore [Cond.code y_Receiver_doneBefore b_Receiver_doneBefore 2 (some (.object "StreamSplitter$Piece"))] ({ frames := 0, cells := 0, slots := 0, locals := 0 }) (zP [.ref rc, .int k] D [(rc, .inr (4, [.ref tp, .ref ln, .ref tb, .ref ct, .ref dp])), (ct, .inl (cI, 10, .inl cn)), (dp, .inl (cQ, 16, .inr (.inr (.inr (.inr dpf)))))] [(cI, .int), (cQ, .object "StreamSplitter$Piece")]) (va_Sq (fun r => r = dpf (kdI (cn 9 - 1 - k)))) 0 0 (fun _ => False) := by
  refine Met.ofW (cc := b_Receiver_doneBefore) (maxL := 2) (ret := (some (.object "StreamSplitter$Piece"))) (by decide) rfl ?_
  intro p e s m args below meth cd s₁ Bd hml hv
  obtain ⟨rfl, hP, hK, hN⟩ := hv
  have hx := Bd.exec
  have hb := Bd.bytes
  have hr := Bd.returns
  have hts := hN.use (a := ([.ref rc, .int k]).toArray)
  have hown : s.vm.findClass R_Receiver = some m.cls := findClass_of_methodNamed Bd.named
  have hlocks := Bd.notSynchronized
  have hP : va_P D classes [(rc, .inr (4, [.ref tp, .ref ln, .ref tb, .ref ct, .ref dp])), (ct, .inl (cI, 10, .inl cn)), (dp, .inl (cQ, 16, .inr (.inr (.inr (.inr dpf)))))] s.heap := hP
  have hl := lv_entry ([.ref rc, .int k]) (n := 2) (Nat.le_of_ble_eq_true rfl)
  rw [lg_entry_eq]
  generalize (lg_sl ([.ref rc, .int k]) ++ List.replicate (2 - (lg_sl ([.ref rc, .int k])).length) Slot.unset).toArray = ls at hl ⊢
  have hl : lv_has ls 2 [(0, .ref rc), (1, .int k)] := hl
  refine lv_iload_n hx hb d_Receiver_doneBefore_0 rfl (lv_at hl 1 rfl) ?_
  refine lv_if_lt (tgt := 21) hx hb d_Receiver_doneBefore_1 rfl (fun h9 => absurd h9 hbk.1) (fun h1 => ?_)
  refine lv_iload_n hx hb d_Receiver_doneBefore_4 rfl (lv_at hl 1 rfl) ?_
  refine lv_bipush (v := 16) hx hb d_Receiver_doneBefore_5 (by decide) ?_
  refine lv_icmp_ge (tgt := 21) hx hb d_Receiver_doneBefore_7 rfl (fun h9 => absurd h9 hbk.2.1) (fun h7 => ?_)
  refine lv_iload_n hx hb d_Receiver_doneBefore_10 rfl (lv_at hl 1 rfl) ?_
  refine lv_aload_n hx hb d_Receiver_doneBefore_11 rfl (lv_at hl 0 rfl) ?_
  refine va_get (D := D) (ci := 4) (v := .ref ct) (C := R_Receiver) (T := F_Receiver) (N := 5) hx hb hts i_Receiver hown hK hP 0 rfl rfl 3 (by decide) (hts _ wd_181) (fun _ h9 => h9) rfl d_Receiver_doneBefore_12 ?_
  refine lv_bipush (v := 9) hx hb d_Receiver_doneBefore_15 (by decide) ?_
  refine z_iald hx hb hK hP 1 0 rfl rfl 9 rfl (by decide) (by decide) d_Receiver_doneBefore_17 ?_
  refine lv_icmp_lt (tgt := 23) hx hb d_Receiver_doneBefore_18 rfl (fun h18 => ?_) (fun h9 => absurd hbk.2.2 h9)
  refine lv_aload_n hx hb d_Receiver_doneBefore_23 rfl (lv_at hl 0 rfl) ?_
  refine va_get (D := D) (ci := 4) (v := .ref dp) (C := R_Receiver) (T := F_Receiver) (N := 5) hx hb hts i_Receiver hown hK hP 0 rfl rfl 4 (by decide) (hts _ wd_183) (fun _ h9 => h9) rfl d_Receiver_doneBefore_24 ?_
  refine lv_aload_n hx hb d_Receiver_doneBefore_27 rfl (lv_at hl 0 rfl) ?_
  refine va_get (D := D) (ci := 4) (v := .ref ct) (C := R_Receiver) (T := F_Receiver) (N := 5) hx hb hts i_Receiver hown hK hP 0 rfl rfl 3 (by decide) (hts _ wd_181) (fun _ h9 => h9) rfl d_Receiver_doneBefore_28 ?_
  refine lv_bipush (v := 9) hx hb d_Receiver_doneBefore_31 (by decide) ?_
  refine z_iald hx hb hK hP 1 0 rfl rfl 9 rfl (by decide) (by decide) d_Receiver_doneBefore_33 ?_
  refine lv_iconst (v := 1) hx hb d_Receiver_doneBefore_34 (by decide) ?_
  refine lv_isub hx hb d_Receiver_doneBefore_35 ?_
  refine lv_iload_n hx hb d_Receiver_doneBefore_36 rfl (lv_at hl 1 rfl) ?_
  refine lv_isub hx hb d_Receiver_doneBefore_37 ?_
  refine lv_bipush (v := 15) hx hb d_Receiver_doneBefore_38 (by decide) ?_
  refine lv_iand hx hb d_Receiver_doneBefore_40 ?_
  refine z_topi (w := nI (kdI (cn 9 - 1 - k))) (pk_and _ 4 (by decide)) ?_
  refine z_aldq hx hb hK hP 2 1 rfl rfl (kdI (cn 9 - 1 - k)) rfl (by have := kdI_lt (cn 9 - 1 - k); omega) (by have := kdI_lt (cn 9 - 1 - k); omega) d_Receiver_doneBefore_41 ?_
  exact W.aret (v := va_rf (dpf (kdI (cn 9 - 1 - k)))) hx hb hr (Or.inl ⟨_, rfl⟩) (va_rf_or _) (fun t ht hW => ⟨_, rfl, rfl, ht⟩) (fun _ h => by cases h) d_Receiver_doneBefore_42
set_option maxHeartbeats 4000000 in
set_option maxRecDepth 100000 in
theorem c_Receiver_doneBeforeN (l : Launch) (D : va_G) (cI cQ : ClassId) (rc tp ln tb ct dp : Nat) (cn : Nat → Int32) (dpf : Nat → Option Nat) (k : Int32) (hbk : ¬ dbK cn k) : Met l y_Receiver_doneBefore [Cond.code y_Receiver_doneBefore b_Receiver_doneBefore 2 (some (.object "StreamSplitter$Piece"))] ({ frames := 0, cells := 0, slots := 0, locals := 0 }) (zP [.ref rc, .int k] D [(rc, .inr (4, [.ref tp, .ref ln, .ref tb, .ref ct, .ref dp])), (ct, .inl (cI, 10, .inl cn)), (dp, .inl (cQ, 16, .inr (.inr (.inr (.inr dpf)))))] [(cI, .int), (cQ, .object "StreamSplitter$Piece")]) (va_Sq (fun r => r = none)) 0 0 (fun _ => False) := by
  refine Met.ofW (cc := b_Receiver_doneBefore) (maxL := 2) (ret := (some (.object "StreamSplitter$Piece"))) (by decide) rfl ?_
  intro p e s m args below meth cd s₁ Bd hml hv
  obtain ⟨rfl, hP, hK, hN⟩ := hv
  have hx := Bd.exec
  have hb := Bd.bytes
  have hr := Bd.returns
  have hts := hN.use (a := ([.ref rc, .int k]).toArray)
  have hown : s.vm.findClass R_Receiver = some m.cls := findClass_of_methodNamed Bd.named
  have hlocks := Bd.notSynchronized
  have hP : va_P D classes [(rc, .inr (4, [.ref tp, .ref ln, .ref tb, .ref ct, .ref dp])), (ct, .inl (cI, 10, .inl cn)), (dp, .inl (cQ, 16, .inr (.inr (.inr (.inr dpf)))))] s.heap := hP
  have hl := lv_entry ([.ref rc, .int k]) (n := 2) (Nat.le_of_ble_eq_true rfl)
  rw [lg_entry_eq]
  generalize (lg_sl ([.ref rc, .int k]) ++ List.replicate (2 - (lg_sl ([.ref rc, .int k])).length) Slot.unset).toArray = ls at hl ⊢
  have hl : lv_has ls 2 [(0, .ref rc), (1, .int k)] := hl
  refine lv_iload_n hx hb d_Receiver_doneBefore_0 rfl (lv_at hl 1 rfl) ?_
  refine lv_if_lt (tgt := 21) hx hb d_Receiver_doneBefore_1 rfl (fun h1 => ?_) (fun h1 => ?_)
  · refine lv_null hx hb d_Receiver_doneBefore_21 ?_
    exact W.aret (v := va_rf none) hx hb hr (Or.inl ⟨_, rfl⟩) (va_rf_or _) (fun t ht hW => ⟨_, rfl, rfl, ht⟩) (fun _ h => by cases h) d_Receiver_doneBefore_22
  · refine lv_iload_n hx hb d_Receiver_doneBefore_4 rfl (lv_at hl 1 rfl) ?_
    refine lv_bipush (v := 16) hx hb d_Receiver_doneBefore_5 (by decide) ?_
    refine lv_icmp_ge (tgt := 21) hx hb d_Receiver_doneBefore_7 rfl (fun h7 => ?_) (fun h7 => ?_)
    · refine lv_null hx hb d_Receiver_doneBefore_21 ?_
      exact W.aret (v := va_rf none) hx hb hr (Or.inl ⟨_, rfl⟩) (va_rf_or _) (fun t ht hW => ⟨_, rfl, rfl, ht⟩) (fun _ h => by cases h) d_Receiver_doneBefore_22
    · refine lv_iload_n hx hb d_Receiver_doneBefore_10 rfl (lv_at hl 1 rfl) ?_
      refine lv_aload_n hx hb d_Receiver_doneBefore_11 rfl (lv_at hl 0 rfl) ?_
      refine va_get (D := D) (ci := 4) (v := .ref ct) (C := R_Receiver) (T := F_Receiver) (N := 5) hx hb hts i_Receiver hown hK hP 0 rfl rfl 3 (by decide) (hts _ wd_181) (fun _ h9 => h9) rfl d_Receiver_doneBefore_12 ?_
      refine lv_bipush (v := 9) hx hb d_Receiver_doneBefore_15 (by decide) ?_
      refine z_iald hx hb hK hP 1 0 rfl rfl 9 rfl (by decide) (by decide) d_Receiver_doneBefore_17 ?_
      refine lv_icmp_lt (tgt := 23) hx hb d_Receiver_doneBefore_18 rfl (fun h18 => ?_) (fun h18 => ?_)
      · exact absurd (show dbK cn k from ⟨h1, h7, h18⟩) hbk
      · refine lv_null hx hb d_Receiver_doneBefore_21 ?_
        exact W.aret (v := va_rf none) hx hb hr (Or.inl ⟨_, rfl⟩) (va_rf_or _) (fun t ht hW => ⟨_, rfl, rfl, ht⟩) (fun _ h => by cases h) d_Receiver_doneBefore_22
set_option maxHeartbeats 4000000 in
set_option maxRecDepth 100000 in
theorem c_SS_piece_none (l : Launch) (D : va_G) (hfl : l.stackTraces = false) (B0 : State) (hG : zG B0) (sz : Nat) (cI cQ : ClassId) (h d rc tp ln tb ct dp : Nat) (cn : Nat → Int32) (dpf : Nat → Option Nat) (dn : Nat → Option PQ9) (Q : va_W) (k : Int32) (w : Int32) (h0 : ¬ w < 0) (h4 : ¬ 4 < w) (hk : ¬ k < 0) (hdp : dpok dpf dn) (hno : ¬ dbK cn k ∨ dn (kdI (cn 9 - 1 - k)) = none) : MetT l y_SS_piece [Cond.code y_SS_piece b_SS_piece 4 (some .long)] ({ frames := 1, cells := 1, slots := 6, locals := 21 }) (zMo [.ref h, .int k, .int w] D ([(h, .inr (11, [.ref rc, .ref d])), (rc, .inr (4, [.ref tp, .ref ln, .ref tb, .ref ct, .ref dp])), (ct, .inl (cI, 10, .inl cn)), (dp, .inl (cQ, 16, .inr (.inr (.inr (.inr dpf)))))] ++ (dpl dn ++ Q)) [(cI, .int), (cQ, .object "StreamSplitter$Piece")] sz B0) (zQl (fun r0 (_ : Unit) => r0 = -1) (fun (_u : Unit) t => zW D (va_A ([(h, .inr (11, [.ref rc, .ref d])), (rc, .inr (4, [.ref tp, .ref ln, .ref tb, .ref ct, .ref dp])), (ct, .inl (cI, 10, .inl cn)), (dp, .inl (cQ, 16, .inr (.inr (.inr (.inr dpf)))))] ++ (dpl dn ++ Q)) sz) ([(h, .inr (11, [.ref rc, .ref d])), (rc, .inr (4, [.ref tp, .ref ln, .ref tb, .ref ct, .ref dp])), (ct, .inl (cI, 10, .inl cn)), (dp, .inl (cQ, 16, .inr (.inr (.inr (.inr dpf)))))] ++ (dpl dn ++ Q)) [(cI, .int), (cQ, .object "StreamSplitter$Piece")] t) (va_A ([(h, .inr (11, [.ref rc, .ref d])), (rc, .inr (4, [.ref tp, .ref ln, .ref tb, .ref ct, .ref dp])), (ct, .inl (cI, 10, .inl cn)), (dp, .inl (cQ, 16, .inr (.inr (.inr (.inr dpf)))))] ++ (dpl dn ++ Q)) sz) (fun _ => False)) 1 6 (va_A ([(h, .inr (11, [.ref rc, .ref d])), (rc, .inr (4, [.ref tp, .ref ln, .ref tb, .ref ct, .ref dp])), (ct, .inl (cI, 10, .inl cn)), (dp, .inl (cQ, 16, .inr (.inr (.inr (.inr dpf)))))] ++ (dpl dn ++ Q)) sz) := by
  refine MetT.ofW (cc := b_SS_piece) (maxL := 4) (ret := (some .long)) (by decide) rfl ?_
  intro p e s m args below meth cd s₁ Bd hml hem hv
  obtain ⟨rfl, hsz, hP, hK, hN, hD0, hO⟩ := hv
  have hx := Bd.exec
  have hb := Bd.bytes
  have hr := Bd.returns
  have hts := hN.use (a := ([.ref h, .int k, .int w]).toArray)
  have hown : s.vm.findClass R_SS = some m.cls := findClass_of_methodNamed Bd.named
  have hlocks := Bd.notSynchronized
  subst hsz
  have hD := hD0.self (sz := s.heap.size)
  have hAO := z_AO hD0 hO
  clear hD0
  have hA : ∀ q : Nat, s.heap.size ≤ q → va_A ([(h, .inr (11, [.ref rc, .ref d])), (rc, .inr (4, [.ref tp, .ref ln, .ref tb, .ref ct, .ref dp])), (ct, .inl (cI, 10, .inl cn)), (dp, .inl (cQ, 16, .inr (.inr (.inr (.inr dpf)))))] ++ (dpl dn ++ Q)) s.heap.size q := fun q h => Or.inr h
  have hS : va_S (va_A ([(h, .inr (11, [.ref rc, .ref d])), (rc, .inr (4, [.ref tp, .ref ln, .ref tb, .ref ct, .ref dp])), (ct, .inl (cI, 10, .inl cn)), (dp, .inl (cQ, 16, .inr (.inr (.inr (.inr dpf)))))] ++ (dpl dn ++ Q)) s.heap.size) s.heap s.heap [] := va_S.rf
  generalize hAe : va_A ([(h, .inr (11, [.ref rc, .ref d])), (rc, .inr (4, [.ref tp, .ref ln, .ref tb, .ref ct, .ref dp])), (ct, .inl (cI, 10, .inl cn)), (dp, .inl (cQ, 16, .inr (.inr (.inr (.inr dpf)))))] ++ (dpl dn ++ Q)) s.heap.size = A at hD hA hS hAO ⊢
  have hP : va_P D classes ([(h, .inr (11, [.ref rc, .ref d])), (rc, .inr (4, [.ref tp, .ref ln, .ref tb, .ref ct, .ref dp])), (ct, .inl (cI, 10, .inl cn)), (dp, .inl (cQ, 16, .inr (.inr (.inr (.inr dpf)))))] ++ (dpl dn ++ Q)) s.heap := hP
  have hl := lv_entry ([.ref h, .int k, .int w]) (n := 4) (Nat.le_of_ble_eq_true rfl)
  rw [lg_entry_eq]
  generalize (lg_sl ([.ref h, .int k, .int w]) ++ List.replicate (4 - (lg_sl ([.ref h, .int k, .int w])).length) Slot.unset).toArray = ls at hl ⊢
  have hl : lv_has ls 4 [(0, .ref h), (1, .int k), (2, .int w)] := hl
  refine lv_iload_n hx hb d_SS_piece_0 rfl (lv_at hl 2 rfl) ?_
  refine lv_if_lt (tgt := 13) hx hb d_SS_piece_1 rfl (fun h9 => absurd h9 h0) (fun h1 => ?_)
  refine lv_iload_n hx hb d_SS_piece_4 rfl (lv_at hl 2 rfl) ?_
  refine lv_iconst (v := 4) hx hb d_SS_piece_5 (by decide) ?_
  refine lv_icmp_gt (tgt := 13) hx hb d_SS_piece_6 rfl (fun h9 => absurd h9 h4) (fun h6 => ?_)
  refine lv_iload_n hx hb d_SS_piece_9 rfl (lv_at hl 1 rfl) ?_
  refine lv_if_ge (tgt := 23) hx hb d_SS_piece_10 rfl (fun h10 => ?_) (fun h9 => absurd (Int32.not_le.mp h9) hk)
  refine lv_aload_n hx hb d_SS_piece_23 rfl (lv_at hl 0 rfl) ?_
  refine va_get (D := D) (ci := 11) (v := .ref rc) (C := R_SS) (T := F_SS) (N := 2) hx hb hts i_SS hown hK hP 0 rfl rfl 0 (by decide) (hts _ wd_198) (fun _ h9 => h9) rfl d_SS_piece_24 ?_
  refine lv_iload_n hx hb d_SS_piece_27 rfl (lv_at hl 1 rfl) ?_
  by_cases hbk : dbK cn k
  · have hdq : dpf (kdI (cn 9 - 1 - k)) = none := by rw [hdp _ (kdI_lt _), hno.resolve_left (fun z => z hbk)]; rfl
    have hPc := hP.sub (ws' := [(rc, .inr (4, [.ref tp, .ref ln, .ref tb, .ref ct, .ref dp])), (ct, .inl (cI, 10, .inl cn)), (dp, .inl (cQ, 16, .inr (.inr (.inr (.inr dpf)))))]) [1, 2, 3] rfl
    have hKc := hK.sub (tys' := [(cI, .int), (cQ, .object "StreamSplitter$Piece")]) [0, 1] rfl
    refine z_cq (va_runV (As := [.int k]) (rest := []) ⟨hx, hb, hml, hown, hts⟩ (c_Receiver_doneBeforeS l D cI cQ rc tp ln tb ct dp cn dpf k hbk) (z_cV hN wd_873 wd_60 wd_870 hd_Receiver_doneBefore rfl rfl ⟨Nat.le_of_ble_eq_true rfl, Nat.le_of_ble_eq_true rfl⟩ wd_871 wd_872) (z_preV (va_recv (ci := 4) (q0 := 1) hK hP rfl rfl) hPc hKc hN) rfl rfl hl.1 rfl (lv_room (Nat.le_of_ble_eq_true rfl)) d_SS_piece_28 ⟨Nat.le_of_ble_eq_true rfl, Nat.le_of_ble_eq_true rfl⟩) (fun r28 e28 => ?_)
    subst e28
    refine z_topq (w := none) hdq ?_
    refine lv_astore_nN (lv' := [(3, .null), (0, .ref h), (1, .int k), (2, .int w)]) hx hb d_SS_piece_31 rfl hl (by decide) rfl (fun ls hl => ?_)
    refine lv_aload_nN hx hb d_SS_piece_32 rfl (lv_at hl 0 rfl) ?_
    refine lv_ifnonnullN hx hb d_SS_piece_33 ?_
    refine lv_ldc2 hx hb hown (hts _ wd_859) d_SS_piece_36 ?_
    have hP9 := hP.part (cx := [(h, .inr (11, [.ref rc, .ref d])), (rc, .inr (4, [.ref tp, .ref ln, .ref tb, .ref ct, .ref dp])), (ct, .inl (cI, 10, .inl cn)), (dp, .inl (cQ, 16, .inr (.inr (.inr (.inr dpf)))))]) [0, 1, 2, 3] rfl
    have hD9 := hD.part (cx := [(h, .inr (11, [.ref rc, .ref d])), (rc, .inr (4, [.ref tp, .ref ln, .ref tb, .ref ct, .ref dp])), (ct, .inl (cI, 10, .inl cn)), (dp, .inl (cQ, 16, .inr (.inr (.inr (.inr dpf)))))]) [0, 1, 2, 3] (by decide) rfl
    have hK9 := hK.sub (tys' := [(cI, .int), (cQ, .object "StreamSplitter$Piece")]) [0, 1] rfl
    refine W.widen (k := 1) (n := 6) (by omega) (by omega) ?_
    exact W.mono MQ.toT (W.lret (v := (-1)) hx hb hr (fun t ht hW => Or.inl ⟨_, (), rfl, rfl, ⟨by rw [ht]; exact hP9, va_K.moved hW.alike hK9, hD9⟩, hS.F ht⟩) hS.2.2 d_SS_piece_39)
  · have hb2 := hbk
    have hPc := hP.sub (ws' := [(rc, .inr (4, [.ref tp, .ref ln, .ref tb, .ref ct, .ref dp])), (ct, .inl (cI, 10, .inl cn)), (dp, .inl (cQ, 16, .inr (.inr (.inr (.inr dpf)))))]) [1, 2, 3] rfl
    have hKc := hK.sub (tys' := [(cI, .int), (cQ, .object "StreamSplitter$Piece")]) [0, 1] rfl
    refine z_cq (va_runV (As := [.int k]) (rest := []) ⟨hx, hb, hml, hown, hts⟩ (c_Receiver_doneBeforeN l D cI cQ rc tp ln tb ct dp cn dpf k hbk) (z_cV hN wd_873 wd_60 wd_870 hd_Receiver_doneBefore rfl rfl ⟨Nat.le_of_ble_eq_true rfl, Nat.le_of_ble_eq_true rfl⟩ wd_871 wd_872) (z_preV (va_recv (ci := 4) (q0 := 1) hK hP rfl rfl) hPc hKc hN) rfl rfl hl.1 rfl (lv_room (Nat.le_of_ble_eq_true rfl)) d_SS_piece_28 ⟨Nat.le_of_ble_eq_true rfl, Nat.le_of_ble_eq_true rfl⟩) (fun r28 e28 => ?_)
    subst e28
    refine z_topq (w := none) rfl ?_
    refine lv_astore_nN (lv' := [(3, .null), (0, .ref h), (1, .int k), (2, .int w)]) hx hb d_SS_piece_31 rfl hl (by decide) rfl (fun ls hl => ?_)
    refine lv_aload_nN hx hb d_SS_piece_32 rfl (lv_at hl 0 rfl) ?_
    refine lv_ifnonnullN hx hb d_SS_piece_33 ?_
    refine lv_ldc2 hx hb hown (hts _ wd_859) d_SS_piece_36 ?_
    have hP9 := hP.part (cx := [(h, .inr (11, [.ref rc, .ref d])), (rc, .inr (4, [.ref tp, .ref ln, .ref tb, .ref ct, .ref dp])), (ct, .inl (cI, 10, .inl cn)), (dp, .inl (cQ, 16, .inr (.inr (.inr (.inr dpf)))))]) [0, 1, 2, 3] rfl
    have hD9 := hD.part (cx := [(h, .inr (11, [.ref rc, .ref d])), (rc, .inr (4, [.ref tp, .ref ln, .ref tb, .ref ct, .ref dp])), (ct, .inl (cI, 10, .inl cn)), (dp, .inl (cQ, 16, .inr (.inr (.inr (.inr dpf)))))]) [0, 1, 2, 3] (by decide) rfl
    have hK9 := hK.sub (tys' := [(cI, .int), (cQ, .object "StreamSplitter$Piece")]) [0, 1] rfl
    refine W.widen (k := 1) (n := 6) (by omega) (by omega) ?_
    exact W.mono MQ.toT (W.lret (v := (-1)) hx hb hr (fun t ht hW => Or.inl ⟨_, (), rfl, rfl, ⟨by rw [ht]; exact hP9, va_K.moved hW.alike hK9, hD9⟩, hS.F ht⟩) hS.2.2 d_SS_piece_39)
set_option maxHeartbeats 4000000 in
set_option maxRecDepth 100000 in
theorem c_SS_piece_some (l : Launch) (D : va_G) (hfl : l.stackTraces = false) (B0 : State) (hG : zG B0) (sz : Nat) (cI cQ : ClassId) (h d rc tp ln tb ct dp : Nat) (cn : Nat → Int32) (dpf : Nat → Option Nat) (dn : Nat → Option PQ9) (Q : va_W) (k : Int32) (w : Nat) (q : PQ9) (hw : w ≤ 4) (hk : ¬ k < 0) (hdp : dpok dpf dn) (hbk : dbK cn k) (hq : dn (kdI (cn 9 - 1 - k)) = some q) : MetT l y_SS_piece [Cond.code y_SS_piece b_SS_piece 4 (some .long)] ({ frames := 1, cells := 1, slots := 6, locals := 21 }) (zMo [.ref h, .int k, .int (nI w)] D ([(h, .inr (11, [.ref rc, .ref d])), (rc, .inr (4, [.ref tp, .ref ln, .ref tb, .ref ct, .ref dp])), (ct, .inl (cI, 10, .inl cn)), (dp, .inl (cQ, 16, .inr (.inr (.inr (.inr dpf)))))] ++ (dpl dn ++ Q)) [(cI, .int), (cQ, .object "StreamSplitter$Piece")] sz B0) (zQl (fun r0 (_ : Unit) => r0 = pcV q w) (fun (_u : Unit) t => zW D (va_A ([(h, .inr (11, [.ref rc, .ref d])), (rc, .inr (4, [.ref tp, .ref ln, .ref tb, .ref ct, .ref dp])), (ct, .inl (cI, 10, .inl cn)), (dp, .inl (cQ, 16, .inr (.inr (.inr (.inr dpf)))))] ++ (dpl dn ++ Q)) sz) ([(h, .inr (11, [.ref rc, .ref d])), (rc, .inr (4, [.ref tp, .ref ln, .ref tb, .ref ct, .ref dp])), (ct, .inl (cI, 10, .inl cn)), (dp, .inl (cQ, 16, .inr (.inr (.inr (.inr dpf)))))] ++ (dpl dn ++ Q)) [(cI, .int), (cQ, .object "StreamSplitter$Piece")] t) (va_A ([(h, .inr (11, [.ref rc, .ref d])), (rc, .inr (4, [.ref tp, .ref ln, .ref tb, .ref ct, .ref dp])), (ct, .inl (cI, 10, .inl cn)), (dp, .inl (cQ, 16, .inr (.inr (.inr (.inr dpf)))))] ++ (dpl dn ++ Q)) sz) (fun _ => False)) 1 6 (va_A ([(h, .inr (11, [.ref rc, .ref d])), (rc, .inr (4, [.ref tp, .ref ln, .ref tb, .ref ct, .ref dp])), (ct, .inl (cI, 10, .inl cn)), (dp, .inl (cQ, 16, .inr (.inr (.inr (.inr dpf)))))] ++ (dpl dn ++ Q)) sz) := by
  refine MetT.ofW (cc := b_SS_piece) (maxL := 4) (ret := (some .long)) (by decide) rfl ?_
  intro p e s m args below meth cd s₁ Bd hml hem hv
  obtain ⟨rfl, hsz, hP, hK, hN, hD0, hO⟩ := hv
  have hx := Bd.exec
  have hb := Bd.bytes
  have hr := Bd.returns
  have hts := hN.use (a := ([.ref h, .int k, .int (nI w)]).toArray)
  have hown : s.vm.findClass R_SS = some m.cls := findClass_of_methodNamed Bd.named
  have hlocks := Bd.notSynchronized
  subst hsz
  have hD := hD0.self (sz := s.heap.size)
  have hAO := z_AO hD0 hO
  clear hD0
  have hA : ∀ q : Nat, s.heap.size ≤ q → va_A ([(h, .inr (11, [.ref rc, .ref d])), (rc, .inr (4, [.ref tp, .ref ln, .ref tb, .ref ct, .ref dp])), (ct, .inl (cI, 10, .inl cn)), (dp, .inl (cQ, 16, .inr (.inr (.inr (.inr dpf)))))] ++ (dpl dn ++ Q)) s.heap.size q := fun q h => Or.inr h
  have hS : va_S (va_A ([(h, .inr (11, [.ref rc, .ref d])), (rc, .inr (4, [.ref tp, .ref ln, .ref tb, .ref ct, .ref dp])), (ct, .inl (cI, 10, .inl cn)), (dp, .inl (cQ, 16, .inr (.inr (.inr (.inr dpf)))))] ++ (dpl dn ++ Q)) s.heap.size) s.heap s.heap [] := va_S.rf
  generalize hAe : va_A ([(h, .inr (11, [.ref rc, .ref d])), (rc, .inr (4, [.ref tp, .ref ln, .ref tb, .ref ct, .ref dp])), (ct, .inl (cI, 10, .inl cn)), (dp, .inl (cQ, 16, .inr (.inr (.inr (.inr dpf)))))] ++ (dpl dn ++ Q)) s.heap.size = A at hD hA hS hAO ⊢
  have hP : va_P D classes ([(h, .inr (11, [.ref rc, .ref d])), (rc, .inr (4, [.ref tp, .ref ln, .ref tb, .ref ct, .ref dp])), (ct, .inl (cI, 10, .inl cn)), (dp, .inl (cQ, 16, .inr (.inr (.inr (.inr dpf)))))] ++ (dpl dn ++ Q)) s.heap := hP
  have hl := lv_entry ([.ref h, .int k, .int (nI w)]) (n := 4) (Nat.le_of_ble_eq_true rfl)
  rw [lg_entry_eq]
  generalize (lg_sl ([.ref h, .int k, .int (nI w)]) ++ List.replicate (4 - (lg_sl ([.ref h, .int k, .int (nI w)])).length) Slot.unset).toArray = ls at hl ⊢
  have hl : lv_has ls 4 [(0, .ref h), (1, .int k), (2, .int (nI w))] := hl
  refine lv_iload_n hx hb d_SS_piece_0 rfl (lv_at hl 2 rfl) ?_
  refine lv_if_lt (tgt := 13) hx hb d_SS_piece_1 rfl (fun h9 => absurd h9 (nI_pos (by omega))) (fun h1 => ?_)
  refine lv_iload_n hx hb d_SS_piece_4 rfl (lv_at hl 2 rfl) ?_
  refine lv_iconst (v := 4) hx hb d_SS_piece_5 (by decide) ?_
  refine lv_icmp_gt (tgt := 13) hx hb d_SS_piece_6 rfl (fun h9 => absurd h9 (Int32.not_lt.mpr (nI_le (a := w) (b := 4) hw (by decide)))) (fun h6 => ?_)
  refine lv_iload_n hx hb d_SS_piece_9 rfl (lv_at hl 1 rfl) ?_
  refine lv_if_ge (tgt := 23) hx hb d_SS_piece_10 rfl (fun h10 => ?_) (fun h9 => absurd (Int32.not_le.mp h9) hk)
  refine lv_aload_n hx hb d_SS_piece_23 rfl (lv_at hl 0 rfl) ?_
  refine va_get (D := D) (ci := 11) (v := .ref rc) (C := R_SS) (T := F_SS) (N := 2) hx hb hts i_SS hown hK hP 0 rfl rfl 0 (by decide) (hts _ wd_198) (fun _ h9 => h9) rfl d_SS_piece_24 ?_
  refine lv_iload_n hx hb d_SS_piece_27 rfl (lv_at hl 1 rfl) ?_
  have hdq : dpf (kdI (cn 9 - 1 - k)) = some q.1 := by rw [hdp _ (kdI_lt _), hq]; rfl
  obtain ⟨q0, hq0⟩ := dp_mem (X := [(h, .inr (11, [.ref rc, .ref d])), (rc, .inr (4, [.ref tp, .ref ln, .ref tb, .ref ct, .ref dp])), (ct, .inl (cI, 10, .inl cn)), (dp, .inl (cQ, 16, .inr (.inr (.inr (.inr dpf)))))]) (Q := Q) (kdI_lt (cn 9 - 1 - k)) hq
  have hPc := hP.sub (ws' := [(rc, .inr (4, [.ref tp, .ref ln, .ref tb, .ref ct, .ref dp])), (ct, .inl (cI, 10, .inl cn)), (dp, .inl (cQ, 16, .inr (.inr (.inr (.inr dpf)))))]) [1, 2, 3] rfl
  have hKc := hK.sub (tys' := [(cI, .int), (cQ, .object "StreamSplitter$Piece")]) [0, 1] rfl
  refine z_cq (va_runV (As := [.int k]) (rest := []) ⟨hx, hb, hml, hown, hts⟩ (c_Receiver_doneBeforeS l D cI cQ rc tp ln tb ct dp cn dpf k hbk) (z_cV hN wd_873 wd_60 wd_870 hd_Receiver_doneBefore rfl rfl ⟨Nat.le_of_ble_eq_true rfl, Nat.le_of_ble_eq_true rfl⟩ wd_871 wd_872) (z_preV (va_recv (ci := 4) (q0 := 1) hK hP rfl rfl) hPc hKc hN) rfl rfl hl.1 rfl (lv_room (Nat.le_of_ble_eq_true rfl)) d_SS_piece_28 ⟨Nat.le_of_ble_eq_true rfl, Nat.le_of_ble_eq_true rfl⟩) (fun r28 e28 => ?_)
  subst e28
  refine z_topq (w := some q.1) hdq ?_
  refine lv_astore_n (lv' := [(3, .ref q.1), (0, .ref h), (1, .int k), (2, .int (nI w))]) hx hb d_SS_piece_31 rfl hl (by decide) rfl (fun ls hl => ?_)
  refine lv_aload_n hx hb d_SS_piece_32 rfl (lv_at hl 0 rfl) ?_
  refine lv_ifnonnull (tgt := 40) hx hb d_SS_piece_33 rfl ?_
  refine lv_iload_n hx hb d_SS_piece_40 rfl (lv_at hl 3 rfl) ?_
  by_cases hs0 : w = 0
  · subst hs0
    refine lv_tableIn (tgt := 72) hx hb d_SS_piece_41 (by decide) (by decide) rfl rfl ?_
    refine lv_aload_n hx hb d_SS_piece_72 rfl (lv_at hl 0 rfl) ?_
    refine va_getN (D := D) (ci := 3) (v := .int q.2.2.1) (C := R_Piece) (T := F_Piece) (N := 7) hx hb hts i_Piece hown hK hP q0 hq0 rfl 1 (by decide) (hts _ wd_361) (fun _ h9 => h9) rfl d_SS_piece_73 ?_
    refine lv_i2l (v := q.2.2.1.toInt64) hx hb d_SS_piece_76 rfl ?_
    have hP9 := hP.part (cx := [(h, .inr (11, [.ref rc, .ref d])), (rc, .inr (4, [.ref tp, .ref ln, .ref tb, .ref ct, .ref dp])), (ct, .inl (cI, 10, .inl cn)), (dp, .inl (cQ, 16, .inr (.inr (.inr (.inr dpf)))))]) [0, 1, 2, 3] rfl
    have hD9 := hD.part (cx := [(h, .inr (11, [.ref rc, .ref d])), (rc, .inr (4, [.ref tp, .ref ln, .ref tb, .ref ct, .ref dp])), (ct, .inl (cI, 10, .inl cn)), (dp, .inl (cQ, 16, .inr (.inr (.inr (.inr dpf)))))]) [0, 1, 2, 3] (by decide) rfl
    have hK9 := hK.sub (tys' := [(cI, .int), (cQ, .object "StreamSplitter$Piece")]) [0, 1] rfl
    refine W.widen (k := 1) (n := 6) (by omega) (by omega) ?_
    exact W.mono MQ.toT (W.lret (v := q.2.2.1.toInt64) hx hb hr (fun t ht hW => Or.inl ⟨_, (), rfl, rfl, ⟨by rw [ht]; exact hP9, va_K.moved hW.alike hK9, hD9⟩, hS.F ht⟩) hS.2.2 d_SS_piece_77)
  by_cases hs1 : w = 1
  · subst hs1
    refine lv_tableIn (tgt := 78) hx hb d_SS_piece_41 (by decide) (by decide) rfl rfl ?_
    refine lv_aload_n hx hb d_SS_piece_78 rfl (lv_at hl 0 rfl) ?_
    refine va_getN (D := D) (ci := 3) (v := .int q.2.2.2.1) (C := R_Piece) (T := F_Piece) (N := 7) hx hb hts i_Piece hown hK hP q0 hq0 rfl 2 (by decide) (hts _ wd_363) (fun _ h9 => h9) rfl d_SS_piece_79 ?_
    refine lv_i2l (v := q.2.2.2.1.toInt64) hx hb d_SS_piece_82 rfl ?_
    have hP9 := hP.part (cx := [(h, .inr (11, [.ref rc, .ref d])), (rc, .inr (4, [.ref tp, .ref ln, .ref tb, .ref ct, .ref dp])), (ct, .inl (cI, 10, .inl cn)), (dp, .inl (cQ, 16, .inr (.inr (.inr (.inr dpf)))))]) [0, 1, 2, 3] rfl
    have hD9 := hD.part (cx := [(h, .inr (11, [.ref rc, .ref d])), (rc, .inr (4, [.ref tp, .ref ln, .ref tb, .ref ct, .ref dp])), (ct, .inl (cI, 10, .inl cn)), (dp, .inl (cQ, 16, .inr (.inr (.inr (.inr dpf)))))]) [0, 1, 2, 3] (by decide) rfl
    have hK9 := hK.sub (tys' := [(cI, .int), (cQ, .object "StreamSplitter$Piece")]) [0, 1] rfl
    refine W.widen (k := 1) (n := 6) (by omega) (by omega) ?_
    exact W.mono MQ.toT (W.lret (v := q.2.2.2.1.toInt64) hx hb hr (fun t ht hW => Or.inl ⟨_, (), rfl, rfl, ⟨by rw [ht]; exact hP9, va_K.moved hW.alike hK9, hD9⟩, hS.F ht⟩) hS.2.2 d_SS_piece_83)
  by_cases hs2 : w = 2
  · subst hs2
    refine lv_tableIn (tgt := 84) hx hb d_SS_piece_41 (by decide) (by decide) rfl rfl ?_
    refine lv_aload_n hx hb d_SS_piece_84 rfl (lv_at hl 0 rfl) ?_
    refine va_getN (D := D) (ci := 3) (v := .long q.2.2.2.2.1) (C := R_Piece) (T := F_Piece) (N := 7) hx hb hts i_Piece hown hK hP q0 hq0 rfl 3 (by decide) (hts _ wd_365) (fun _ h9 => h9) rfl d_SS_piece_85 ?_
    have hP9 := hP.part (cx := [(h, .inr (11, [.ref rc, .ref d])), (rc, .inr (4, [.ref tp, .ref ln, .ref tb, .ref ct, .ref dp])), (ct, .inl (cI, 10, .inl cn)), (dp, .inl (cQ, 16, .inr (.inr (.inr (.inr dpf)))))]) [0, 1, 2, 3] rfl
    have hD9 := hD.part (cx := [(h, .inr (11, [.ref rc, .ref d])), (rc, .inr (4, [.ref tp, .ref ln, .ref tb, .ref ct, .ref dp])), (ct, .inl (cI, 10, .inl cn)), (dp, .inl (cQ, 16, .inr (.inr (.inr (.inr dpf)))))]) [0, 1, 2, 3] (by decide) rfl
    have hK9 := hK.sub (tys' := [(cI, .int), (cQ, .object "StreamSplitter$Piece")]) [0, 1] rfl
    refine W.widen (k := 1) (n := 6) (by omega) (by omega) ?_
    exact W.mono MQ.toT (W.lret (v := q.2.2.2.2.1) hx hb hr (fun t ht hW => Or.inl ⟨_, (), rfl, rfl, ⟨by rw [ht]; exact hP9, va_K.moved hW.alike hK9, hD9⟩, hS.F ht⟩) hS.2.2 d_SS_piece_88)
  by_cases hs3 : w = 3
  · subst hs3
    refine lv_tableIn (tgt := 89) hx hb d_SS_piece_41 (by decide) (by decide) rfl rfl ?_
    refine lv_aload_n hx hb d_SS_piece_89 rfl (lv_at hl 0 rfl) ?_
    refine va_getN (D := D) (ci := 3) (v := .int q.2.2.2.2.2.1) (C := R_Piece) (T := F_Piece) (N := 7) hx hb hts i_Piece hown hK hP q0 hq0 rfl 4 (by decide) (hts _ wd_367) (fun _ h9 => h9) rfl d_SS_piece_90 ?_
    refine lv_i2l (v := q.2.2.2.2.2.1.toInt64) hx hb d_SS_piece_93 rfl ?_
    have hP9 := hP.part (cx := [(h, .inr (11, [.ref rc, .ref d])), (rc, .inr (4, [.ref tp, .ref ln, .ref tb, .ref ct, .ref dp])), (ct, .inl (cI, 10, .inl cn)), (dp, .inl (cQ, 16, .inr (.inr (.inr (.inr dpf)))))]) [0, 1, 2, 3] rfl
    have hD9 := hD.part (cx := [(h, .inr (11, [.ref rc, .ref d])), (rc, .inr (4, [.ref tp, .ref ln, .ref tb, .ref ct, .ref dp])), (ct, .inl (cI, 10, .inl cn)), (dp, .inl (cQ, 16, .inr (.inr (.inr (.inr dpf)))))]) [0, 1, 2, 3] (by decide) rfl
    have hK9 := hK.sub (tys' := [(cI, .int), (cQ, .object "StreamSplitter$Piece")]) [0, 1] rfl
    refine W.widen (k := 1) (n := 6) (by omega) (by omega) ?_
    exact W.mono MQ.toT (W.lret (v := q.2.2.2.2.2.1.toInt64) hx hb hr (fun t ht hW => Or.inl ⟨_, (), rfl, rfl, ⟨by rw [ht]; exact hP9, va_K.moved hW.alike hK9, hD9⟩, hS.F ht⟩) hS.2.2 d_SS_piece_94)
  obtain rfl : w = 4 := by omega
  refine lv_tableOut (tgt := 95) hx hb d_SS_piece_41 (by decide) rfl ?_
  refine lv_aload_n hx hb d_SS_piece_95 rfl (lv_at hl 0 rfl) ?_
  refine va_getN (D := D) (ci := 3) (v := .int q.2.2.2.2.2.2.1) (C := R_Piece) (T := F_Piece) (N := 7) hx hb hts i_Piece hown hK hP q0 hq0 rfl 5 (by decide) (hts _ wd_369) (fun _ h9 => h9) rfl d_SS_piece_96 ?_
  refine lv_i2l (v := q.2.2.2.2.2.2.1.toInt64) hx hb d_SS_piece_99 rfl ?_
  have hP9 := hP.part (cx := [(h, .inr (11, [.ref rc, .ref d])), (rc, .inr (4, [.ref tp, .ref ln, .ref tb, .ref ct, .ref dp])), (ct, .inl (cI, 10, .inl cn)), (dp, .inl (cQ, 16, .inr (.inr (.inr (.inr dpf)))))]) [0, 1, 2, 3] rfl
  have hD9 := hD.part (cx := [(h, .inr (11, [.ref rc, .ref d])), (rc, .inr (4, [.ref tp, .ref ln, .ref tb, .ref ct, .ref dp])), (ct, .inl (cI, 10, .inl cn)), (dp, .inl (cQ, 16, .inr (.inr (.inr (.inr dpf)))))]) [0, 1, 2, 3] (by decide) rfl
  have hK9 := hK.sub (tys' := [(cI, .int), (cQ, .object "StreamSplitter$Piece")]) [0, 1] rfl
  refine W.widen (k := 1) (n := 6) (by omega) (by omega) ?_
  exact W.mono MQ.toT (W.lret (v := q.2.2.2.2.2.2.1.toInt64) hx hb hr (fun t ht hW => Or.inl ⟨_, (), rfl, rfl, ⟨by rw [ht]; exact hP9, va_K.moved hW.alike hK9, hD9⟩, hS.F ht⟩) hS.2.2 d_SS_piece_100)
