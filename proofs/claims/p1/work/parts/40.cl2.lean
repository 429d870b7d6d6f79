theorem wd_108 : (Jvm.Cond.fieldLinkNest "StreamSplitter$Lane" (32 : Nat) "StreamSplitter$Row" "size" "I" "StreamSplitter") ∈ lw_ok := List.mem_filter.mpr ⟨List.mem_of_getElem? (i := 108) (by decide +kernel), rfl⟩
theorem wd_175 : (Jvm.Cond.fieldLink "StreamSplitter$Receiver" (14 : Nat) "StreamSplitter$Receiver" "tape" "LStreamSplitter$Row;") ∈ lw_ok := List.mem_filter.mpr ⟨List.mem_of_getElem? (i := 175) (by decide +kernel), rfl⟩
theorem wd_221 : (Jvm.Cond.methodLink "StreamSplitter$Receiver" (44 : Nat) ({ cls := "StreamSplitter$Row", name := "at", desc := "(I)I" } : Jvm.MethodName)) ∈ lw_ok := List.mem_filter.mpr ⟨List.mem_of_getElem? (i := 221) (by decide +kernel), rfl⟩
theorem wd_255 : (Jvm.Cond.fieldLink "StreamSplitter$Lane" (28 : Nat) "StreamSplitter$Lane" "section" "LStreamSplitter$Row;") ∈ lw_ok := List.mem_filter.mpr ⟨List.mem_of_getElem? (i := 255) (by decide +kernel), rfl⟩
theorem wd_257 : (Jvm.Cond.fieldLink "StreamSplitter$Lane" (37 : Nat) "StreamSplitter$Lane" "piece" "LStreamSplitter$Piece;") ∈ lw_ok := List.mem_filter.mpr ⟨List.mem_of_getElem? (i := 257) (by decide +kernel), rfl⟩
theorem wd_277 : (Jvm.Cond.methodLink "StreamSplitter$Receiver" (58 : Nat) ({ cls := "StreamSplitter$Row", name := "bits", desc := "(II)J" } : Jvm.MethodName)) ∈ lw_ok := List.mem_filter.mpr ⟨List.mem_of_getElem? (i := 277) (by decide +kernel), rfl⟩
theorem wd_358 : (Jvm.Cond.fieldLinkNest "StreamSplitter$Lane" (41 : Nat) "StreamSplitter$Piece" "open" "Z" "StreamSplitter") ∈ lw_ok := List.mem_filter.mpr ⟨List.mem_of_getElem? (i := 358) (by decide +kernel), rfl⟩
theorem d_Lane_gathersPiece_0 : decode b_Lane_gathersPiece 0 = .ok (.aload_n 0, 1) := by decide +kernel
theorem d_Lane_gathersPiece_1 : decode b_Lane_gathersPiece 1 = .ok (.getfield 37, 3) := by decide +kernel
theorem d_Lane_gathersPiece_4 : decode b_Lane_gathersPiece 4 = .ok (.ifnull 17, 3) := by decide +kernel
theorem d_Lane_gathersPiece_7 : decode b_Lane_gathersPiece 7 = .ok (.aload_n 0, 1) := by decide +kernel
theorem d_Lane_gathersPiece_8 : decode b_Lane_gathersPiece 8 = .ok (.getfield 37, 3) := by decide +kernel
theorem d_Lane_gathersPiece_11 : decode b_Lane_gathersPiece 11 = .ok (.getfield 41, 3) := by decide +kernel
theorem d_Lane_gathersPiece_14 : decode b_Lane_gathersPiece 14 = .ok (.ifCond .eq 7, 3) := by decide +kernel
theorem d_Lane_gathersPiece_17 : decode b_Lane_gathersPiece 17 = .ok (.iconst 1, 1) := by decide +kernel
theorem d_Lane_gathersPiece_18 : decode b_Lane_gathersPiece 18 = .ok (.goto 4, 3) := by decide +kernel
theorem d_Lane_gathersPiece_21 : decode b_Lane_gathersPiece 21 = .ok (.iconst 0, 1) := by decide +kernel
theorem d_Lane_gathersPiece_22 : decode b_Lane_gathersPiece 22 = .ok (.ireturn, 1) := by decide +kernel
theorem d_Lane_gathersSection_0 : decode b_Lane_gathersSection 0 = .ok (.aload_n 0, 1) := by decide +kernel
theorem d_Lane_gathersSection_1 : decode b_Lane_gathersSection 1 = .ok (.getfield 28, 3) := by decide +kernel
theorem d_Lane_gathersSection_4 : decode b_Lane_gathersSection 4 = .ok (.ifnull 17, 3) := by decide +kernel
theorem d_Lane_gathersSection_7 : decode b_Lane_gathersSection 7 = .ok (.aload_n 0, 1) := by decide +kernel
theorem d_Lane_gathersSection_8 : decode b_Lane_gathersSection 8 = .ok (.getfield 28, 3) := by decide +kernel
theorem d_Lane_gathersSection_11 : decode b_Lane_gathersSection 11 = .ok (.getfield 32, 3) := by decide +kernel
theorem d_Lane_gathersSection_14 : decode b_Lane_gathersSection 14 = .ok (.ifCond .le 7, 3) := by decide +kernel
theorem d_Lane_gathersSection_17 : decode b_Lane_gathersSection 17 = .ok (.iconst 1, 1) := by decide +kernel
theorem d_Lane_gathersSection_18 : decode b_Lane_gathersSection 18 = .ok (.goto 4, 3) := by decide +kernel
theorem d_Lane_gathersSection_21 : decode b_Lane_gathersSection 21 = .ok (.iconst 0, 1) := by decide +kernel
theorem d_Lane_gathersSection_22 : decode b_Lane_gathersSection 22 = .ok (.ireturn, 1) := by decide +kernel
theorem d_Receiver_beginsAnew_0 : decode b_Receiver_beginsAnew 0 = .ok (.aload_n 0, 1) := by decide +kernel
theorem d_Receiver_beginsAnew_1 : decode b_Receiver_beginsAnew 1 = .ok (.getfield 14, 3) := by decide +kernel
theorem d_Receiver_beginsAnew_4 : decode b_Receiver_beginsAnew 4 = .ok (.iload_n 1, 1) := by decide +kernel
theorem d_Receiver_beginsAnew_5 : decode b_Receiver_beginsAnew 5 = .ok (.iconst 1, 1) := by decide +kernel
theorem d_Receiver_beginsAnew_6 : decode b_Receiver_beginsAnew 6 = .ok (.iadd, 1) := by decide +kernel
theorem d_Receiver_beginsAnew_7 : decode b_Receiver_beginsAnew 7 = .ok (.invokevirtual 44, 3) := by decide +kernel
theorem d_Receiver_beginsAnew_10 : decode b_Receiver_beginsAnew 10 = .ok (.bipush 64, 2) := by decide +kernel
theorem d_Receiver_beginsAnew_12 : decode b_Receiver_beginsAnew 12 = .ok (.iand, 1) := by decide +kernel
theorem d_Receiver_beginsAnew_13 : decode b_Receiver_beginsAnew 13 = .ok (.ifCond .eq 7, 3) := by decide +kernel
theorem d_Receiver_beginsAnew_16 : decode b_Receiver_beginsAnew 16 = .ok (.iconst 1, 1) := by decide +kernel
theorem d_Receiver_beginsAnew_17 : decode b_Receiver_beginsAnew 17 = .ok (.goto 4, 3) := by decide +kernel
theorem d_Receiver_beginsAnew_20 : decode b_Receiver_beginsAnew 20 = .ok (.iconst 0, 1) := by decide +kernel
theorem d_Receiver_beginsAnew_21 : decode b_Receiver_beginsAnew 21 = .ok (.ireturn, 1) := by decide +kernel
theorem d_Receiver_isBad_0 : decode b_Receiver_isBad 0 = .ok (.aload_n 0, 1) := by decide +kernel
theorem d_Receiver_isBad_1 : decode b_Receiver_isBad 1 = .ok (.getfield 14, 3) := by decide +kernel
theorem d_Receiver_isBad_4 : decode b_Receiver_isBad 4 = .ok (.iload_n 1, 1) := by decide +kernel
theorem d_Receiver_isBad_5 : decode b_Receiver_isBad 5 = .ok (.iconst 1, 1) := by decide +kernel
theorem d_Receiver_isBad_6 : decode b_Receiver_isBad 6 = .ok (.iadd, 1) := by decide +kernel
theorem d_Receiver_isBad_7 : decode b_Receiver_isBad 7 = .ok (.invokevirtual 44, 3) := by decide +kernel
theorem d_Receiver_isBad_10 : decode b_Receiver_isBad 10 = .ok (.sipush 128, 3) := by decide +kernel
theorem d_Receiver_isBad_13 : decode b_Receiver_isBad 13 = .ok (.iand, 1) := by decide +kernel
theorem d_Receiver_isBad_14 : decode b_Receiver_isBad 14 = .ok (.ifCond .ne 31, 3) := by decide +kernel
theorem d_Receiver_isBad_17 : decode b_Receiver_isBad 17 = .ok (.iload_n 2, 1) := by decide +kernel
theorem d_Receiver_isBad_18 : decode b_Receiver_isBad 18 = .ok (.ifCond .eq 27, 3) := by decide +kernel
theorem d_Receiver_isBad_21 : decode b_Receiver_isBad 21 = .ok (.iload_n 2, 1) := by decide +kernel
theorem d_Receiver_isBad_22 : decode b_Receiver_isBad 22 = .ok (.iconst 2, 1) := by decide +kernel
theorem d_Receiver_isBad_23 : decode b_Receiver_isBad 23 = .ok (.if_icmp .ne 10, 3) := by decide +kernel
theorem d_Receiver_isBad_26 : decode b_Receiver_isBad 26 = .ok (.iload_n 3, 1) := by decide +kernel
theorem d_Receiver_isBad_27 : decode b_Receiver_isBad 27 = .ok (.sipush 183, 3) := by decide +kernel
theorem d_Receiver_isBad_30 : decode b_Receiver_isBad 30 = .ok (.if_icmp .ne 15, 3) := by decide +kernel
theorem d_Receiver_isBad_33 : decode b_Receiver_isBad 33 = .ok (.iload_n 2, 1) := by decide +kernel
theorem d_Receiver_isBad_34 : decode b_Receiver_isBad 34 = .ok (.iconst 3, 1) := by decide +kernel
theorem d_Receiver_isBad_35 : decode b_Receiver_isBad 35 = .ok (.if_icmp .ne 14, 3) := by decide +kernel
theorem d_Receiver_isBad_38 : decode b_Receiver_isBad 38 = .ok (.iload_n 3, 1) := by decide +kernel
theorem d_Receiver_isBad_39 : decode b_Receiver_isBad 39 = .ok (.sipush 182, 3) := by decide +kernel
theorem d_Receiver_isBad_42 : decode b_Receiver_isBad 42 = .ok (.if_icmp .le 7, 3) := by decide +kernel
theorem d_Receiver_isBad_45 : decode b_Receiver_isBad 45 = .ok (.iconst 1, 1) := by decide +kernel
theorem d_Receiver_isBad_46 : decode b_Receiver_isBad 46 = .ok (.goto 4, 3) := by decide +kernel
theorem d_Receiver_isBad_49 : decode b_Receiver_isBad 49 = .ok (.iconst 0, 1) := by decide +kernel
theorem d_Receiver_isBad_50 : decode b_Receiver_isBad 50 = .ok (.ireturn, 1) := by decide +kernel
theorem d_Receiver_timeAt_0 : decode b_Receiver_timeAt 0 = .ok (.bipush 8, 2) := by decide +kernel
theorem d_Receiver_timeAt_2 : decode b_Receiver_timeAt 2 = .ok (.iload_n 1, 1) := by decide +kernel
theorem d_Receiver_timeAt_3 : decode b_Receiver_timeAt 3 = .ok (.imul, 1) := by decide +kernel
theorem d_Receiver_timeAt_4 : decode b_Receiver_timeAt 4 = .ok (.istore_n 2, 1) := by decide +kernel
theorem d_Receiver_timeAt_5 : decode b_Receiver_timeAt 5 = .ok (.aload_n 0, 1) := by decide +kernel
theorem d_Receiver_timeAt_6 : decode b_Receiver_timeAt 6 = .ok (.getfield 14, 3) := by decide +kernel
theorem d_Receiver_timeAt_9 : decode b_Receiver_timeAt 9 = .ok (.iload_n 2, 1) := by decide +kernel
theorem d_Receiver_timeAt_10 : decode b_Receiver_timeAt 10 = .ok (.iconst 4, 1) := by decide +kernel
theorem d_Receiver_timeAt_11 : decode b_Receiver_timeAt 11 = .ok (.iadd, 1) := by decide +kernel
theorem d_Receiver_timeAt_12 : decode b_Receiver_timeAt 12 = .ok (.iconst 3, 1) := by decide +kernel
theorem d_Receiver_timeAt_13 : decode b_Receiver_timeAt 13 = .ok (.invokevirtual 58, 3) := by decide +kernel
theorem d_Receiver_timeAt_16 : decode b_Receiver_timeAt 16 = .ok (.bipush 30, 2) := by decide +kernel
theorem d_Receiver_timeAt_18 : decode b_Receiver_timeAt 18 = .ok (.lshl, 1) := by decide +kernel
theorem d_Receiver_timeAt_19 : decode b_Receiver_timeAt 19 = .ok (.aload_n 0, 1) := by decide +kernel
theorem d_Receiver_timeAt_20 : decode b_Receiver_timeAt 20 = .ok (.getfield 14, 3) := by decide +kernel
theorem d_Receiver_timeAt_23 : decode b_Receiver_timeAt 23 = .ok (.iload_n 2, 1) := by decide +kernel
theorem d_Receiver_timeAt_24 : decode b_Receiver_timeAt 24 = .ok (.bipush 8, 2) := by decide +kernel
theorem d_Receiver_timeAt_26 : decode b_Receiver_timeAt 26 = .ok (.iadd, 1) := by decide +kernel
theorem d_Receiver_timeAt_27 : decode b_Receiver_timeAt 27 = .ok (.bipush 15, 2) := by decide +kernel
theorem d_Receiver_timeAt_29 : decode b_Receiver_timeAt 29 = .ok (.invokevirtual 58, 3) := by decide +kernel
theorem d_Receiver_timeAt_32 : decode b_Receiver_timeAt 32 = .ok (.bipush 15, 2) := by decide +kernel
theorem d_Receiver_timeAt_34 : decode b_Receiver_timeAt 34 = .ok (.lshl, 1) := by decide +kernel
theorem d_Receiver_timeAt_35 : decode b_Receiver_timeAt 35 = .ok (.lor, 1) := by decide +kernel
theorem d_Receiver_timeAt_36 : decode b_Receiver_timeAt 36 = .ok (.aload_n 0, 1) := by decide +kernel
theorem d_Receiver_timeAt_37 : decode b_Receiver_timeAt 37 = .ok (.getfield 14, 3) := by decide +kernel
theorem d_Receiver_timeAt_40 : decode b_Receiver_timeAt 40 = .ok (.iload_n 2, 1) := by decide +kernel
theorem d_Receiver_timeAt_41 : decode b_Receiver_timeAt 41 = .ok (.bipush 24, 2) := by decide +kernel
theorem d_Receiver_timeAt_43 : decode b_Receiver_timeAt 43 = .ok (.iadd, 1) := by decide +kernel
theorem d_Receiver_timeAt_44 : decode b_Receiver_timeAt 44 = .ok (.bipush 15, 2) := by decide +kernel
theorem d_Receiver_timeAt_46 : decode b_Receiver_timeAt 46 = .ok (.invokevirtual 58, 3) := by decide +kernel
theorem d_Receiver_timeAt_49 : decode b_Receiver_timeAt 49 = .ok (.lor, 1) := by decide +kernel
theorem d_Receiver_timeAt_50 : decode b_Receiver_timeAt 50 = .ok (.lreturn, 1) := by decide +kernel
/-! The receiver's and the lanes' small methods -/

set_option maxHeartbeats 4000000 in
set_option maxRecDepth 100000 in
theorem c_Receiver_beginsAnew (l : Launch) (D : va_G) (cB : ClassId) (rv tp l9 b9 c9 d9 a n ln : Nat) (f : Nat → Int32) (k : Nat) (hln : ln < 2 ^ 31) : Met l y_Receiver_beginsAnew [Cond.code y_Receiver_beginsAnew b_Receiver_beginsAnew 2 (some .boolean)] ({ frames := 1, cells := 0, slots := 0, locals := 21 }) (zP [.ref rv, .int (nI k)] D [(rv, .inr (4, [.ref tp, .ref l9, .ref b9, .ref c9, .ref d9])), (tp, .inr (0, [.ref a, .int (nI n)])), (a, .inl (cB, ln, .inl f))] [(cB, .byte)]) (vp_Si (fun r0 => r0 = if rw_at f n ln (nI (k + 1)) &&& 64 = 0 then 0 else 1)) 0 0 (fun _ => False) := by
  refine Met.ofW (cc := b_Receiver_beginsAnew) (maxL := 2) (ret := (some .boolean)) (by decide) rfl ?_
  intro p e s m args below meth cd s₁ Bd hml hv
  obtain ⟨rfl, hP, hK, hN⟩ := hv
  have hx := Bd.exec
  have hb := Bd.bytes
  have hr := Bd.returns
  have hts := hN.use (a := ([.ref rv, .int (nI k)]).toArray)
  have hown : s.vm.findClass R_Receiver = some m.cls := findClass_of_methodNamed Bd.named
  have hlocks := Bd.notSynchronized
  have hP : va_P D classes [(rv, .inr (4, [.ref tp, .ref l9, .ref b9, .ref c9, .ref d9])), (tp, .inr (0, [.ref a, .int (nI n)])), (a, .inl (cB, ln, .inl f))] s.heap := hP
  have hl := lv_entry ([.ref rv, .int (nI k)]) (n := 2) (Nat.le_of_ble_eq_true rfl)
  rw [lg_entry_eq]
  generalize (lg_sl ([.ref rv, .int (nI k)]) ++ List.replicate (2 - (lg_sl ([.ref rv, .int (nI k)])).length) Slot.unset).toArray = ls at hl ⊢
  have hl : lv_has ls 2 [(0, .ref rv), (1, .int (nI k))] := hl
  refine lv_aload_n hx hb d_Receiver_beginsAnew_0 rfl (lv_at hl 0 rfl) ?_
  refine va_get (D := D) (ci := 4) (v := .ref tp) (C := R_Receiver) (T := F_Receiver) (N := 5) hx hb hts i_Receiver hown hK hP 0 rfl rfl 0 (by decide) (hts _ wd_175) (fun _ h9 => h9) rfl d_Receiver_beginsAnew_1 ?_
  refine lv_iload_n hx hb d_Receiver_beginsAnew_4 rfl (lv_at hl 1 rfl) ?_
  refine lv_iconst (v := 1) hx hb d_Receiver_beginsAnew_5 (by decide) ?_
  refine lv_iadd hx hb d_Receiver_beginsAnew_6 ?_
  refine z_topi (w := nI (k + 1)) (nI_1 k) ?_
  have hPc := hP.sub (ws' := [(tp, .inr (0, [.ref a, .int (nI n)])), (a, .inl (cB, ln, .inl f))]) [1, 2] rfl
  have hKc := hK.sub (tys' := [(cB, .byte)]) [0] rfl
  refine z_ci (va_runV (As := [.int (nI (k + 1))]) (rest := []) ⟨hx, hb, hml, hown, hts⟩ (c_Row_at l D cB tp a n ln f (nI (k + 1)) hln) (z_cV hN wd_212 wd_61 wd_221 hd_Row_at rfl rfl ⟨Nat.le_of_ble_eq_true rfl, Nat.le_of_ble_eq_true rfl⟩ wd_210 wd_211) (z_preV (va_recv (ci := 0) (q0 := 1) hK hP rfl rfl) hPc hKc hN) rfl rfl hl.1 rfl (lv_room (Nat.le_of_ble_eq_true rfl)) d_Receiver_beginsAnew_7 ⟨Nat.le_of_ble_eq_true rfl, Nat.le_of_ble_eq_true rfl⟩) (fun r7 e7 => ?_)
  subst e7
  refine lv_bipush (v := 64) hx hb d_Receiver_beginsAnew_10 (by decide) ?_
  refine lv_iand hx hb d_Receiver_beginsAnew_12 ?_
  refine lv_if_eq (tgt := 20) hx hb d_Receiver_beginsAnew_13 rfl (fun h13 => ?_) (fun h13 => ?_)
  · refine lv_iconst (v := 0) hx hb d_Receiver_beginsAnew_20 (by decide) ?_
    exact W.zret (v := 0) hx hb hr rfl (fun t ht hW => ⟨_, rfl, (by first | exact (if_pos h13).symm | exact (if_neg h13).symm), ht⟩) (fun _ h => by cases h) d_Receiver_beginsAnew_21
  · refine lv_iconst (v := 1) hx hb d_Receiver_beginsAnew_16 (by decide) ?_
    refine lv_goto (tgt := 21) hx hb d_Receiver_beginsAnew_17 rfl ?_
    exact W.zret (v := 1) hx hb hr rfl (fun t ht hW => ⟨_, rfl, (by first | exact (if_pos h13).symm | exact (if_neg h13).symm), ht⟩) (fun _ h => by cases h) d_Receiver_beginsAnew_21
set_option maxHeartbeats 4000000 in
set_option maxRecDepth 100000 in
theorem c_Receiver_isBad (l : Launch) (D : va_G) (cB : ClassId) (rv tp l9 b9 c9 d9 a n ln : Nat) (f : Nat → Int32) (k : Nat) (x y : Int32) (hln : ln < 2 ^ 31) : Met l y_Receiver_isBad [Cond.code y_Receiver_isBad b_Receiver_isBad 4 (some .boolean)] ({ frames := 1, cells := 0, slots := 0, locals := 21 }) (zP [.ref rv, .int (nI k), .int x, .int y] D [(rv, .inr (4, [.ref tp, .ref l9, .ref b9, .ref c9, .ref d9])), (tp, .inr (0, [.ref a, .int (nI n)])), (a, .inl (cB, ln, .inl f))] [(cB, .byte)]) (vp_Si (fun r0 => r0 = if ¬ rw_at f n ln (nI (k + 1)) &&& 128 = 0 ∨ x = 0 ∨ (x = 2 ∧ ¬ y = 183) ∨ (x = 3 ∧ 182 < y) then 1 else 0)) 0 0 (fun _ => False) := by
  refine Met.ofW (cc := b_Receiver_isBad) (maxL := 4) (ret := (some .boolean)) (by decide) rfl ?_
  intro p e s m args below meth cd s₁ Bd hml hv
  obtain ⟨rfl, hP, hK, hN⟩ := hv
  have hx := Bd.exec
  have hb := Bd.bytes
  have hr := Bd.returns
  have hts := hN.use (a := ([.ref rv, .int (nI k), .int x, .int y]).toArray)
  have hown : s.vm.findClass R_Receiver = some m.cls := findClass_of_methodNamed Bd.named
  have hlocks := Bd.notSynchronized
  have hP : va_P D classes [(rv, .inr (4, [.ref tp, .ref l9, .ref b9, .ref c9, .ref d9])), (tp, .inr (0, [.ref a, .int (nI n)])), (a, .inl (cB, ln, .inl f))] s.heap := hP
  have hl := lv_entry ([.ref rv, .int (nI k), .int x, .int y]) (n := 4) (Nat.le_of_ble_eq_true rfl)
  rw [lg_entry_eq]
  generalize (lg_sl ([.ref rv, .int (nI k), .int x, .int y]) ++ List.replicate (4 - (lg_sl ([.ref rv, .int (nI k), .int x, .int y])).length) Slot.unset).toArray = ls at hl ⊢
  have hl : lv_has ls 4 [(0, .ref rv), (1, .int (nI k)), (2, .int x), (3, .int y)] := hl
  refine lv_aload_n hx hb d_Receiver_isBad_0 rfl (lv_at hl 0 rfl) ?_
  refine va_get (D := D) (ci := 4) (v := .ref tp) (C := R_Receiver) (T := F_Receiver) (N := 5) hx hb hts i_Receiver hown hK hP 0 rfl rfl 0 (by decide) (hts _ wd_175) (fun _ h9 => h9) rfl d_Receiver_isBad_1 ?_
  refine lv_iload_n hx hb d_Receiver_isBad_4 rfl (lv_at hl 1 rfl) ?_
  refine lv_iconst (v := 1) hx hb d_Receiver_isBad_5 (by decide) ?_
  refine lv_iadd hx hb d_Receiver_isBad_6 ?_
  refine z_topi (w := nI (k + 1)) (nI_1 k) ?_
  have hPc := hP.sub (ws' := [(tp, .inr (0, [.ref a, .int (nI n)])), (a, .inl (cB, ln, .inl f))]) [1, 2] rfl
  have hKc := hK.sub (tys' := [(cB, .byte)]) [0] rfl
  refine z_ci (va_runV (As := [.int (nI (k + 1))]) (rest := []) ⟨hx, hb, hml, hown, hts⟩ (c_Row_at l D cB tp a n ln f (nI (k + 1)) hln) (z_cV hN wd_212 wd_61 wd_221 hd_Row_at rfl rfl ⟨Nat.le_of_ble_eq_true rfl, Nat.le_of_ble_eq_true rfl⟩ wd_210 wd_211) (z_preV (va_recv (ci := 0) (q0 := 1) hK hP rfl rfl) hPc hKc hN) rfl rfl hl.1 rfl (lv_room (Nat.le_of_ble_eq_true rfl)) d_Receiver_isBad_7 ⟨Nat.le_of_ble_eq_true rfl, Nat.le_of_ble_eq_true rfl⟩) (fun r7 e7 => ?_)
  subst e7
  refine lv_sipush (v := 128) hx hb d_Receiver_isBad_10 (by decide) ?_
  refine lv_iand hx hb d_Receiver_isBad_13 ?_
  refine lv_if_ne (tgt := 45) hx hb d_Receiver_isBad_14 rfl (fun h14 => ?_) (fun h14 => ?_)
  · refine lv_iconst (v := 1) hx hb d_Receiver_isBad_45 (by decide) ?_
    refine lv_goto (tgt := 50) hx hb d_Receiver_isBad_46 rfl ?_
    exact W.zret (v := 1) hx hb hr rfl (fun t ht hW => ⟨_, rfl, (by refine (if_pos ?_).symm; first | exact Or.inl h14 | exact Or.inr (Or.inl h18) | exact Or.inr (Or.inr (Or.inl ⟨h23, h30⟩)) | exact Or.inr (Or.inr (Or.inr ⟨h35, Int32.not_le.mp h42⟩))), ht⟩) (fun _ h => by cases h) d_Receiver_isBad_50
  · refine lv_iload_n hx hb d_Receiver_isBad_17 rfl (lv_at hl 2 rfl) ?_
    refine lv_if_eq (tgt := 45) hx hb d_Receiver_isBad_18 rfl (fun h18 => ?_) (fun h18 => ?_)
    · refine lv_iconst (v := 1) hx hb d_Receiver_isBad_45 (by decide) ?_
      refine lv_goto (tgt := 50) hx hb d_Receiver_isBad_46 rfl ?_
      exact W.zret (v := 1) hx hb hr rfl (fun t ht hW => ⟨_, rfl, (by refine (if_pos ?_).symm; first | exact Or.inl h14 | exact Or.inr (Or.inl h18) | exact Or.inr (Or.inr (Or.inl ⟨h23, h30⟩)) | exact Or.inr (Or.inr (Or.inr ⟨h35, Int32.not_le.mp h42⟩))), ht⟩) (fun _ h => by cases h) d_Receiver_isBad_50
    · refine lv_iload_n hx hb d_Receiver_isBad_21 rfl (lv_at hl 2 rfl) ?_
      refine lv_iconst (v := 2) hx hb d_Receiver_isBad_22 (by decide) ?_
      refine lv_icmp_ne (tgt := 33) hx hb d_Receiver_isBad_23 rfl (fun h23 => ?_) (fun h23 => ?_)
      · refine lv_iload_n hx hb d_Receiver_isBad_33 rfl (lv_at hl 2 rfl) ?_
        refine lv_iconst (v := 3) hx hb d_Receiver_isBad_34 (by decide) ?_
        refine lv_icmp_ne (tgt := 49) hx hb d_Receiver_isBad_35 rfl (fun h35 => ?_) (fun h35 => ?_)
        · refine lv_iconst (v := 0) hx hb d_Receiver_isBad_49 (by decide) ?_
          exact W.zret (v := 0) hx hb hr rfl (fun t ht hW => ⟨_, rfl, (by refine (if_neg (fun z => ?_)).symm; exact z.elim (fun z => z h14) (fun z => z.elim h18 (fun z => z.elim (fun q => by first | exact h23 q.1 | exact q.2 h30) (fun q => by first | exact h35 q.1 | exact Int32.not_lt.mpr h42 q.2)))), ht⟩) (fun _ h => by cases h) d_Receiver_isBad_50
        · refine lv_iload_n hx hb d_Receiver_isBad_38 rfl (lv_at hl 3 rfl) ?_
          refine lv_sipush (v := 182) hx hb d_Receiver_isBad_39 (by decide) ?_
          refine lv_icmp_le (tgt := 49) hx hb d_Receiver_isBad_42 rfl (fun h42 => ?_) (fun h42 => ?_)
          · refine lv_iconst (v := 0) hx hb d_Receiver_isBad_49 (by decide) ?_
            exact W.zret (v := 0) hx hb hr rfl (fun t ht hW => ⟨_, rfl, (by refine (if_neg (fun z => ?_)).symm; exact z.elim (fun z => z h14) (fun z => z.elim h18 (fun z => z.elim (fun q => by first | exact h23 q.1 | exact q.2 h30) (fun q => by first | exact h35 q.1 | exact Int32.not_lt.mpr h42 q.2)))), ht⟩) (fun _ h => by cases h) d_Receiver_isBad_50
          · refine lv_iconst (v := 1) hx hb d_Receiver_isBad_45 (by decide) ?_
            refine lv_goto (tgt := 50) hx hb d_Receiver_isBad_46 rfl ?_
            exact W.zret (v := 1) hx hb hr rfl (fun t ht hW => ⟨_, rfl, (by refine (if_pos ?_).symm; first | exact Or.inl h14 | exact Or.inr (Or.inl h18) | exact Or.inr (Or.inr (Or.inl ⟨h23, h30⟩)) | exact Or.inr (Or.inr (Or.inr ⟨h35, Int32.not_le.mp h42⟩))), ht⟩) (fun _ h => by cases h) d_Receiver_isBad_50
      · refine lv_iload_n hx hb d_Receiver_isBad_26 rfl (lv_at hl 3 rfl) ?_
        refine lv_sipush (v := 183) hx hb d_Receiver_isBad_27 (by decide) ?_
        refine lv_icmp_ne (tgt := 45) hx hb d_Receiver_isBad_30 rfl (fun h30 => ?_) (fun h30 => ?_)
        · refine lv_iconst (v := 1) hx hb d_Receiver_isBad_45 (by decide) ?_
          refine lv_goto (tgt := 50) hx hb d_Receiver_isBad_46 rfl ?_
          exact W.zret (v := 1) hx hb hr rfl (fun t ht hW => ⟨_, rfl, (by refine (if_pos ?_).symm; first | exact Or.inl h14 | exact Or.inr (Or.inl h18) | exact Or.inr (Or.inr (Or.inl ⟨h23, h30⟩)) | exact Or.inr (Or.inr (Or.inr ⟨h35, Int32.not_le.mp h42⟩))), ht⟩) (fun _ h => by cases h) d_Receiver_isBad_50
        · refine lv_iload_n hx hb d_Receiver_isBad_33 rfl (lv_at hl 2 rfl) ?_
          refine lv_iconst (v := 3) hx hb d_Receiver_isBad_34 (by decide) ?_
          refine lv_icmp_ne (tgt := 49) hx hb d_Receiver_isBad_35 rfl (fun h35 => ?_) (fun h35 => ?_)
          · refine lv_iconst (v := 0) hx hb d_Receiver_isBad_49 (by decide) ?_
            exact W.zret (v := 0) hx hb hr rfl (fun t ht hW => ⟨_, rfl, (by refine (if_neg (fun z => ?_)).symm; exact z.elim (fun z => z h14) (fun z => z.elim h18 (fun z => z.elim (fun q => by first | exact h23 q.1 | exact q.2 h30) (fun q => by first | exact h35 q.1 | exact Int32.not_lt.mpr h42 q.2)))), ht⟩) (fun _ h => by cases h) d_Receiver_isBad_50
          · refine lv_iload_n hx hb d_Receiver_isBad_38 rfl (lv_at hl 3 rfl) ?_
            refine lv_sipush (v := 182) hx hb d_Receiver_isBad_39 (by decide) ?_
            refine lv_icmp_le (tgt := 49) hx hb d_Receiver_isBad_42 rfl (fun h42 => ?_) (fun h42 => ?_)
            · refine lv_iconst (v := 0) hx hb d_Receiver_isBad_49 (by decide) ?_
              exact W.zret (v := 0) hx hb hr rfl (fun t ht hW => ⟨_, rfl, (by refine (if_neg (fun z => ?_)).symm; exact z.elim (fun z => z h14) (fun z => z.elim h18 (fun z => z.elim (fun q => by first | exact h23 q.1 | exact q.2 h30) (fun q => by first | exact h35 q.1 | exact Int32.not_lt.mpr h42 q.2)))), ht⟩) (fun _ h => by cases h) d_Receiver_isBad_50
            · refine lv_iconst (v := 1) hx hb d_Receiver_isBad_45 (by decide) ?_
              refine lv_goto (tgt := 50) hx hb d_Receiver_isBad_46 rfl ?_
              exact W.zret (v := 1) hx hb hr rfl (fun t ht hW => ⟨_, rfl, (by refine (if_pos ?_).symm; first | exact Or.inl h14 | exact Or.inr (Or.inl h18) | exact Or.inr (Or.inr (Or.inl ⟨h23, h30⟩)) | exact Or.inr (Or.inr (Or.inr ⟨h35, Int32.not_le.mp h42⟩))), ht⟩) (fun _ h => by cases h) d_Receiver_isBad_50
set_option maxHeartbeats 4000000 in
set_option maxRecDepth 100000 in
theorem c_Receiver_timeAt (l : Launch) (D : va_G) (cB : ClassId) (rv tp l9 b9 c9 d9 a n ln : Nat) (f : Nat → Int32) (k : Nat) (hln : ln < 2 ^ 31) (hk : k ≤ 10000) : Met l y_Receiver_timeAt [Cond.code y_Receiver_timeAt b_Receiver_timeAt 3 (some .long)] ({ frames := 2, cells := 0, slots := 0, locals := 47 }) (zP [.ref rv, .int (nI k)] D [(rv, .inr (4, [.ref tp, .ref l9, .ref b9, .ref c9, .ref d9])), (tp, .inr (0, [.ref a, .int (nI n)])), (a, .inl (cB, ln, .inl f))] [(cB, .byte)]) (vp_Sl (fun r0 => r0 = ((rw_bits f n ln (8 * k + 4) 3 <<< ((30 : Int32).toInt64 &&& 63)) ||| (rw_bits f n ln (8 * k + 8) 15 <<< ((15 : Int32).toInt64 &&& 63))) ||| rw_bits f n ln (8 * k + 24) 15)) 0 0 (fun _ => False) := by
  refine Met.ofW (cc := b_Receiver_timeAt) (maxL := 3) (ret := (some .long)) (by decide) rfl ?_
  intro p e s m args below meth cd s₁ Bd hml hv
  obtain ⟨rfl, hP, hK, hN⟩ := hv
  have hx := Bd.exec
  have hb := Bd.bytes
  have hr := Bd.returns
  have hts := hN.use (a := ([.ref rv, .int (nI k)]).toArray)
  have hown : s.vm.findClass R_Receiver = some m.cls := findClass_of_methodNamed Bd.named
  have hlocks := Bd.notSynchronized
  have hP : va_P D classes [(rv, .inr (4, [.ref tp, .ref l9, .ref b9, .ref c9, .ref d9])), (tp, .inr (0, [.ref a, .int (nI n)])), (a, .inl (cB, ln, .inl f))] s.heap := hP
  have hl := lv_entry ([.ref rv, .int (nI k)]) (n := 3) (Nat.le_of_ble_eq_true rfl)
  rw [lg_entry_eq]
  generalize (lg_sl ([.ref rv, .int (nI k)]) ++ List.replicate (3 - (lg_sl ([.ref rv, .int (nI k)])).length) Slot.unset).toArray = ls at hl ⊢
  have hl : lv_has ls 3 [(0, .ref rv), (1, .int (nI k))] := hl
  refine lv_bipush (v := 8) hx hb d_Receiver_timeAt_0 (by decide) ?_
  refine lv_iload_n hx hb d_Receiver_timeAt_2 rfl (lv_at hl 1 rfl) ?_
  refine lv_imul hx hb d_Receiver_timeAt_3 ?_
  refine z_topi (w := nI (8 * k)) (pk_mul 8 _) ?_
  refine lv_istore_n (lv' := [(2, .int (nI (8 * k))), (0, .ref rv), (1, .int (nI k))]) hx hb d_Receiver_timeAt_4 rfl hl (by decide) rfl (fun ls hl => ?_)
  refine lv_aload_n hx hb d_Receiver_timeAt_5 rfl (lv_at hl 1 rfl) ?_
  refine va_get (D := D) (ci := 4) (v := .ref tp) (C := R_Receiver) (T := F_Receiver) (N := 5) hx hb hts i_Receiver hown hK hP 0 rfl rfl 0 (by decide) (hts _ wd_175) (fun _ h9 => h9) rfl d_Receiver_timeAt_6 ?_
  refine lv_iload_n hx hb d_Receiver_timeAt_9 rfl (lv_at hl 0 rfl) ?_
  refine lv_iconst (v := 4) hx hb d_Receiver_timeAt_10 (by decide) ?_
  refine lv_iadd hx hb d_Receiver_timeAt_11 ?_
  refine z_topi (w := nI (8 * k + 4)) (nI_add _ 4) ?_
  refine lv_iconst (v := 3) hx hb d_Receiver_timeAt_12 (by decide) ?_
  have hPc := hP.sub (ws' := [(tp, .inr (0, [.ref a, .int (nI n)])), (a, .inl (cB, ln, .inl f))]) [1, 2] rfl
  have hKc := hK.sub (tys' := [(cB, .byte)]) [0] rfl
  refine z_cl (va_runV (As := [.int (nI (8 * k + 4)), .int (nI 3)]) (rest := []) ⟨hx, hb, hml, hown, hts⟩ (c_Row_bits l D cB tp a n ln f (8 * k + 4) 3 hln (by omega)) (z_cV hN wd_280 wd_61 wd_277 hd_Row_bits rfl rfl ⟨Nat.le_of_ble_eq_true rfl, Nat.le_of_ble_eq_true rfl⟩ wd_278 wd_279) (z_preV (va_recv (ci := 0) (q0 := 1) hK hP rfl rfl) hPc hKc hN) rfl rfl hl.1 rfl (lv_room (Nat.le_of_ble_eq_true rfl)) d_Receiver_timeAt_13 ⟨Nat.le_of_ble_eq_true rfl, Nat.le_of_ble_eq_true rfl⟩) (fun r13 e13 => ?_)
  subst e13
  refine lv_bipush (v := 30) hx hb d_Receiver_timeAt_16 (by decide) ?_
  refine lv_lshl (v := (rw_bits f n ln (8 * k + 4) 3) <<< ((30 : Int32).toInt64 &&& 63)) hx hb d_Receiver_timeAt_18 rfl ?_
  refine lv_aload_n hx hb d_Receiver_timeAt_19 rfl (lv_at hl 1 rfl) ?_
  refine va_get (D := D) (ci := 4) (v := .ref tp) (C := R_Receiver) (T := F_Receiver) (N := 5) hx hb hts i_Receiver hown hK hP 0 rfl rfl 0 (by decide) (hts _ wd_175) (fun _ h9 => h9) rfl d_Receiver_timeAt_20 ?_
  refine lv_iload_n hx hb d_Receiver_timeAt_23 rfl (lv_at hl 0 rfl) ?_
  refine lv_bipush (v := 8) hx hb d_Receiver_timeAt_24 (by decide) ?_
  refine lv_iadd hx hb d_Receiver_timeAt_26 ?_
  refine z_topi (w := nI (8 * k + 8)) (nI_add _ 8) ?_
  refine lv_bipush (v := 15) hx hb d_Receiver_timeAt_27 (by decide) ?_
  have hPc := hP.sub (ws' := [(tp, .inr (0, [.ref a, .int (nI n)])), (a, .inl (cB, ln, .inl f))]) [1, 2] rfl
  have hKc := hK.sub (tys' := [(cB, .byte)]) [0] rfl
  refine z_cl (va_runV (As := [.int (nI (8 * k + 8)), .int (nI 15)]) (rest := [.long ((rw_bits f n ln (8 * k + 4) 3) <<< ((30 : Int32).toInt64 &&& 63))]) ⟨hx, hb, hml, hown, hts⟩ (c_Row_bits l D cB tp a n ln f (8 * k + 8) 15 hln (by omega)) (z_cV hN wd_280 wd_61 wd_277 hd_Row_bits rfl rfl ⟨Nat.le_of_ble_eq_true rfl, Nat.le_of_ble_eq_true rfl⟩ wd_278 wd_279) (z_preV (va_recv (ci := 0) (q0 := 1) hK hP rfl rfl) hPc hKc hN) rfl rfl hl.1 rfl (lv_room (Nat.le_of_ble_eq_true rfl)) d_Receiver_timeAt_29 ⟨Nat.le_of_ble_eq_true rfl, Nat.le_of_ble_eq_true rfl⟩) (fun r29 e29 => ?_)
  subst e29
  refine lv_bipush (v := 15) hx hb d_Receiver_timeAt_32 (by decide) ?_
  refine lv_lshl (v := (rw_bits f n ln (8 * k + 8) 15) <<< ((15 : Int32).toInt64 &&& 63)) hx hb d_Receiver_timeAt_34 rfl ?_
  refine lv_lor hx hb d_Receiver_timeAt_35 ?_
  refine lv_aload_n hx hb d_Receiver_timeAt_36 rfl (lv_at hl 1 rfl) ?_
  refine va_get (D := D) (ci := 4) (v := .ref tp) (C := R_Receiver) (T := F_Receiver) (N := 5) hx hb hts i_Receiver hown hK hP 0 rfl rfl 0 (by decide) (hts _ wd_175) (fun _ h9 => h9) rfl d_Receiver_timeAt_37 ?_
  refine lv_iload_n hx hb d_Receiver_timeAt_40 rfl (lv_at hl 0 rfl) ?_
  refine lv_bipush (v := 24) hx hb d_Receiver_timeAt_41 (by decide) ?_
  refine lv_iadd hx hb d_Receiver_timeAt_43 ?_
  refine z_topi (w := nI (8 * k + 24)) (nI_add _ 24) ?_
  refine lv_bipush (v := 15) hx hb d_Receiver_timeAt_44 (by decide) ?_
  have hPc := hP.sub (ws' := [(tp, .inr (0, [.ref a, .int (nI n)])), (a, .inl (cB, ln, .inl f))]) [1, 2] rfl
  have hKc := hK.sub (tys' := [(cB, .byte)]) [0] rfl
  refine z_cl (va_runV (As := [.int (nI (8 * k + 24)), .int (nI 15)]) (rest := [.long (((rw_bits f n ln (8 * k + 4) 3) <<< ((30 : Int32).toInt64 &&& 63)) ||| ((rw_bits f n ln (8 * k + 8) 15) <<< ((15 : Int32).toInt64 &&& 63)))]) ⟨hx, hb, hml, hown, hts⟩ (c_Row_bits l D cB tp a n ln f (8 * k + 24) 15 hln (by omega)) (z_cV hN wd_280 wd_61 wd_277 hd_Row_bits rfl rfl ⟨Nat.le_of_ble_eq_true rfl, Nat.le_of_ble_eq_true rfl⟩ wd_278 wd_279) (z_preV (va_recv (ci := 0) (q0 := 1) hK hP rfl rfl) hPc hKc hN) rfl rfl hl.1 rfl (lv_room (Nat.le_of_ble_eq_true rfl)) d_Receiver_timeAt_46 ⟨Nat.le_of_ble_eq_true rfl, Nat.le_of_ble_eq_true rfl⟩) (fun r46 e46 => ?_)
  subst e46
  refine lv_lor hx hb d_Receiver_timeAt_49 ?_
  exact W.lret (v := ((((rw_bits f n ln (8 * k + 4) 3) <<< ((30 : Int32).toInt64 &&& 63)) ||| ((rw_bits f n ln (8 * k + 8) 15) <<< ((15 : Int32).toInt64 &&& 63))) ||| (rw_bits f n ln (8 * k + 24) 15))) hx hb hr (fun t ht hW => ⟨_, rfl, rfl, ht⟩) (fun _ h => by cases h) d_Receiver_timeAt_50
set_option maxHeartbeats 4000000 in
set_option maxRecDepth 100000 in
theorem c_Lane_gathersPiece0 (l : Launch) (D : va_G) (h : Nat) (nx se : Option Nat) (pd ct tw wr : Int32) (ck : Int64)  : Met l y_Lane_gathersPiece [Cond.code y_Lane_gathersPiece b_Lane_gathersPiece 1 (some .boolean)] ({ frames := 0, cells := 0, slots := 0, locals := 0 }) (zP [.ref h] D [(h, .inr (1, [.int pd, va_rf nx, .int ct, .int tw, .long ck, .int wr, va_rf se, .null]))] []) (vp_Si (fun r0 => r0 = 0)) 0 0 (fun _ => False) := by
  refine Met.ofW (cc := b_Lane_gathersPiece) (maxL := 1) (ret := (some .boolean)) (by decide) rfl ?_
  intro p e s m args below meth cd s₁ Bd hml hv
  obtain ⟨rfl, hP, hK, hN⟩ := hv
  have hx := Bd.exec
  have hb := Bd.bytes
  have hr := Bd.returns
  have hts := hN.use (a := ([.ref h]).toArray)
  have hown : s.vm.findClass R_Lane = some m.cls := findClass_of_methodNamed Bd.named
  have hlocks := Bd.notSynchronized
  have hP : va_P D classes [(h, .inr (1, [.int pd, va_rf nx, .int ct, .int tw, .long ck, .int wr, va_rf se, .null]))] s.heap := hP
  have hl := lv_entry ([.ref h]) (n := 1) (Nat.le_of_ble_eq_true rfl)
  rw [lg_entry_eq]
  generalize (lg_sl ([.ref h]) ++ List.replicate (1 - (lg_sl ([.ref h])).length) Slot.unset).toArray = ls at hl ⊢
  have hl : lv_has ls 1 [(0, .ref h)] := hl
  refine lv_aload_n hx hb d_Lane_gathersPiece_0 rfl (lv_at hl 0 rfl) ?_
  refine va_get (D := D) (ci := 1) (v := .null) (C := R_Lane) (T := F_Lane) (N := 8) hx hb hts i_Lane hown hK hP 0 rfl rfl 7 (by decide) (hts _ wd_257) (fun _ h9 => h9) rfl d_Lane_gathersPiece_1 ?_
  refine lv_ifnullN (tgt := 21) hx hb d_Lane_gathersPiece_4 rfl ?_
  refine lv_iconst (v := 0) hx hb d_Lane_gathersPiece_21 (by decide) ?_
  exact W.zret (v := 0) hx hb hr rfl (fun t ht hW => ⟨_, rfl, rfl, ht⟩) (fun _ h => by cases h) d_Lane_gathersPiece_22
set_option maxHeartbeats 4000000 in
set_option maxRecDepth 100000 in
theorem c_Lane_gathersPiece1 (l : Launch) (D : va_G) (h q0 : Nat) (nx se : Option Nat) (pd ct tw wr : Int32) (ck : Int64) (op pi kd by9 su du : Int32) (t0 : Int64)  : Met l y_Lane_gathersPiece [Cond.code y_Lane_gathersPiece b_Lane_gathersPiece 1 (some .boolean)] ({ frames := 0, cells := 0, slots := 0, locals := 0 }) (zP [.ref h] D [(h, .inr (1, [.int pd, va_rf nx, .int ct, .int tw, .long ck, .int wr, va_rf se, .ref q0])), (q0, .inr (3, [.int op, .int pi, .int kd, .long t0, .int by9, .int su, .int du]))] []) (vp_Si (fun r0 => r0 = if op = 0 then 0 else 1)) 0 0 (fun _ => False) := by
  refine Met.ofW (cc := b_Lane_gathersPiece) (maxL := 1) (ret := (some .boolean)) (by decide) rfl ?_
  intro p e s m args below meth cd s₁ Bd hml hv
  obtain ⟨rfl, hP, hK, hN⟩ := hv
  have hx := Bd.exec
  have hb := Bd.bytes
  have hr := Bd.returns
  have hts := hN.use (a := ([.ref h]).toArray)
  have hown : s.vm.findClass R_Lane = some m.cls := findClass_of_methodNamed Bd.named
  have hlocks := Bd.notSynchronized
  have hP : va_P D classes [(h, .inr (1, [.int pd, va_rf nx, .int ct, .int tw, .long ck, .int wr, va_rf se, .ref q0])), (q0, .inr (3, [.int op, .int pi, .int kd, .long t0, .int by9, .int su, .int du]))] s.heap := hP
  have hl := lv_entry ([.ref h]) (n := 1) (Nat.le_of_ble_eq_true rfl)
  rw [lg_entry_eq]
  generalize (lg_sl ([.ref h]) ++ List.replicate (1 - (lg_sl ([.ref h])).length) Slot.unset).toArray = ls at hl ⊢
  have hl : lv_has ls 1 [(0, .ref h)] := hl
  refine lv_aload_n hx hb d_Lane_gathersPiece_0 rfl (lv_at hl 0 rfl) ?_
  refine va_get (D := D) (ci := 1) (v := .ref q0) (C := R_Lane) (T := F_Lane) (N := 8) hx hb hts i_Lane hown hK hP 0 rfl rfl 7 (by decide) (hts _ wd_257) (fun _ h9 => h9) rfl d_Lane_gathersPiece_1 ?_
  refine lv_ifnull hx hb d_Lane_gathersPiece_4 ?_
  refine lv_aload_n hx hb d_Lane_gathersPiece_7 rfl (lv_at hl 0 rfl) ?_
  refine va_get (D := D) (ci := 1) (v := .ref q0) (C := R_Lane) (T := F_Lane) (N := 8) hx hb hts i_Lane hown hK hP 0 rfl rfl 7 (by decide) (hts _ wd_257) (fun _ h9 => h9) rfl d_Lane_gathersPiece_8 ?_
  refine va_getN (D := D) (ci := 3) (v := .int op) (C := R_Piece) (T := F_Piece) (N := 7) hx hb hts i_Piece hown hK hP 1 rfl rfl 0 (by decide) (hts _ wd_358) (fun _ h9 => h9) rfl d_Lane_gathersPiece_11 ?_
  refine lv_if_eq (tgt := 21) hx hb d_Lane_gathersPiece_14 rfl (fun h14 => ?_) (fun h14 => ?_)
  · refine lv_iconst (v := 0) hx hb d_Lane_gathersPiece_21 (by decide) ?_
    exact W.zret (v := 0) hx hb hr rfl (fun t ht hW => ⟨_, rfl, (by first | exact (if_pos h14).symm | exact (if_neg h14).symm), ht⟩) (fun _ h => by cases h) d_Lane_gathersPiece_22
  · refine lv_iconst (v := 1) hx hb d_Lane_gathersPiece_17 (by decide) ?_
    refine lv_goto (tgt := 22) hx hb d_Lane_gathersPiece_18 rfl ?_
    exact W.zret (v := 1) hx hb hr rfl (fun t ht hW => ⟨_, rfl, (by first | exact (if_pos h14).symm | exact (if_neg h14).symm), ht⟩) (fun _ h => by cases h) d_Lane_gathersPiece_22
set_option maxHeartbeats 4000000 in
set_option maxRecDepth 100000 in
theorem c_Lane_gathersSection0 (l : Launch) (D : va_G) (h : Nat) (nx pi : Option Nat) (pd ct tw wr : Int32) (ck : Int64)  : Met l y_Lane_gathersSection [Cond.code y_Lane_gathersSection b_Lane_gathersSection 1 (some .boolean)] ({ frames := 0, cells := 0, slots := 0, locals := 0 }) (zP [.ref h] D [(h, .inr (1, [.int pd, va_rf nx, .int ct, .int tw, .long ck, .int wr, .null, va_rf pi]))] []) (vp_Si (fun r0 => r0 = 0)) 0 0 (fun _ => False) := by
  refine Met.ofW (cc := b_Lane_gathersSection) (maxL := 1) (ret := (some .boolean)) (by decide) rfl ?_
  intro p e s m args below meth cd s₁ Bd hml hv
  obtain ⟨rfl, hP, hK, hN⟩ := hv
  have hx := Bd.exec
  have hb := Bd.bytes
  have hr := Bd.returns
  have hts := hN.use (a := ([.ref h]).toArray)
  have hown : s.vm.findClass R_Lane = some m.cls := findClass_of_methodNamed Bd.named
  have hlocks := Bd.notSynchronized
  have hP : va_P D classes [(h, .inr (1, [.int pd, va_rf nx, .int ct, .int tw, .long ck, .int wr, .null, va_rf pi]))] s.heap := hP
  have hl := lv_entry ([.ref h]) (n := 1) (Nat.le_of_ble_eq_true rfl)
  rw [lg_entry_eq]
  generalize (lg_sl ([.ref h]) ++ List.replicate (1 - (lg_sl ([.ref h])).length) Slot.unset).toArray = ls at hl ⊢
  have hl : lv_has ls 1 [(0, .ref h)] := hl
  refine lv_aload_n hx hb d_Lane_gathersSection_0 rfl (lv_at hl 0 rfl) ?_
  refine va_get (D := D) (ci := 1) (v := .null) (C := R_Lane) (T := F_Lane) (N := 8) hx hb hts i_Lane hown hK hP 0 rfl rfl 6 (by decide) (hts _ wd_255) (fun _ h9 => h9) rfl d_Lane_gathersSection_1 ?_
  refine lv_ifnullN (tgt := 21) hx hb d_Lane_gathersSection_4 rfl ?_
  refine lv_iconst (v := 0) hx hb d_Lane_gathersSection_21 (by decide) ?_
  exact W.zret (v := 0) hx hb hr rfl (fun t ht hW => ⟨_, rfl, rfl, ht⟩) (fun _ h => by cases h) d_Lane_gathersSection_22
set_option maxHeartbeats 4000000 in
set_option maxRecDepth 100000 in
theorem c_Lane_gathersSection1 (l : Launch) (D : va_G) (h q0 a n : Nat) (nx pi : Option Nat) (pd ct tw wr : Int32) (ck : Int64) (hn : n < 2 ^ 31) : Met l y_Lane_gathersSection [Cond.code y_Lane_gathersSection b_Lane_gathersSection 1 (some .boolean)] ({ frames := 0, cells := 0, slots := 0, locals := 0 }) (zP [.ref h] D [(h, .inr (1, [.int pd, va_rf nx, .int ct, .int tw, .long ck, .int wr, .ref q0, va_rf pi])), (q0, .inr (0, [.ref a, .int (nI n)]))] []) (vp_Si (fun r0 => r0 = if n = 0 then 0 else 1)) 0 0 (fun _ => False) := by
  refine Met.ofW (cc := b_Lane_gathersSection) (maxL := 1) (ret := (some .boolean)) (by decide) rfl ?_
  intro p e s m args below meth cd s₁ Bd hml hv
  obtain ⟨rfl, hP, hK, hN⟩ := hv
  have hx := Bd.exec
  have hb := Bd.bytes
  have hr := Bd.returns
  have hts := hN.use (a := ([.ref h]).toArray)
  have hown : s.vm.findClass R_Lane = some m.cls := findClass_of_methodNamed Bd.named
  have hlocks := Bd.notSynchronized
  have hP : va_P D classes [(h, .inr (1, [.int pd, va_rf nx, .int ct, .int tw, .long ck, .int wr, .ref q0, va_rf pi])), (q0, .inr (0, [.ref a, .int (nI n)]))] s.heap := hP
  have hl := lv_entry ([.ref h]) (n := 1) (Nat.le_of_ble_eq_true rfl)
  rw [lg_entry_eq]
  generalize (lg_sl ([.ref h]) ++ List.replicate (1 - (lg_sl ([.ref h])).length) Slot.unset).toArray = ls at hl ⊢
  have hl : lv_has ls 1 [(0, .ref h)] := hl
  refine lv_aload_n hx hb d_Lane_gathersSection_0 rfl (lv_at hl 0 rfl) ?_
  refine va_get (D := D) (ci := 1) (v := .ref q0) (C := R_Lane) (T := F_Lane) (N := 8) hx hb hts i_Lane hown hK hP 0 rfl rfl 6 (by decide) (hts _ wd_255) (fun _ h9 => h9) rfl d_Lane_gathersSection_1 ?_
  refine lv_ifnull hx hb d_Lane_gathersSection_4 ?_
  refine lv_aload_n hx hb d_Lane_gathersSection_7 rfl (lv_at hl 0 rfl) ?_
  refine va_get (D := D) (ci := 1) (v := .ref q0) (C := R_Lane) (T := F_Lane) (N := 8) hx hb hts i_Lane hown hK hP 0 rfl rfl 6 (by decide) (hts _ wd_255) (fun _ h9 => h9) rfl d_Lane_gathersSection_8 ?_
  refine va_getN (D := D) (ci := 0) (v := .int (nI n)) (C := R_Row) (T := F_Row) (N := 2) hx hb hts i_Row hown hK hP 1 rfl rfl 1 (by decide) (hts _ wd_108) (fun _ h9 => h9) rfl d_Lane_gathersSection_11 ?_
  refine lv_if_le (tgt := 21) hx hb d_Lane_gathersSection_14 rfl (fun h14 => ?_) (fun h14 => ?_)
  · have h14 := es_le h14 hn
    refine lv_iconst (v := 0) hx hb d_Lane_gathersSection_21 (by decide) ?_
    exact W.zret (v := 0) hx hb hr rfl (fun t ht hW => ⟨_, rfl, (by first | exact (if_pos h14).symm | exact (if_neg (Nat.ne_of_gt h14)).symm), ht⟩) (fun _ h => by cases h) d_Lane_gathersSection_22
  · have h14 := es_gt h14 hn
    refine lv_iconst (v := 1) hx hb d_Lane_gathersSection_17 (by decide) ?_
    refine lv_goto (tgt := 22) hx hb d_Lane_gathersSection_18 rfl ?_
    exact W.zret (v := 1) hx hb hr rfl (fun t ht hW => ⟨_, rfl, (by first | exact (if_pos h14).symm | exact (if_neg (Nat.ne_of_gt h14)).symm), ht⟩) (fun _ h => by cases h) d_Lane_gathersSection_22
