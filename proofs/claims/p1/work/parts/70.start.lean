theorem wd_86 : (Jvm.Cond.classLink "StreamSplitterLaw" (8 : Nat) "StreamSplitter") ∈ lw_ok := List.mem_filter.mpr ⟨List.mem_of_getElem? (i := 86) (by decide +kernel), rfl⟩
theorem wd_88 : (Jvm.Cond.methodLink "StreamSplitterLaw" (71 : Nat) ({ cls := "StreamSplitter", name := "<init>", desc := "()V" } : Jvm.MethodName)) ∈ lw_ok := List.mem_filter.mpr ⟨List.mem_of_getElem? (i := 88) (by decide +kernel), rfl⟩
theorem wd_89 : (Jvm.Cond.instanceMethod ({ cls := "StreamSplitter", name := "<init>", desc := "()V" } : Jvm.MethodName)) ∈ lw_ok := List.mem_filter.mpr ⟨List.mem_of_getElem? (i := 89) (by decide +kernel), rfl⟩
set_option maxRecDepth 100000 in
theorem wd_90 : (Jvm.Cond.code ({ cls := "StreamSplitter", name := "<init>", desc := "()V" } : Jvm.MethodName) prog_1_method_1_code (1 : Nat) (Option.none : Option Jvm.ClassFile.FieldType)) ∈ lw_ok := List.mem_filter.mpr ⟨List.mem_of_getElem? (i := 90) (by rfl), rfl⟩
theorem wd_1081 : (Jvm.Cond.classLink "StreamSplitterLaw" (72 : Nat) "StreamSplitterModel") ∈ lw_ok := List.mem_filter.mpr ⟨List.mem_of_getElem? (i := 1081) (by decide +kernel), rfl⟩
theorem wd_1083 : (Jvm.Cond.methodLink "StreamSplitterLaw" (74 : Nat) ({ cls := "StreamSplitterModel", name := "<init>", desc := "()V" } : Jvm.MethodName)) ∈ lw_ok := List.mem_filter.mpr ⟨List.mem_of_getElem? (i := 1083) (by decide +kernel), rfl⟩
theorem wd_1084 : (Jvm.Cond.instanceMethod ({ cls := "StreamSplitterModel", name := "<init>", desc := "()V" } : Jvm.MethodName)) ∈ lw_ok := List.mem_filter.mpr ⟨List.mem_of_getElem? (i := 1084) (by decide +kernel), rfl⟩
set_option maxRecDepth 100000 in
theorem wd_1085 : (Jvm.Cond.code ({ cls := "StreamSplitterModel", name := "<init>", desc := "()V" } : Jvm.MethodName) prog_14_method_1_code (2 : Nat) (Option.none : Option Jvm.ClassFile.FieldType)) ∈ lw_ok := List.mem_filter.mpr ⟨List.mem_of_getElem? (i := 1085) (by rfl), rfl⟩
theorem hd_Mo_init : y_Mo_init.cls ≠ "java/lang/invoke/MethodHandle" ∧ y_Mo_init.cls ≠ "java/lang/invoke/VarHandle" ∧ (parseMethodDescriptor y_Mo_init.desc).map (fun d => d.parameters.length) = some 0 := by decide +kernel
theorem hd_SS_init : y_SS_init.cls ≠ "java/lang/invoke/MethodHandle" ∧ y_SS_init.cls ≠ "java/lang/invoke/VarHandle" ∧ (parseMethodDescriptor y_SS_init.desc).map (fun d => d.parameters.length) = some 0 := by decide +kernel
theorem d_Law_law_0 : decode b_Law_law 0 = .ok (.new 8, 3) := by decide +kernel
theorem d_Law_law_3 : decode b_Law_law 3 = .ok (.dup, 1) := by decide +kernel
theorem d_Law_law_4 : decode b_Law_law 4 = .ok (.invokespecial 71, 3) := by decide +kernel
theorem d_Law_law_7 : decode b_Law_law 7 = .ok (.astore_n 1, 1) := by decide +kernel
theorem d_Law_law_8 : decode b_Law_law 8 = .ok (.new 72, 3) := by decide +kernel
theorem d_Law_law_11 : decode b_Law_law 11 = .ok (.dup, 1) := by decide +kernel
theorem d_Law_law_12 : decode b_Law_law 12 = .ok (.invokespecial 74, 3) := by decide +kernel
theorem d_Law_law_15 : decode b_Law_law 15 = .ok (.astore_n 2, 1) := by decide +kernel
theorem d_Law_law_16 : decode b_Law_law 16 = .ok (.iconst 1, 1) := by decide +kernel
theorem d_Law_law_17 : decode b_Law_law 17 = .ok (.newarray .long, 2) := by decide +kernel
theorem d_Law_law_19 : decode b_Law_law 19 = .ok (.astore_n 3, 1) := by decide +kernel
theorem d_Law_law_20 : decode b_Law_law 20 = .ok (.iconst 0, 1) := by decide +kernel
theorem d_Law_law_21 : decode b_Law_law 21 = .ok (.istore 4, 2) := by decide +kernel
theorem d_Law_law_33 : decode b_Law_law 33 = .ok (.aload_n 0, 1) := by decide +kernel
theorem d_Law_law_34 : decode b_Law_law 34 = .ok (.iload 4, 2) := by decide +kernel
theorem d_Law_law_36 : decode b_Law_law 36 = .ok (.iaload, 1) := by decide +kernel
theorem d_Law_law_37 : decode b_Law_law 37 = .ok (.bipush 31, 2) := by decide +kernel
theorem d_Law_law_39 : decode b_Law_law 39 = .ok (.iand, 1) := by decide +kernel
theorem d_Law_law_40 : decode b_Law_law 40 = .ok (.tableswitch 1404 0 18 #[92, 192, 260, 286, 354, 402, 415, 471, 539, 607, 662, 741, 808, 863, 931, 1011, 1022, 1078, 1232], 92) := by decide +kernel
theorem lw_lt {L : Nat} (h : L < 8) : (0 : Int32) > nI L - 8 := by
  have : L = 0 ∨ L = 1 ∨ L = 2 ∨ L = 3 ∨ L = 4 ∨ L = 5 ∨ L = 6 ∨ L = 7 := by omega
  rcases this with rfl | rfl | rfl | rfl | rfl | rfl | rfl | rfl <;> decide
set_option maxHeartbeats 16000000 in
set_option maxRecDepth 100000 in
theorem whole_start {p : Program} {e : Env} {s : State} {m : MethodId} {below : List Frame} {meth : Method} {cd : Code} (l : Launch) (hfl : l.stackTraces = false) {b L : Nat} {xs : Nat → Int32} (hL : L ≤ 8) (C9 : lw_At p s m meth cd b L xs) : W p l e room_1 s m #[Value.ref b] below meth cd s.heap [] 0 0 (lw_Z below #[Value.ref b] s) (entryFrame m ([Value.ref b] : List Value).toArray 8) := by
  obtain ⟨hx, hb, hr, hml, hown, htl, hX, hbl, hlocks, hgv⟩ := id C9
  have hG : zG s := ⟨b, htl, hgv⟩
  have hO : zO s s := ⟨State.WarmedH.refl s, Nat.le_refl _, fun _ _ => rfl⟩
  have hN := hO.zN hG
  have hts := hN.use (a := #[Value.ref b])
  obtain ⟨D, cB, cI, cJ, cZ, cN, cQ, cO, hK⟩ := z_Kall htl hts
  obtain ⟨e0, he0⟩ := z_E0 hG
  obtain ⟨A, hA, hAO⟩ : ∃ A : Nat → Prop, (∀ q, s.heap.size ≤ q → A q) ∧ (∀ q, A q → s.heap.size ≤ q) := ⟨fun q => s.heap.size ≤ q, fun _ h => h, fun _ h => h⟩
  have hbA : ¬ A b := fun z => absurd (hAO b z) (Nat.not_le.mpr hbl)
  have hP : va_P D classes [] s.heap := fun k q hq => by cases hq
  have hD : va_D A [] := ⟨fun i j p q h => (by cases h), fun k q h => (by cases h)⟩
  have hS : va_S A s.heap s.heap [] := va_S.rf
  have hl := lv_entry ([.ref b]) (n := 8) (Nat.le_of_ble_eq_true rfl)
  rw [lg_entry_eq]
  generalize (lg_sl ([.ref b]) ++ List.replicate (8 - (lg_sl ([.ref b])).length) Slot.unset).toArray = ls at hl ⊢
  have hl : lv_has ls 8 [(0, .ref b)] := hl
  refine va_new (ci := 11) (fs := [.null, .null]) (C := R_SS) (T := F_SS) (N := 2) hx hb hts i_SS t_SS t_SS_ok hown (hts _ wd_86) (hts _ wd_87) (hts _ wd_59) hK hP hD hS hA rfl (fs_SS) (by show 0 + 1 ≤ 600002; omega) (by show 0 + 2 ≤ 7302232; omega) d_Law_law_0 (fun q0 H hP hD hS => ?_)
  have hP : va_P D classes [(q0, .inr (11, [.null, .null]))] H := hP
  have hD : va_D A [(q0, .inr (11, [.null, .null]))] := hD
  refine lv_dup hx hb d_Law_law_3 rfl ?_
  have hPc := hP.sub (ws' := [(q0, .inr (11, [.null, .null]))]) [0] rfl
  have hKc := hK.sub (tys' := [(cB, .byte), (cI, .int), (cN, .object "StreamSplitter$Lane"), (cQ, .object "StreamSplitter$Piece")]) [0, 1, 4, 5] rfl
  have hDc := hD.sub (ws' := [(q0, .inr (11, [.null, .null]))]) [0] (by decide) rfl
  have hFc := va_free (wc := [(q0, .inr (11, [.null, .null]))]) hD hS hA [0] rfl
  refine va_callv (va_runI (As := []) (rest := [.ref q0]) ⟨hx, hb, hml, hown, hts⟩ (c_SS_init l D s hG H.size cB cI cN cQ q0 e0 he0) (z_cI hN wd_90 wd_59 wd_88 hd_SS_init rfl rfl ⟨Nat.le_of_ble_eq_true rfl, Nat.le_of_ble_eq_true rfl⟩ wd_89 rfl) (z_preSo hPc hKc hN hDc hO hS hAO) rfl rfl hl.1 rfl (lv_room (Nat.le_of_ble_eq_true rfl)) d_Law_law_4 ⟨Nat.le_of_ble_eq_true rfl, Nat.le_of_ble_eq_true rfl⟩) hS (fun q _ h => hFc q h) hFc (fun v t H locs ht hvm e4 hB hz1 hk1 hS => ?_)
  obtain ⟨hP1, hK1, hD1⟩ := hB
  rw [ht] at hP1
  obtain ⟨hP, hD⟩ := va_join (wr := []) (w1 := [(q0, .inr (11, [.ref (v 8), .ref (v 9)])), (v 8, .inr (4, [.ref (v 0), .ref (v 2), .ref (v 4), .ref (v 6), .ref (v 7)])), (v 0, .inr (0, [.ref (v 1), .int (nI 0)])), (v 1, .inl (cB, 9400, .inl (fun _ => 0))), (v 2, .inr (2, [.ref (v 3)])), (v 3, .inl (cN, 256, .inr (.inr (.inr (.inr (fun _ => none)))))), (v 4, .inr (8, [.int (-1), .ref (v 5)])), (v 5, .inr (12, [.ref e0, .int 0, .int 0])), (v 6, .inl (cI, 10, .inl (fun _ => 0))), (v 7, .inl (cQ, 16, .inr (.inr (.inr (.inr (fun _ => none)))))), (v 9, .inr (12, [.ref e0, .int 0, .int 0]))]) hP hD [0] [] rfl rfl (by decide) (by decide) hk1 hFc hP1 hD1
  clear hk1 hP1 hD1 hFc hPc hDc hz1
  have hP : va_P D classes [(q0, .inr (11, [.ref (v 8), .ref (v 9)])), (v 8, .inr (4, [.ref (v 0), .ref (v 2), .ref (v 4), .ref (v 6), .ref (v 7)])), (v 0, .inr (0, [.ref (v 1), .int (nI 0)])), (v 1, .inl (cB, 9400, .inl (fun _ => 0))), (v 2, .inr (2, [.ref (v 3)])), (v 3, .inl (cN, 256, .inr (.inr (.inr (.inr (fun _ => none)))))), (v 4, .inr (8, [.int (-1), .ref (v 5)])), (v 5, .inr (12, [.ref e0, .int 0, .int 0])), (v 6, .inl (cI, 10, .inl (fun _ => 0))), (v 7, .inl (cQ, 16, .inr (.inr (.inr (.inr (fun _ => none)))))), (v 9, .inr (12, [.ref e0, .int 0, .int 0]))] H := hP
  have hD : va_D A [(q0, .inr (11, [.ref (v 8), .ref (v 9)])), (v 8, .inr (4, [.ref (v 0), .ref (v 2), .ref (v 4), .ref (v 6), .ref (v 7)])), (v 0, .inr (0, [.ref (v 1), .int (nI 0)])), (v 1, .inl (cB, 9400, .inl (fun _ => 0))), (v 2, .inr (2, [.ref (v 3)])), (v 3, .inl (cN, 256, .inr (.inr (.inr (.inr (fun _ => none)))))), (v 4, .inr (8, [.int (-1), .ref (v 5)])), (v 5, .inr (12, [.ref e0, .int 0, .int 0])), (v 6, .inl (cI, 10, .inl (fun _ => 0))), (v 7, .inl (cQ, 16, .inr (.inr (.inr (.inr (fun _ => none)))))), (v 9, .inr (12, [.ref e0, .int 0, .int 0]))] := hD
  refine lv_astore_n (lv' := [(1, .ref q0), (0, .ref b)]) hx hb d_Law_law_7 rfl hl (by decide) rfl (fun ls hl => ?_)
  refine va_new (ci := 13) (fs := [.int 0, .null, .int 0, .null, .null, .null, .null, .null, .null, .null, .null, .null, .null, .null, .null, .null, .int 0, .null, .int 0, .int 0, .null, .null, .null, .null, .null, .null, .null, .null, .null, .null, .null, .null, .null, .null, .null, .null, .null, .null, .null, .null, .null, .null, .null, .null, .int 0, .int 0, .null, .null, .null, .null, .null, .null, .null, .int 0]) (C := R_Mo) (T := F_Mo) (N := 54) hx hb hts i_Mo t_Mo t_Mo_ok hown (hts _ wd_1081) (hts _ wd_1082) (hts _ wd_67) hK hP hD hS hA rfl (fs_Mo) (by show 0 + 1 + 10 + 1 ≤ 600002; omega) (by show 0 + 2 + 9702 + 54 ≤ 7302232; omega) d_Law_law_8 (fun q8 H hP hD hS => ?_)
  have hP : va_P D classes [(q0, .inr (11, [.ref (v 8), .ref (v 9)])), (v 8, .inr (4, [.ref (v 0), .ref (v 2), .ref (v 4), .ref (v 6), .ref (v 7)])), (v 0, .inr (0, [.ref (v 1), .int (nI 0)])), (v 1, .inl (cB, 9400, .inl (fun _ => 0))), (v 2, .inr (2, [.ref (v 3)])), (v 3, .inl (cN, 256, .inr (.inr (.inr (.inr (fun _ => none)))))), (v 4, .inr (8, [.int (-1), .ref (v 5)])), (v 5, .inr (12, [.ref e0, .int 0, .int 0])), (v 6, .inl (cI, 10, .inl (fun _ => 0))), (v 7, .inl (cQ, 16, .inr (.inr (.inr (.inr (fun _ => none)))))), (v 9, .inr (12, [.ref e0, .int 0, .int 0])), (q8, .inr (13, [.int 0, .null, .int 0, .null, .null, .null, .null, .null, .null, .null, .null, .null, .null, .null, .null, .null, .int 0, .null, .int 0, .int 0, .null, .null, .null, .null, .null, .null, .null, .null, .null, .null, .null, .null, .null, .null, .null, .null, .null, .null, .null, .null, .null, .null, .null, .null, .int 0, .int 0, .null, .null, .null, .null, .null, .null, .null, .int 0]))] H := hP
  have hD : va_D A [(q0, .inr (11, [.ref (v 8), .ref (v 9)])), (v 8, .inr (4, [.ref (v 0), .ref (v 2), .ref (v 4), .ref (v 6), .ref (v 7)])), (v 0, .inr (0, [.ref (v 1), .int (nI 0)])), (v 1, .inl (cB, 9400, .inl (fun _ => 0))), (v 2, .inr (2, [.ref (v 3)])), (v 3, .inl (cN, 256, .inr (.inr (.inr (.inr (fun _ => none)))))), (v 4, .inr (8, [.int (-1), .ref (v 5)])), (v 5, .inr (12, [.ref e0, .int 0, .int 0])), (v 6, .inl (cI, 10, .inl (fun _ => 0))), (v 7, .inl (cQ, 16, .inr (.inr (.inr (.inr (fun _ => none)))))), (v 9, .inr (12, [.ref e0, .int 0, .int 0])), (q8, .inr (13, [.int 0, .null, .int 0, .null, .null, .null, .null, .null, .null, .null, .null, .null, .null, .null, .null, .null, .int 0, .null, .int 0, .int 0, .null, .null, .null, .null, .null, .null, .null, .null, .null, .null, .null, .null, .null, .null, .null, .null, .null, .null, .null, .null, .null, .null, .null, .null, .int 0, .int 0, .null, .null, .null, .null, .null, .null, .null, .int 0]))] := hD
  refine lv_dup hx hb d_Law_law_11 rfl ?_
  have hPc := hP.sub (ws' := [(q8, .inr (13, [.int 0, .null, .int 0, .null, .null, .null, .null, .null, .null, .null, .null, .null, .null, .null, .null, .null, .int 0, .null, .int 0, .int 0, .null, .null, .null, .null, .null, .null, .null, .null, .null, .null, .null, .null, .null, .null, .null, .null, .null, .null, .null, .null, .null, .null, .null, .null, .int 0, .int 0, .null, .null, .null, .null, .null, .null, .null, .int 0]))]) [11] rfl
  have hKc := hK.sub (tys' := [(cI, .int), (cJ, .long), (cZ, .boolean)]) [1, 2, 3] rfl
  have hDc := hD.sub (ws' := [(q8, .inr (13, [.int 0, .null, .int 0, .null, .null, .null, .null, .null, .null, .null, .null, .null, .null, .null, .null, .null, .int 0, .null, .int 0, .int 0, .null, .null, .null, .null, .null, .null, .null, .null, .null, .null, .null, .null, .null, .null, .null, .null, .null, .null, .null, .null, .null, .null, .null, .null, .int 0, .int 0, .null, .null, .null, .null, .null, .null, .null, .int 0]))]) [11] (by decide) rfl
  have hFc := va_free (wc := [(q8, .inr (13, [.int 0, .null, .int 0, .null, .null, .null, .null, .null, .null, .null, .null, .null, .null, .null, .null, .null, .int 0, .null, .int 0, .int 0, .null, .null, .null, .null, .null, .null, .null, .null, .null, .null, .null, .null, .null, .null, .null, .null, .null, .null, .null, .null, .null, .null, .null, .null, .int 0, .int 0, .null, .null, .null, .null, .null, .null, .null, .int 0]))]) hD hS hA [11] rfl
  refine va_callv (va_runI (As := []) (rest := [.ref q8]) ⟨hx, hb, hml, hown, hts⟩ (c_Mo_init l D H.size cI cJ cZ q8 ) (z_cI hN wd_1085 wd_67 wd_1083 hd_Mo_init rfl rfl ⟨Nat.le_of_ble_eq_true rfl, Nat.le_of_ble_eq_true rfl⟩ wd_1084 rfl) (z_preSm hPc hKc hN hDc) rfl rfl hl.1 rfl (lv_room (Nat.le_of_ble_eq_true rfl)) d_Law_law_12 ⟨Nat.le_of_ble_eq_true rfl, Nat.le_of_ble_eq_true rfl⟩) hS (fun q _ h => hFc q h) hFc (fun r t H locs ht hvm e12 hB hz1 hk1 hS => ?_)
  obtain ⟨hP1, hK1, hD1⟩ := hB
  rw [ht] at hP1
  obtain ⟨hP, hD⟩ := va_join (wr := [(q0, .inr (11, [.ref (v 8), .ref (v 9)])), (v 8, .inr (4, [.ref (v 0), .ref (v 2), .ref (v 4), .ref (v 6), .ref (v 7)])), (v 0, .inr (0, [.ref (v 1), .int (nI 0)])), (v 1, .inl (cB, 9400, .inl (fun _ => 0))), (v 2, .inr (2, [.ref (v 3)])), (v 3, .inl (cN, 256, .inr (.inr (.inr (.inr (fun _ => none)))))), (v 4, .inr (8, [.int (-1), .ref (v 5)])), (v 5, .inr (12, [.ref e0, .int 0, .int 0])), (v 6, .inl (cI, 10, .inl (fun _ => 0))), (v 7, .inl (cQ, 16, .inr (.inr (.inr (.inr (fun _ => none)))))), (v 9, .inr (12, [.ref e0, .int 0, .int 0]))]) (w1 := [(q8, .inr (13, mO r 0 0 0 (-1) 0 0 0 0)), (r 1, .inl (cI, 9400, .inl (fun _ => 0))), (r 3, .inl (cI, 10, .inl (fun _ => 0))), (r 4, .inl (cI, 8192, .inl (ini (-1) 8192))), (r 5, .inl (cZ, 8192, .inl (fun _ => 0))), (r 6, .inl (cJ, 8192, .inr (.inl (iniL (-1) 8192)))), (r 7, .inl (cI, 24, .inl (ini (-1) 24))), (r 8, .inl (cZ, 24, .inl (fun _ => 0))), (r 9, .inl (cI, 24576, .inl (fun _ => 0))), (r 10, .inl (cI, 24, .inl (fun _ => 0))), (r 11, .inl (cI, 24, .inl (fun _ => 0))), (r 12, .inl (cI, 24, .inl (fun _ => 0))), (r 13, .inl (cI, 24, .inl (fun _ => 0))), (r 14, .inl (cJ, 24, .inr (.inl (fun _ => 0)))), (r 15, .inl (cI, 1024, .inl (fun _ => 0))), (r 17, .inl (cI, 188, .inl (fun _ => 0))), (r 20, .inl (cI, 4, .inl (fun _ => 0))), (r 21, .inl (cI, 4, .inl (fun _ => 0))), (r 22, .inl (cI, 4, .inl (fun _ => 0))), (r 23, .inl (cI, 4, .inl (fun _ => 0))), (r 24, .inl (cI, 4, .inl (fun _ => 0))), (r 25, .inl (cZ, 4, .inl (fun _ => 0))), (r 26, .inl (cJ, 4, .inr (.inl (fun _ => 0)))), (r 27, .inl (cI, 4, .inl (fun _ => 0))), (r 28, .inl (cI, 16, .inl (fun _ => 0))), (r 29, .inl (cI, 16, .inl (fun _ => 0))), (r 30, .inl (cJ, 24, .inr (.inl (fun _ => 0)))), (r 31, .inl (cI, 24, .inl (fun _ => 0))), (r 32, .inl (cZ, 24, .inl (fun _ => 0))), (r 33, .inl (cJ, 24, .inr (.inl (fun _ => 0)))), (r 34, .inl (cI, 24, .inl (fun _ => 0))), (r 35, .inl (cZ, 4, .inl (fun _ => 0))), (r 36, .inl (cJ, 4, .inr (.inl (fun _ => 0)))), (r 37, .inl (cI, 16, .inl (fun _ => 0))), (r 38, .inl (cI, 16, .inl (fun _ => 0))), (r 39, .inl (cJ, 24, .inr (.inl (fun _ => 0)))), (r 40, .inl (cI, 24, .inl (fun _ => 0))), (r 41, .inl (cZ, 24, .inl (fun _ => 0))), (r 42, .inl (cJ, 24, .inr (.inl (fun _ => 0)))), (r 43, .inl (cJ, 80, .inr (.inl (fun _ => 0)))), (r 46, .inl (cI, 4, .inl (fun _ => 0))), (r 47, .inl (cI, 4, .inl (fun _ => 0))), (r 48, .inl (cI, 4, .inl (fun _ => 0))), (r 49, .inl (cI, 16, .inl (fun _ => 0))), (r 50, .inl (cI, 16, .inl (fun _ => 0))), (r 51, .inl (cI, 8192, .inl (fun _ => 0))), (r 52, .inl (cI, 4200, .inl (fun _ => 0)))]) hP hD [11] [0, 1, 2, 3, 4, 5, 6, 7, 8, 9, 10] rfl rfl (by decide) (by decide) hk1 hFc hP1 hD1
  clear hk1 hP1 hD1 hFc hPc hDc hz1
  have hP : va_P D classes [(q0, .inr (11, [.ref (v 8), .ref (v 9)])), (v 8, .inr (4, [.ref (v 0), .ref (v 2), .ref (v 4), .ref (v 6), .ref (v 7)])), (v 0, .inr (0, [.ref (v 1), .int (nI 0)])), (v 1, .inl (cB, 9400, .inl (fun _ => 0))), (v 2, .inr (2, [.ref (v 3)])), (v 3, .inl (cN, 256, .inr (.inr (.inr (.inr (fun _ => none)))))), (v 4, .inr (8, [.int (-1), .ref (v 5)])), (v 5, .inr (12, [.ref e0, .int 0, .int 0])), (v 6, .inl (cI, 10, .inl (fun _ => 0))), (v 7, .inl (cQ, 16, .inr (.inr (.inr (.inr (fun _ => none)))))), (v 9, .inr (12, [.ref e0, .int 0, .int 0])), (q8, .inr (13, mO r 0 0 0 (-1) 0 0 0 0)), (r 1, .inl (cI, 9400, .inl (fun _ => 0))), (r 3, .inl (cI, 10, .inl (fun _ => 0))), (r 4, .inl (cI, 8192, .inl (ini (-1) 8192))), (r 5, .inl (cZ, 8192, .inl (fun _ => 0))), (r 6, .inl (cJ, 8192, .inr (.inl (iniL (-1) 8192)))), (r 7, .inl (cI, 24, .inl (ini (-1) 24))), (r 8, .inl (cZ, 24, .inl (fun _ => 0))), (r 9, .inl (cI, 24576, .inl (fun _ => 0))), (r 10, .inl (cI, 24, .inl (fun _ => 0))), (r 11, .inl (cI, 24, .inl (fun _ => 0))), (r 12, .inl (cI, 24, .inl (fun _ => 0))), (r 13, .inl (cI, 24, .inl (fun _ => 0))), (r 14, .inl (cJ, 24, .inr (.inl (fun _ => 0)))), (r 15, .inl (cI, 1024, .inl (fun _ => 0))), (r 17, .inl (cI, 188, .inl (fun _ => 0))), (r 20, .inl (cI, 4, .inl (fun _ => 0))), (r 21, .inl (cI, 4, .inl (fun _ => 0))), (r 22, .inl (cI, 4, .inl (fun _ => 0))), (r 23, .inl (cI, 4, .inl (fun _ => 0))), (r 24, .inl (cI, 4, .inl (fun _ => 0))), (r 25, .inl (cZ, 4, .inl (fun _ => 0))), (r 26, .inl (cJ, 4, .inr (.inl (fun _ => 0)))), (r 27, .inl (cI, 4, .inl (fun _ => 0))), (r 28, .inl (cI, 16, .inl (fun _ => 0))), (r 29, .inl (cI, 16, .inl (fun _ => 0))), (r 30, .inl (cJ, 24, .inr (.inl (fun _ => 0)))), (r 31, .inl (cI, 24, .inl (fun _ => 0))), (r 32, .inl (cZ, 24, .inl (fun _ => 0))), (r 33, .inl (cJ, 24, .inr (.inl (fun _ => 0)))), (r 34, .inl (cI, 24, .inl (fun _ => 0))), (r 35, .inl (cZ, 4, .inl (fun _ => 0))), (r 36, .inl (cJ, 4, .inr (.inl (fun _ => 0)))), (r 37, .inl (cI, 16, .inl (fun _ => 0))), (r 38, .inl (cI, 16, .inl (fun _ => 0))), (r 39, .inl (cJ, 24, .inr (.inl (fun _ => 0)))), (r 40, .inl (cI, 24, .inl (fun _ => 0))), (r 41, .inl (cZ, 24, .inl (fun _ => 0))), (r 42, .inl (cJ, 24, .inr (.inl (fun _ => 0)))), (r 43, .inl (cJ, 80, .inr (.inl (fun _ => 0)))), (r 46, .inl (cI, 4, .inl (fun _ => 0))), (r 47, .inl (cI, 4, .inl (fun _ => 0))), (r 48, .inl (cI, 4, .inl (fun _ => 0))), (r 49, .inl (cI, 16, .inl (fun _ => 0))), (r 50, .inl (cI, 16, .inl (fun _ => 0))), (r 51, .inl (cI, 8192, .inl (fun _ => 0))), (r 52, .inl (cI, 4200, .inl (fun _ => 0)))] H := hP
  have hD : va_D A [(q0, .inr (11, [.ref (v 8), .ref (v 9)])), (v 8, .inr (4, [.ref (v 0), .ref (v 2), .ref (v 4), .ref (v 6), .ref (v 7)])), (v 0, .inr (0, [.ref (v 1), .int (nI 0)])), (v 1, .inl (cB, 9400, .inl (fun _ => 0))), (v 2, .inr (2, [.ref (v 3)])), (v 3, .inl (cN, 256, .inr (.inr (.inr (.inr (fun _ => none)))))), (v 4, .inr (8, [.int (-1), .ref (v 5)])), (v 5, .inr (12, [.ref e0, .int 0, .int 0])), (v 6, .inl (cI, 10, .inl (fun _ => 0))), (v 7, .inl (cQ, 16, .inr (.inr (.inr (.inr (fun _ => none)))))), (v 9, .inr (12, [.ref e0, .int 0, .int 0])), (q8, .inr (13, mO r 0 0 0 (-1) 0 0 0 0)), (r 1, .inl (cI, 9400, .inl (fun _ => 0))), (r 3, .inl (cI, 10, .inl (fun _ => 0))), (r 4, .inl (cI, 8192, .inl (ini (-1) 8192))), (r 5, .inl (cZ, 8192, .inl (fun _ => 0))), (r 6, .inl (cJ, 8192, .inr (.inl (iniL (-1) 8192)))), (r 7, .inl (cI, 24, .inl (ini (-1) 24))), (r 8, .inl (cZ, 24, .inl (fun _ => 0))), (r 9, .inl (cI, 24576, .inl (fun _ => 0))), (r 10, .inl (cI, 24, .inl (fun _ => 0))), (r 11, .inl (cI, 24, .inl (fun _ => 0))), (r 12, .inl (cI, 24, .inl (fun _ => 0))), (r 13, .inl (cI, 24, .inl (fun _ => 0))), (r 14, .inl (cJ, 24, .inr (.inl (fun _ => 0)))), (r 15, .inl (cI, 1024, .inl (fun _ => 0))), (r 17, .inl (cI, 188, .inl (fun _ => 0))), (r 20, .inl (cI, 4, .inl (fun _ => 0))), (r 21, .inl (cI, 4, .inl (fun _ => 0))), (r 22, .inl (cI, 4, .inl (fun _ => 0))), (r 23, .inl (cI, 4, .inl (fun _ => 0))), (r 24, .inl (cI, 4, .inl (fun _ => 0))), (r 25, .inl (cZ, 4, .inl (fun _ => 0))), (r 26, .inl (cJ, 4, .inr (.inl (fun _ => 0)))), (r 27, .inl (cI, 4, .inl (fun _ => 0))), (r 28, .inl (cI, 16, .inl (fun _ => 0))), (r 29, .inl (cI, 16, .inl (fun _ => 0))), (r 30, .inl (cJ, 24, .inr (.inl (fun _ => 0)))), (r 31, .inl (cI, 24, .inl (fun _ => 0))), (r 32, .inl (cZ, 24, .inl (fun _ => 0))), (r 33, .inl (cJ, 24, .inr (.inl (fun _ => 0)))), (r 34, .inl (cI, 24, .inl (fun _ => 0))), (r 35, .inl (cZ, 4, .inl (fun _ => 0))), (r 36, .inl (cJ, 4, .inr (.inl (fun _ => 0)))), (r 37, .inl (cI, 16, .inl (fun _ => 0))), (r 38, .inl (cI, 16, .inl (fun _ => 0))), (r 39, .inl (cJ, 24, .inr (.inl (fun _ => 0)))), (r 40, .inl (cI, 24, .inl (fun _ => 0))), (r 41, .inl (cZ, 24, .inl (fun _ => 0))), (r 42, .inl (cJ, 24, .inr (.inl (fun _ => 0)))), (r 43, .inl (cJ, 80, .inr (.inl (fun _ => 0)))), (r 46, .inl (cI, 4, .inl (fun _ => 0))), (r 47, .inl (cI, 4, .inl (fun _ => 0))), (r 48, .inl (cI, 4, .inl (fun _ => 0))), (r 49, .inl (cI, 16, .inl (fun _ => 0))), (r 50, .inl (cI, 16, .inl (fun _ => 0))), (r 51, .inl (cI, 8192, .inl (fun _ => 0))), (r 52, .inl (cI, 4200, .inl (fun _ => 0)))] := hD
  refine lv_astore_n (lv' := [(2, .ref q8), (1, .ref q0), (0, .ref b)]) hx hb d_Law_law_15 rfl hl (by decide) rfl (fun ls hl => ?_)
  refine lv_iconst (v := 1) hx hb d_Law_law_16 (by decide) ?_
  refine z_newa (D := D) (atype := .long) (ty := .long) (N' := 1) (a0 := (1, .inr (.inl (fun _ => 0)))) hx hb (hts _ wd_1252) rfl hK hP hD hS hA 2 rfl (fun _ h => h) (fun _ => rfl) (by decide) (by decide) (Nat.le_of_ble_eq_true rfl) (by show 0 + 1 + 10 + 1 + 46 + 1 ≤ 600002; omega) (by show 0 + 2 + 9702 + 54 + 72778 + 1 ≤ 7302232; omega) d_Law_law_17 (fun q17 H hP hD hS => ?_)
  have hP : va_P D classes [(q0, .inr (11, [.ref (v 8), .ref (v 9)])), (v 8, .inr (4, [.ref (v 0), .ref (v 2), .ref (v 4), .ref (v 6), .ref (v 7)])), (v 0, .inr (0, [.ref (v 1), .int (nI 0)])), (v 1, .inl (cB, 9400, .inl (fun _ => 0))), (v 2, .inr (2, [.ref (v 3)])), (v 3, .inl (cN, 256, .inr (.inr (.inr (.inr (fun _ => none)))))), (v 4, .inr (8, [.int (-1), .ref (v 5)])), (v 5, .inr (12, [.ref e0, .int 0, .int 0])), (v 6, .inl (cI, 10, .inl (fun _ => 0))), (v 7, .inl (cQ, 16, .inr (.inr (.inr (.inr (fun _ => none)))))), (v 9, .inr (12, [.ref e0, .int 0, .int 0])), (q8, .inr (13, mO r 0 0 0 (-1) 0 0 0 0)), (r 1, .inl (cI, 9400, .inl (fun _ => 0))), (r 3, .inl (cI, 10, .inl (fun _ => 0))), (r 4, .inl (cI, 8192, .inl (ini (-1) 8192))), (r 5, .inl (cZ, 8192, .inl (fun _ => 0))), (r 6, .inl (cJ, 8192, .inr (.inl (iniL (-1) 8192)))), (r 7, .inl (cI, 24, .inl (ini (-1) 24))), (r 8, .inl (cZ, 24, .inl (fun _ => 0))), (r 9, .inl (cI, 24576, .inl (fun _ => 0))), (r 10, .inl (cI, 24, .inl (fun _ => 0))), (r 11, .inl (cI, 24, .inl (fun _ => 0))), (r 12, .inl (cI, 24, .inl (fun _ => 0))), (r 13, .inl (cI, 24, .inl (fun _ => 0))), (r 14, .inl (cJ, 24, .inr (.inl (fun _ => 0)))), (r 15, .inl (cI, 1024, .inl (fun _ => 0))), (r 17, .inl (cI, 188, .inl (fun _ => 0))), (r 20, .inl (cI, 4, .inl (fun _ => 0))), (r 21, .inl (cI, 4, .inl (fun _ => 0))), (r 22, .inl (cI, 4, .inl (fun _ => 0))), (r 23, .inl (cI, 4, .inl (fun _ => 0))), (r 24, .inl (cI, 4, .inl (fun _ => 0))), (r 25, .inl (cZ, 4, .inl (fun _ => 0))), (r 26, .inl (cJ, 4, .inr (.inl (fun _ => 0)))), (r 27, .inl (cI, 4, .inl (fun _ => 0))), (r 28, .inl (cI, 16, .inl (fun _ => 0))), (r 29, .inl (cI, 16, .inl (fun _ => 0))), (r 30, .inl (cJ, 24, .inr (.inl (fun _ => 0)))), (r 31, .inl (cI, 24, .inl (fun _ => 0))), (r 32, .inl (cZ, 24, .inl (fun _ => 0))), (r 33, .inl (cJ, 24, .inr (.inl (fun _ => 0)))), (r 34, .inl (cI, 24, .inl (fun _ => 0))), (r 35, .inl (cZ, 4, .inl (fun _ => 0))), (r 36, .inl (cJ, 4, .inr (.inl (fun _ => 0)))), (r 37, .inl (cI, 16, .inl (fun _ => 0))), (r 38, .inl (cI, 16, .inl (fun _ => 0))), (r 39, .inl (cJ, 24, .inr (.inl (fun _ => 0)))), (r 40, .inl (cI, 24, .inl (fun _ => 0))), (r 41, .inl (cZ, 24, .inl (fun _ => 0))), (r 42, .inl (cJ, 24, .inr (.inl (fun _ => 0)))), (r 43, .inl (cJ, 80, .inr (.inl (fun _ => 0)))), (r 46, .inl (cI, 4, .inl (fun _ => 0))), (r 47, .inl (cI, 4, .inl (fun _ => 0))), (r 48, .inl (cI, 4, .inl (fun _ => 0))), (r 49, .inl (cI, 16, .inl (fun _ => 0))), (r 50, .inl (cI, 16, .inl (fun _ => 0))), (r 51, .inl (cI, 8192, .inl (fun _ => 0))), (r 52, .inl (cI, 4200, .inl (fun _ => 0))), (q17, .inl (cJ, 1, .inr (.inl (fun _ => 0))))] H := hP
  have hD : va_D A [(q0, .inr (11, [.ref (v 8), .ref (v 9)])), (v 8, .inr (4, [.ref (v 0), .ref (v 2), .ref (v 4), .ref (v 6), .ref (v 7)])), (v 0, .inr (0, [.ref (v 1), .int (nI 0)])), (v 1, .inl (cB, 9400, .inl (fun _ => 0))), (v 2, .inr (2, [.ref (v 3)])), (v 3, .inl (cN, 256, .inr (.inr (.inr (.inr (fun _ => none)))))), (v 4, .inr (8, [.int (-1), .ref (v 5)])), (v 5, .inr (12, [.ref e0, .int 0, .int 0])), (v 6, .inl (cI, 10, .inl (fun _ => 0))), (v 7, .inl (cQ, 16, .inr (.inr (.inr (.inr (fun _ => none)))))), (v 9, .inr (12, [.ref e0, .int 0, .int 0])), (q8, .inr (13, mO r 0 0 0 (-1) 0 0 0 0)), (r 1, .inl (cI, 9400, .inl (fun _ => 0))), (r 3, .inl (cI, 10, .inl (fun _ => 0))), (r 4, .inl (cI, 8192, .inl (ini (-1) 8192))), (r 5, .inl (cZ, 8192, .inl (fun _ => 0))), (r 6, .inl (cJ, 8192, .inr (.inl (iniL (-1) 8192)))), (r 7, .inl (cI, 24, .inl (ini (-1) 24))), (r 8, .inl (cZ, 24, .inl (fun _ => 0))), (r 9, .inl (cI, 24576, .inl (fun _ => 0))), (r 10, .inl (cI, 24, .inl (fun _ => 0))), (r 11, .inl (cI, 24, .inl (fun _ => 0))), (r 12, .inl (cI, 24, .inl (fun _ => 0))), (r 13, .inl (cI, 24, .inl (fun _ => 0))), (r 14, .inl (cJ, 24, .inr (.inl (fun _ => 0)))), (r 15, .inl (cI, 1024, .inl (fun _ => 0))), (r 17, .inl (cI, 188, .inl (fun _ => 0))), (r 20, .inl (cI, 4, .inl (fun _ => 0))), (r 21, .inl (cI, 4, .inl (fun _ => 0))), (r 22, .inl (cI, 4, .inl (fun _ => 0))), (r 23, .inl (cI, 4, .inl (fun _ => 0))), (r 24, .inl (cI, 4, .inl (fun _ => 0))), (r 25, .inl (cZ, 4, .inl (fun _ => 0))), (r 26, .inl (cJ, 4, .inr (.inl (fun _ => 0)))), (r 27, .inl (cI, 4, .inl (fun _ => 0))), (r 28, .inl (cI, 16, .inl (fun _ => 0))), (r 29, .inl (cI, 16, .inl (fun _ => 0))), (r 30, .inl (cJ, 24, .inr (.inl (fun _ => 0)))), (r 31, .inl (cI, 24, .inl (fun _ => 0))), (r 32, .inl (cZ, 24, .inl (fun _ => 0))), (r 33, .inl (cJ, 24, .inr (.inl (fun _ => 0)))), (r 34, .inl (cI, 24, .inl (fun _ => 0))), (r 35, .inl (cZ, 4, .inl (fun _ => 0))), (r 36, .inl (cJ, 4, .inr (.inl (fun _ => 0)))), (r 37, .inl (cI, 16, .inl (fun _ => 0))), (r 38, .inl (cI, 16, .inl (fun _ => 0))), (r 39, .inl (cJ, 24, .inr (.inl (fun _ => 0)))), (r 40, .inl (cI, 24, .inl (fun _ => 0))), (r 41, .inl (cZ, 24, .inl (fun _ => 0))), (r 42, .inl (cJ, 24, .inr (.inl (fun _ => 0)))), (r 43, .inl (cJ, 80, .inr (.inl (fun _ => 0)))), (r 46, .inl (cI, 4, .inl (fun _ => 0))), (r 47, .inl (cI, 4, .inl (fun _ => 0))), (r 48, .inl (cI, 4, .inl (fun _ => 0))), (r 49, .inl (cI, 16, .inl (fun _ => 0))), (r 50, .inl (cI, 16, .inl (fun _ => 0))), (r 51, .inl (cI, 8192, .inl (fun _ => 0))), (r 52, .inl (cI, 4200, .inl (fun _ => 0))), (q17, .inl (cJ, 1, .inr (.inl (fun _ => 0))))] := hD
  refine lv_astore_n (lv' := [(3, .ref q17), (2, .ref q8), (1, .ref q0), (0, .ref b)]) hx hb d_Law_law_19 rfl hl (by decide) rfl (fun ls hl => ?_)
  refine lv_iconst (v := 0) hx hb d_Law_law_20 (by decide) ?_
  refine lv_istore (lv' := [(4, .int 0), (3, .ref q17), (2, .ref q8), (1, .ref q0), (0, .ref b)]) hx hb d_Law_law_21 hl (by decide) rfl (fun ls hl => ?_)
  have hP : va_P D classes (fw9 cB cI cJ cZ cN cQ e0 q0 q8 q17 v r) H := hP.sub [0, 1, 2, 3, 4, 5, 6, 7, 8, 9, 10, 11, 12, 13, 14, 15, 16, 17, 18, 19, 20, 21, 22, 23, 24, 25, 26, 27, 28, 29, 30, 31, 32, 33, 34, 35, 36, 37, 38, 39, 40, 41, 42, 43, 44, 45, 46, 47, 48, 49, 50, 51, 52, 53, 54, 55, 56, 57, 58] rfl
  have hD : va_D A (fw9 cB cI cJ cZ cN cQ e0 q0 q8 q17 v r) := hD.sub [0, 1, 2, 3, 4, 5, 6, 7, 8, 9, 10, 11, 12, 13, 14, 15, 16, 17, 18, 19, 20, 21, 22, 23, 24, 25, 26, 27, 28, 29, 30, 31, 32, 33, 34, 35, 36, 37, 38, 39, 40, 41, 42, 43, 44, 45, 46, 47, 48, 49, 50, 51, 52, 53, 54, 55, 56, 57, 58] (by decide) rfl
  have hl : lv_has ls 8 [(4, .int (nI 0)), (3, .ref q17), (2, .ref q8), (1, .ref q0), (0, .ref b)] := lv_sub hl [0, 1, 2, 3, 4] rfl
  refine lv_iload hx hb d_Law_law_23 (lv_at hl 0 rfl) ?_
  refine lv_aload_n hx hb d_Law_law_25 rfl (lv_at hl 4 rfl) ?_
  refine va_slen hx hb hX hbl hbA hS d_Law_law_26 ?_
  refine lv_bipush (v := 8) hx hb d_Law_law_27 (by decide) ?_
  refine lv_isub hx hb d_Law_law_29 ?_
  by_cases hL8 : L < 8
  · refine lv_icmp_gt (tgt := 1450) hx hb d_Law_law_30 rfl (fun _ => ?_) (fun h9 => absurd (lw_lt hL8) h9)
    exact law_ret l C9 hAO hS (Nat.le_of_ble_eq_true rfl) (Nat.le_of_ble_eq_true rfl)
  obtain rfl : L = 8 := by omega
  have hi : 0 + 8 ≤ 8 := by omega
  refine lv_icmp_gt (tgt := 1450) hx hb d_Law_law_30 rfl (fun h9 => absurd h9 (by decide)) (fun _ => ?_)
  refine lv_aload_n hx hb d_Law_law_33 rfl (lv_at hl 4 rfl) ?_
  refine lv_iload hx hb d_Law_law_34 (lv_at hl 0 rfl) ?_
  refine va_sld hx hb hX hbl hbA hS (vp_in_nI (n := 0) (N := 8) (by omega) (by omega)) d_Law_law_36 ?_
  refine z_topi (w := xs 0) (by rw [nI_clamp (by omega)]) ?_
  refine lv_bipush (v := 31) hx hb d_Law_law_37 (by decide) ?_
  refine lv_iand hx hb d_Law_law_39 ?_
  generalize xs 0 &&& 31 = x0
  by_cases hk0 : x0 = 0
  · subst hk0
    refine lv_tableIn (tgt := 132) hx hb d_Law_law_40 (by decide) (by decide) rfl rfl ?_
    by_cases hbad : xs (0 + 1) < 1 ∨ 8 < xs (0 + 1)
    · exact law_feed_bad l hfl C9 0 hi hL A hA hAO hbad D cB cI cJ cZ cN cQ cO hK e0 he0 q0 q8 q17 v r H locs ls hl hP hD hS
    · exact law_feed_ok l hfl C9 0 hi hL A hA hAO hbad D cB cI cJ cZ cN cQ cO hK e0 he0 q0 q8 q17 v r H locs ls hl hP hD hS
  by_cases hk1 : x0 = 1
  · subst hk1
    refine lv_tableIn (tgt := 232) hx hb d_Law_law_40 (by decide) (by decide) rfl rfl ?_
    exact law_spoil l hfl C9 0 hi hL A hA hAO  D cB cI cJ cZ cN cQ cO hK e0 he0 q0 q8 q17 v r H locs ls hl hP hD hS
  by_cases hk2 : x0 = 2
  · subst hk2
    refine lv_tableIn (tgt := 300) hx hb d_Law_law_40 (by decide) (by decide) rfl rfl ?_
    exact law_tape l hfl C9 0 hi hL A hA hAO  D cB cI cJ cZ cN cQ cO hK e0 he0 q0 q8 q17 v r H locs ls hl hP hD hS
  by_cases hk3 : x0 = 3
  · subst hk3
    refine lv_tableIn (tgt := 326) hx hb d_Law_law_40 (by decide) (by decide) rfl rfl ?_
    by_cases hbad : xs (0 + 1) < 0 ∨ xs (0 + 2) < 0 ∨ nI 0 - xs (0 + 1) < xs (0 + 2)
    · exact law_drop_bad l hfl C9 0 hi hL A hA hAO hbad D cB cI cJ cZ cN cQ cO hK e0 he0 q0 q8 q17 v r H locs ls hl hP hD hS
    · exact law_drop_ok l hfl C9 0 hi hL A hA hAO hbad D cB cI cJ cZ cN cQ cO hK e0 he0 q0 q8 q17 v r H locs ls hl hP hD hS
  by_cases hk4 : x0 = 4
  · subst hk4
    refine lv_tableIn (tgt := 394) hx hb d_Law_law_40 (by decide) (by decide) rfl rfl ?_
    exact law_seal l hfl C9 0 hi hL A hA hAO  D cB cI cJ cZ cN cQ cO hK e0 he0 q0 q8 q17 v r H locs ls hl hP hD hS
  by_cases hk5 : x0 = 5
  · subst hk5
    refine lv_tableIn (tgt := 442) hx hb d_Law_law_40 (by decide) (by decide) rfl rfl ?_
    exact law_take l hfl C9 0 hi hL A hA hAO  D cB cI cJ cZ cN cQ cO hK e0 he0 q0 q8 q17 v r H locs ls hl hP hD hS
  by_cases hk6 : x0 = 6
  · subst hk6
    refine lv_tableIn (tgt := 455) hx hb d_Law_law_40 (by decide) (by decide) rfl rfl ?_
    by_cases hbad : xs (0 + 1) < 0 ∨ 11 < xs (0 + 1)
    · exact law_told_bad l hfl C9 0 hi hL A hA hAO hbad D cB cI cJ cZ cN cQ cO hK e0 he0 q0 q8 q17 v r H locs ls hl hP hD hS
    · obtain ⟨k, hk, hx1⟩ := nk_11 (M := 11) (by decide) hbad
      exact law_told_ok l hfl C9 0 hi hL A hA hAO k hk hx1 D cB cI cJ cZ cN cQ cO hK e0 he0 q0 q8 q17 v r H locs ls hl hP hD hS
  by_cases hk7 : x0 = 7
  · subst hk7
    refine lv_tableIn (tgt := 511) hx hb d_Law_law_40 (by decide) (by decide) rfl rfl ?_
    by_cases hbad : xs (0 + 2) < 0 ∨ 6 < xs (0 + 2)
    · exact law_programme_A l hfl C9 0 hi hL A hA hAO hbad D cB cI cJ cZ cN cQ cO hK e0 he0 q0 q8 q17 v r H locs ls hl hP hD hS
    · exact law_programme_B l hfl C9 0 hi hL A hA hAO hbad D cB cI cJ cZ cN cQ cO hK e0 he0 q0 q8 q17 v r H locs ls hl hP hD hS
  by_cases hk8 : x0 = 8
  · subst hk8
    refine lv_tableIn (tgt := 579) hx hb d_Law_law_40 (by decide) (by decide) rfl rfl ?_
    exact law_stream l hfl C9 0 hi hL A hA hAO  D cB cI cJ cZ cN cQ cO hK e0 he0 q0 q8 q17 v r H locs ls hl hP hD hS
  by_cases hk9 : x0 = 9
  · subst hk9
    refine lv_tableIn (tgt := 647) hx hb d_Law_law_40 (by decide) (by decide) rfl rfl ?_
    exact law_now l hfl C9 0 hi hL A hA hAO  D cB cI cJ cZ cN cQ cO hK e0 he0 q0 q8 q17 v r H locs ls hl hP hD hS
  by_cases hk10 : x0 = 10
  · subst hk10
    refine lv_tableIn (tgt := 702) hx hb d_Law_law_40 (by decide) (by decide) rfl rfl ?_
    by_cases hbad : xs (0 + 3) < 0 ∨ 3 < xs (0 + 3)
    · exact law_order_A l hfl C9 0 hi hL A hA hAO hbad D cB cI cJ cZ cN cQ cO hK e0 he0 q0 q8 q17 v r H locs ls hl hP hD hS
    · exact law_order_B l hfl C9 0 hi hL A hA hAO hbad D cB cI cJ cZ cN cQ cO hK e0 he0 q0 q8 q17 v r H locs ls hl hP hD hS
  by_cases hk11 : x0 = 11
  · subst hk11
    refine lv_tableIn (tgt := 781) hx hb d_Law_law_40 (by decide) (by decide) rfl rfl ?_
    by_cases hbad : xs (0 + 2) < 0 ∨ 4 < xs (0 + 2) ∨ xs (0 + 1) < 0
    · exact law_piece_bad l hfl C9 0 hi hL A hA hAO hbad D cB cI cJ cZ cN cQ cO hK e0 he0 q0 q8 q17 v r H locs ls hl hP hD hS
    · exact law_piece_ok l hfl C9 0 hi hL A hA hAO hbad D cB cI cJ cZ cN cQ cO hK e0 he0 q0 q8 q17 v r H locs ls hl hP hD hS
  by_cases hk12 : x0 = 12
  · subst hk12
    refine lv_tableIn (tgt := 848) hx hb d_Law_law_40 (by decide) (by decide) rfl rfl ?_
    by_cases hbad : xs (0 + 1) < 0 ∨ 8191 < xs (0 + 1)
    · exact law_clock_bad l hfl C9 0 hi hL A hA hAO hbad D cB cI cJ cZ cN cQ cO hK e0 he0 q0 q8 q17 v r H locs ls hl hP hD hS
    · obtain ⟨k, hk, hx1⟩ := nk_11 (M := 8191) (by decide) hbad
      exact law_clock_ok l hfl C9 0 hi hL A hA hAO k (by omega) hx1 D cB cI cJ cZ cN cQ cO hK e0 he0 q0 q8 q17 v r H locs ls hl hP hD hS
  by_cases hk13 : x0 = 13
  · subst hk13
    refine lv_tableIn (tgt := 903) hx hb d_Law_law_40 (by decide) (by decide) rfl rfl ?_
    by_cases hbad : xs (0 + 1) < 1 ∨ 65535 < xs (0 + 1) ∨ xs (0 + 2) < 0 ∨ 8191 < xs (0 + 2)
    · exact law_plan_bad l hfl C9 0 hi hL A hA hAO hbad D cB cI cJ cZ cN cQ cO hK e0 he0 q0 q8 q17 v r H locs ls hl hP hD hS
    · exact law_plan_ok l hfl C9 0 hi hL A hA hAO hbad D cB cI cJ cZ cN cQ cO hK e0 he0 q0 q8 q17 v r H locs ls hl hP hD hS
  by_cases hk14 : x0 = 14
  · subst hk14
    refine lv_tableIn (tgt := 971) hx hb d_Law_law_40 (by decide) (by decide) rfl rfl ?_
    exact law_addStream l hfl C9 0 hi hL A hA hAO  D cB cI cJ cZ cN cQ cO hK e0 he0 q0 q8 q17 v r H locs ls hl hP hD hS
  by_cases hk15 : x0 = 15
  · subst hk15
    refine lv_tableIn (tgt := 1051) hx hb d_Law_law_40 (by decide) (by decide) rfl rfl ?_
    exact law_forget l hfl C9 0 hi hL A hA hAO  D cB cI cJ cZ cN cQ cO hK e0 he0 q0 q8 q17 v r H locs ls hl hP hD hS
  by_cases hk16 : x0 = 16
  · subst hk16
    refine lv_tableIn (tgt := 1062) hx hb d_Law_law_40 (by decide) (by decide) rfl rfl ?_
    by_cases hbad : xs (0 + 1) < 0 ∨ 31 < xs (0 + 1)
    · exact law_tables_bad l hfl C9 0 hi hL A hA hAO hbad D cB cI cJ cZ cN cQ cO hK e0 he0 q0 q8 q17 v r H locs ls hl hP hD hS
    · exact law_tables_ok l hfl C9 0 hi hL A hA hAO hbad D cB cI cJ cZ cN cQ cO hK e0 he0 q0 q8 q17 v r H locs ls hl hP hD hS
  by_cases hk17 : x0 = 17
  · subst hk17
    refine lv_tableIn (tgt := 1118) hx hb d_Law_law_40 (by decide) (by decide) rfl rfl ?_
    by_cases hbad : xs (0 + 1) < 0 ∨ 2097151 < xs (0 + 1) ∨ xs (0 + 4) < 0 ∨ 4000 < xs (0 + 4) ∨ 8589934592 ≤ lgv (xs (0 + 2)) (xs (0 + 3))
    · exact law_piece_w_bad l hfl C9 0 hi hL A hA hAO hbad D cB cI cJ cZ cN cQ cO hK e0 he0 q0 q8 q17 v r H locs ls hl hP hD hS
    · obtain ⟨i9, hi9, hx1⟩ := nk_11 (i := xs (0 + 1)) (M := 2097151) (by decide) (fun z => hbad (z.elim Or.inl (fun q => Or.inr (Or.inl q))))
      obtain ⟨n, hn, hx4⟩ := nk_11 (i := xs (0 + 4)) (M := 4000) (by decide) (fun z => hbad (z.elim (fun q => Or.inr (Or.inr (Or.inl q))) (fun q => Or.inr (Or.inr (Or.inr (Or.inl q))))))
      exact law_piece_w_ok l hfl C9 0 hi hL A hA hAO i9 n hi9 hn hx1 hx4 (Int64.not_le.mp (fun z => hbad (Or.inr (Or.inr (Or.inr (Or.inr z)))))) D cB cI cJ cZ cN cQ cO hK e0 he0 q0 q8 q17 v r H locs ls hl hP hD hS
  by_cases hk18 : x0 = 18
  · subst hk18
    refine lv_tableIn (tgt := 1272) hx hb d_Law_law_40 (by decide) (by decide) rfl rfl ?_
    by_cases hbad : xs (0 + 1) < 0 ∨ 8191 < xs (0 + 1) ∨ xs (0 + 3) < 0 ∨ 63 < xs (0 + 3) ∨ lgv (xs (0 + 4)) (xs (0 + 5)) < 0 ∨ 8589934592 ≤ lgv (xs (0 + 4)) (xs (0 + 5)) ∨ lgv (xs (0 + 6)) (xs (0 + 7)) < 0
    · exact law_order_w_bad l hfl C9 0 hi hL A hA hAO hbad D cB cI cJ cZ cN cQ cO hK e0 he0 q0 q8 q17 v r H locs ls hl hP hD hS
    · obtain ⟨pid, hpid, hx1⟩ := nk_11 (i := xs (0 + 1)) (M := 8191) (by decide) (fun z => hbad (z.elim Or.inl (fun q => Or.inr (Or.inl q))))
      exact law_order_w_ok l hfl C9 0 hi hL A hA hAO pid (by omega) hx1 (fun z => hbad (Or.inr (Or.inr z))) D cB cI cJ cZ cN cQ cO hK e0 he0 q0 q8 q17 v r H locs ls hl hP hD hS
  refine lv_tableOut (tgt := 1444) hx hb d_Law_law_40 ?_ rfl ?_
  · apply Classical.byContradiction
    intro hno
    obtain ⟨k, hk, hxk⟩ := nk_11 (i := x0) (M := 18) (by decide) (fun z => hno (z.elim (fun q => Or.inl (Int32.lt_iff_toInt_lt.mp q)) (fun q => Or.inr (Int32.lt_iff_toInt_lt.mp q))))
    have : k = 0 ∨ k = 1 ∨ k = 2 ∨ k = 3 ∨ k = 4 ∨ k = 5 ∨ k = 6 ∨ k = 7 ∨ k = 8 ∨ k = 9 ∨ k = 10 ∨ k = 11 ∨ k = 12 ∨ k = 13 ∨ k = 14 ∨ k = 15 ∨ k = 16 ∨ k = 17 ∨ k = 18 := by omega
    rcases this with rfl | rfl | rfl | rfl | rfl | rfl | rfl | rfl | rfl | rfl | rfl | rfl | rfl | rfl | rfl | rfl | rfl | rfl | rfl
    · exact hk0 hxk
    · exact hk1 hxk
    · exact hk2 hxk
    · exact hk3 hxk
    · exact hk4 hxk
    · exact hk5 hxk
    · exact hk6 hxk
    · exact hk7 hxk
    · exact hk8 hxk
    · exact hk9 hxk
    · exact hk10 hxk
    · exact hk11 hxk
    · exact hk12 hxk
    · exact hk13 hxk
    · exact hk14 hxk
    · exact hk15 hxk
    · exact hk16 hxk
    · exact hk17 hxk
    · exact hk18 hxk
  · exact law_end l C9 hi hL hAO (lv_sub hl [0, 4] rfl) hS (Nat.le_of_ble_eq_true rfl) (Nat.le_of_ble_eq_true rfl)
