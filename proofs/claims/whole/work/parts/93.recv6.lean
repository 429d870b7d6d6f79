theorem wd_7 : (Jvm.Cond.selects "StreamSplitter$Receiver" ({ cls := "StreamSplitter$Receiver", name := "keepDone", desc := "(LStreamSplitter$Piece;)V" } : Jvm.MethodName) ({ cls := "StreamSplitter$Receiver", name := "keepDone", desc := "(LStreamSplitter$Piece;)V" } : Jvm.MethodName)) ∈ lw_ok := List.mem_filter.mpr ⟨List.mem_of_getElem? (i := 7) (by decide +kernel), rfl⟩
theorem wd_348 : (Jvm.Cond.methodLink "StreamSplitter$Receiver" (165 : Nat) ({ cls := "StreamSplitter$Receiver", name := "keepDone", desc := "(LStreamSplitter$Piece;)V" } : Jvm.MethodName)) ∈ lw_ok := List.mem_filter.mpr ⟨List.mem_of_getElem? (i := 348) (by decide +kernel), rfl⟩
theorem wd_350 : (Jvm.Cond.instanceMethod ({ cls := "StreamSplitter$Receiver", name := "keepDone", desc := "(LStreamSplitter$Piece;)V" } : Jvm.MethodName)) ∈ lw_ok := List.mem_filter.mpr ⟨List.mem_of_getElem? (i := 350) (by decide +kernel), rfl⟩
set_option maxRecDepth 100000 in
theorem wd_351 : (Jvm.Cond.code ({ cls := "StreamSplitter$Receiver", name := "keepDone", desc := "(LStreamSplitter$Piece;)V" } : Jvm.MethodName) prog_8_method_16_code (3 : Nat) (Option.none : Option Jvm.ClassFile.FieldType)) ∈ lw_ok := List.mem_filter.mpr ⟨List.mem_of_getElem? (i := 351) (by rfl), rfl⟩
theorem wd_371 : (Jvm.Cond.fieldLinkNest "StreamSplitter$Receiver" (161 : Nat) "StreamSplitter$Piece" "due" "I" "StreamSplitter") ∈ lw_ok := List.mem_filter.mpr ⟨List.mem_of_getElem? (i := 371) (by decide +kernel), rfl⟩
theorem hd_Receiver_keepDone : y_Receiver_keepDone.cls ≠ "java/lang/invoke/MethodHandle" ∧ y_Receiver_keepDone.cls ≠ "java/lang/invoke/VarHandle" ∧ (parseMethodDescriptor y_Receiver_keepDone.desc).map (fun d => d.parameters.length) = some 1 := by decide +kernel
theorem d_Receiver_endPiece_0 : decode b_Receiver_endPiece 0 = .ok (.aload_n 1, 1) := by decide +kernel
theorem d_Receiver_endPiece_1 : decode b_Receiver_endPiece 1 = .ok (.invokevirtual 94, 3) := by decide +kernel
theorem d_Receiver_endPiece_4 : decode b_Receiver_endPiece 4 = .ok (.ifCond .eq 25, 3) := by decide +kernel
theorem d_Receiver_endPiece_7 : decode b_Receiver_endPiece 7 = .ok (.aload_n 1, 1) := by decide +kernel
theorem d_Receiver_endPiece_8 : decode b_Receiver_endPiece 8 = .ok (.getfield 97, 3) := by decide +kernel
theorem d_Receiver_endPiece_11 : decode b_Receiver_endPiece 11 = .ok (.getfield 161, 3) := by decide +kernel
theorem d_Receiver_endPiece_14 : decode b_Receiver_endPiece 14 = .ok (.iconst (-1), 1) := by decide +kernel
theorem d_Receiver_endPiece_15 : decode b_Receiver_endPiece 15 = .ok (.if_icmp .ne 14, 3) := by decide +kernel
theorem d_Receiver_endPiece_18 : decode b_Receiver_endPiece 18 = .ok (.aload_n 0, 1) := by decide +kernel
theorem d_Receiver_endPiece_19 : decode b_Receiver_endPiece 19 = .ok (.aload_n 1, 1) := by decide +kernel
theorem d_Receiver_endPiece_20 : decode b_Receiver_endPiece 20 = .ok (.getfield 97, 3) := by decide +kernel
theorem d_Receiver_endPiece_23 : decode b_Receiver_endPiece 23 = .ok (.invokevirtual 165, 3) := by decide +kernel
theorem d_Receiver_endPiece_26 : decode b_Receiver_endPiece 26 = .ok (.goto 8, 3) := by decide +kernel
theorem d_Receiver_endPiece_29 : decode b_Receiver_endPiece 29 = .ok (.aload_n 0, 1) := by decide +kernel
theorem d_Receiver_endPiece_30 : decode b_Receiver_endPiece 30 = .ok (.aload_n 1, 1) := by decide +kernel
theorem d_Receiver_endPiece_31 : decode b_Receiver_endPiece 31 = .ok (.invokevirtual 72, 3) := by decide +kernel
theorem d_Receiver_endPiece_34 : decode b_Receiver_endPiece 34 = .ok (.return_, 1) := by decide +kernel
/-! A piece ends -/
def pieD (pi : Option PQ9) : Prop := ∃ q, pi = some q ∧ ¬ q.2.1 = 0 ∧ q.2.2.2.2.2.2.2 = -1
abbrev EU9 : Type := (Nat → Int32) × Option SQ9 × Option PQ9 × (Nat → Option PQ9) × (Nat → Option Nat)
def epP (cn : Nat → Int32) (se : Option SQ9) (pi : Option PQ9) (dn : Nat → Option PQ9) (u : EU9) : Prop :=
  (∃ q v : PQ9, pi = some q ∧ ¬ q.2.1 = 0 ∧ q.2.2.2.2.2.2.2 = -1 ∧ v.2.2 = (q.2.2.1, q.2.2.2.1, q.2.2.2.2.1, q.2.2.2.2.2.1, q.2.2.2.2.2.2.1, v.2.2.2.2.2.2.2) ∧ u.1 = cup cn 9 ∧ u.2.1 = se ∧ u.2.2.1 = guI pi ∧ u.2.2.2.1 = va_up dn (kdI (cn 9)) (some v))
  ∨ (¬ pieD pi ∧ u.1 = guC cn se pi ∧ u.2.1 = guS se ∧ u.2.2.1 = guI pi ∧ u.2.2.2.1 = dn)

set_option maxHeartbeats 4000000 in
set_option maxRecDepth 100000 in
theorem c_Receiver_endPiece (l : Launch) (D : va_G) (sz : Nat) (cB cI cQ : ClassId) (rv tp ln tb ca dp : Nat) (cn : Nat → Int32) (dpf : Nat → Option Nat) (dn : Nat → Option PQ9) (la pid : Nat) (nx : Option Nat) (ct tw : Int32) (ck : Int64) (wr : Int32) (se : Option SQ9) (pi : Option PQ9) (Q : va_W) (hse : ∀ q, se = some q → q.2.2.1 ≤ 1024) (hdp : dpok dpf dn) : Met l y_Receiver_endPiece [Cond.code y_Receiver_endPiece b_Receiver_endPiece 2 none] ({ frames := 3, cells := 1, slots := 7, locals := 54 }) (zM [.ref rv, .ref la] D ([(rv, .inr (4, [.ref tp, .ref ln, .ref tb, .ref ca, .ref dp])), (ca, .inl (cI, 10, .inl cn)), (dp, .inl (cQ, 16, .inr (.inr (.inr (.inr dpf)))))] ++ (lzc cB (la, pid, nx, ct, tw, ck, wr, se, pi) ++ (dpl dn ++ Q))) [(cB, .byte), (cI, .int), (cQ, .object "StreamSplitter$Piece")] sz) (va_Qv (fun (u : EU9) => epP cn se pi dn u ∧ dpok u.2.2.2.2 u.2.2.2.1) (fun (u : EU9) t => zW D (va_A ([(rv, .inr (4, [.ref tp, .ref ln, .ref tb, .ref ca, .ref dp])), (ca, .inl (cI, 10, .inl cn)), (dp, .inl (cQ, 16, .inr (.inr (.inr (.inr dpf)))))] ++ (lzc cB (la, pid, nx, ct, tw, ck, wr, se, pi) ++ (dpl dn ++ Q))) sz) ([(rv, .inr (4, [.ref tp, .ref ln, .ref tb, .ref ca, .ref dp])), (ca, .inl (cI, 10, .inl u.1)), (dp, .inl (cQ, 16, .inr (.inr (.inr (.inr u.2.2.2.2)))))] ++ (lzc cB (la, pid, nx, ct, tw, ck, wr, u.2.1, u.2.2.1) ++ (dpl u.2.2.2.1 ++ Q))) [(cB, .byte), (cI, .int), (cQ, .object "StreamSplitter$Piece")] t) (va_A ([(rv, .inr (4, [.ref tp, .ref ln, .ref tb, .ref ca, .ref dp])), (ca, .inl (cI, 10, .inl cn)), (dp, .inl (cQ, 16, .inr (.inr (.inr (.inr dpf)))))] ++ (lzc cB (la, pid, nx, ct, tw, ck, wr, se, pi) ++ (dpl dn ++ Q))) sz)) 1 7 (va_A ([(rv, .inr (4, [.ref tp, .ref ln, .ref tb, .ref ca, .ref dp])), (ca, .inl (cI, 10, .inl cn)), (dp, .inl (cQ, 16, .inr (.inr (.inr (.inr dpf)))))] ++ (lzc cB (la, pid, nx, ct, tw, ck, wr, se, pi) ++ (dpl dn ++ Q))) sz) := by
  refine Met.ofW (cc := b_Receiver_endPiece) (maxL := 2) (ret := none) (by decide) rfl ?_
  intro p e s m args below meth cd s₁ Bd hml hv
  obtain ⟨rfl, hsz, hP, hK, hN, hD0⟩ := hv
  have hx := Bd.exec
  have hb := Bd.bytes
  have hr := Bd.returns
  have hts := hN.use (a := ([.ref rv, .ref la]).toArray)
  have hown : s.vm.findClass R_Receiver = some m.cls := findClass_of_methodNamed Bd.named
  have hlocks := Bd.notSynchronized
  subst hsz
  have hD := hD0.self (sz := s.heap.size)
  clear hD0
  have hA : ∀ q : Nat, s.heap.size ≤ q → va_A ([(rv, .inr (4, [.ref tp, .ref ln, .ref tb, .ref ca, .ref dp])), (ca, .inl (cI, 10, .inl cn)), (dp, .inl (cQ, 16, .inr (.inr (.inr (.inr dpf)))))] ++ (lzc cB (la, pid, nx, ct, tw, ck, wr, se, pi) ++ (dpl dn ++ Q))) s.heap.size q := fun q h => Or.inr h
  have hS : va_S (va_A ([(rv, .inr (4, [.ref tp, .ref ln, .ref tb, .ref ca, .ref dp])), (ca, .inl (cI, 10, .inl cn)), (dp, .inl (cQ, 16, .inr (.inr (.inr (.inr dpf)))))] ++ (lzc cB (la, pid, nx, ct, tw, ck, wr, se, pi) ++ (dpl dn ++ Q))) s.heap.size) s.heap s.heap [] := va_S.rf
  generalize hAe : va_A ([(rv, .inr (4, [.ref tp, .ref ln, .ref tb, .ref ca, .ref dp])), (ca, .inl (cI, 10, .inl cn)), (dp, .inl (cQ, 16, .inr (.inr (.inr (.inr dpf)))))] ++ (lzc cB (la, pid, nx, ct, tw, ck, wr, se, pi) ++ (dpl dn ++ Q))) s.heap.size = A at hD hA hS ⊢
  have hP : va_P D classes ([(rv, .inr (4, [.ref tp, .ref ln, .ref tb, .ref ca, .ref dp])), (ca, .inl (cI, 10, .inl cn)), (dp, .inl (cQ, 16, .inr (.inr (.inr (.inr dpf)))))] ++ (lzc cB (la, pid, nx, ct, tw, ck, wr, se, pi) ++ (dpl dn ++ Q))) s.heap := hP
  have hl := lv_entry ([.ref rv, .ref la]) (n := 2) (Nat.le_of_ble_eq_true rfl)
  rw [lg_entry_eq]
  generalize (lg_sl ([.ref rv, .ref la]) ++ List.replicate (2 - (lg_sl ([.ref rv, .ref la])).length) Slot.unset).toArray = ls at hl ⊢
  have hl : lv_has ls 2 [(0, .ref rv), (1, .ref la)] := hl
  cases se with
  | none =>
    cases pi with
    | none =>
      have hP : va_P D classes ([(rv, .inr (4, [.ref tp, .ref ln, .ref tb, .ref ca, .ref dp])), (ca, .inl (cI, 10, .inl cn)), (dp, .inl (cQ, 16, .inr (.inr (.inr (.inr dpf))))), (la, .inr (1, [.int (nI pid), va_rf nx, .int ct, .int tw, .long ck, .int wr, .null, .null]))] ++ (dpl dn ++ Q)) s.heap := hP
      have hD : va_D A ([(rv, .inr (4, [.ref tp, .ref ln, .ref tb, .ref ca, .ref dp])), (ca, .inl (cI, 10, .inl cn)), (dp, .inl (cQ, 16, .inr (.inr (.inr (.inr dpf))))), (la, .inr (1, [.int (nI pid), va_rf nx, .int ct, .int tw, .long ck, .int wr, .null, .null]))] ++ (dpl dn ++ Q)) := hD
      refine lv_aload_n hx hb d_Receiver_endPiece_0 rfl (lv_at hl 1 rfl) ?_
      have hPc := hP.sub (ws' := [(la, .inr (1, [.int (nI pid), va_rf nx, .int ct, .int tw, .long ck, .int wr, va_rf none, .null]))]) [3] rfl
      have hKc := hK.sub (tys' := []) [] rfl
      refine z_ci (va_runV (As := []) (rest := []) ⟨hx, hb, hml, hown, hts⟩ (c_Lane_gathersPiece0 l D la nx none (nI pid) ct tw wr ck ) (z_cV hN wd_297 wd_74 wd_294 hd_Lane_gathersPiece rfl rfl ⟨Nat.le_of_ble_eq_true rfl, Nat.le_of_ble_eq_true rfl⟩ wd_295 wd_296) (z_preV (va_recv (ci := 1) (q0 := 3) hK hP rfl rfl) hPc hKc hN) rfl rfl hl.1 rfl (lv_room (Nat.le_of_ble_eq_true rfl)) d_Receiver_endPiece_1 ⟨Nat.le_of_ble_eq_true rfl, Nat.le_of_ble_eq_true rfl⟩) (fun r1 e1 => ?_)
      subst e1
      refine lv_if_eq (tgt := 29) hx hb d_Receiver_endPiece_4 rfl (fun h4 => ?_) (fun h9 => absurd rfl h9)
      refine lv_aload_n hx hb d_Receiver_endPiece_29 rfl (lv_at hl 0 rfl) ?_
      refine lv_aload_n hx hb d_Receiver_endPiece_30 rfl (lv_at hl 1 rfl) ?_
      have hP : va_P D classes ([(rv, .inr (4, [.ref tp, .ref ln, .ref tb, .ref ca, .ref dp])), (ca, .inl (cI, 10, .inl cn)), (dp, .inl (cQ, 16, .inr (.inr (.inr (.inr dpf)))))] ++ (lzc cB (la, pid, nx, ct, tw, ck, wr, none, none) ++ (dpl dn ++ Q))) s.heap := hP
      have hD : va_D A ([(rv, .inr (4, [.ref tp, .ref ln, .ref tb, .ref ca, .ref dp])), (ca, .inl (cI, 10, .inl cn)), (dp, .inl (cQ, 16, .inr (.inr (.inr (.inr dpf)))))] ++ (lzc cB (la, pid, nx, ct, tw, ck, wr, none, none) ++ (dpl dn ++ Q))) := hD
      have hPc := hP.part (cx := [(rv, .inr (4, [.ref tp, .ref ln, .ref tb, .ref ca, .ref dp])), (ca, .inl (cI, 10, .inl cn))]) [0, 1] rfl
      have hKc := hK.sub (tys' := [(cB, .byte), (cI, .int)]) [0, 1] rfl
      have hDc := hD.part (cx := [(rv, .inr (4, [.ref tp, .ref ln, .ref tb, .ref ca, .ref dp])), (ca, .inl (cI, 10, .inl cn))]) [0, 1] (by decide) rfl
      have hFc := va_freeP (cx := [(rv, .inr (4, [.ref tp, .ref ln, .ref tb, .ref ca, .ref dp])), (ca, .inl (cI, 10, .inl cn))]) hD hS hA [0, 1] rfl
      refine va_callv (va_runV (As := [.ref la]) (rest := []) ⟨hx, hb, hml, hown, hts⟩ (c_Receiver_giveUp l D s.heap.size cB cI rv tp ln tb ca dp cn la pid nx ct tw ck wr none none (dpl dn ++ Q) (fun q hq => by cases hq)) (z_cV hN wd_289 wd_60 wd_286 hd_Receiver_giveUp rfl rfl ⟨Nat.le_of_ble_eq_true rfl, Nat.le_of_ble_eq_true rfl⟩ wd_288 wd_2) (z_preVm (va_recv (ci := 4) (q0 := 0) hK hP rfl rfl) hPc hKc hN hDc) rfl rfl hl.1 rfl (lv_room (Nat.le_of_ble_eq_true rfl)) d_Receiver_endPiece_31 ⟨Nat.le_of_ble_eq_true rfl, Nat.le_of_ble_eq_true rfl⟩) hS (fun q _ h => hFc q h) hFc (fun u31 t H locs ht hvm e31 hB hz1 hk1 hS => ?_)
      obtain ⟨hP1, hK1, hD1⟩ := hB
      rw [ht] at hP1
      obtain ⟨hP, hD⟩ := va_joinP (wr := [(dp, .inl (cQ, 16, .inr (.inr (.inr (.inr dpf)))))]) (rx := [(rv, .inr (4, [.ref tp, .ref ln, .ref tb, .ref ca, .ref dp])), (ca, .inl (cI, 10, .inl (guC cn none none)))]) hP hD [0, 1] [2] rfl rfl (by decide) (by decide) hk1 hFc hP1 hD1
      clear hk1 hP1 hD1 hFc hPc hDc hz1
      have hP : va_P D classes ([(dp, .inl (cQ, 16, .inr (.inr (.inr (.inr dpf))))), (rv, .inr (4, [.ref tp, .ref ln, .ref tb, .ref ca, .ref dp])), (ca, .inl (cI, 10, .inl (guC cn none none)))] ++ (lzc cB (la, pid, nx, ct, tw, ck, wr, guS none, guI none) ++ (dpl dn ++ Q))) H := hP
      have hD : va_D A ([(dp, .inl (cQ, 16, .inr (.inr (.inr (.inr dpf))))), (rv, .inr (4, [.ref tp, .ref ln, .ref tb, .ref ca, .ref dp])), (ca, .inl (cI, 10, .inl (guC cn none none)))] ++ (lzc cB (la, pid, nx, ct, tw, ck, wr, guS none, guI none) ++ (dpl dn ++ Q))) := hD
      have hP9 := hP.part (cx := [(rv, .inr (4, [.ref tp, .ref ln, .ref tb, .ref ca, .ref dp])), (ca, .inl (cI, 10, .inl (guC cn none none))), (dp, .inl (cQ, 16, .inr (.inr (.inr (.inr dpf)))))]) [1, 2, 0] rfl
      have hD9 := hD.part (cx := [(rv, .inr (4, [.ref tp, .ref ln, .ref tb, .ref ca, .ref dp])), (ca, .inl (cI, 10, .inl (guC cn none none))), (dp, .inl (cQ, 16, .inr (.inr (.inr (.inr dpf)))))]) [1, 2, 0] (by decide) rfl
      have hK9 := hK.sub (tys' := [(cB, .byte), (cI, .int), (cQ, .object "StreamSplitter$Piece")]) [0, 1, 2] rfl
      refine W.widen (k := 1) (n := 7) (by omega) (by omega) ?_
      exact W.vret hx hb hr (fun t ht hW => ⟨⟨(guC cn none none, guS none, guI none, dn, dpf), rfl, ⟨Or.inr ⟨fun ⟨q, e, _, _⟩ => (by cases e), rfl, rfl, rfl, rfl⟩, hdp⟩, ⟨by rw [ht]; exact hP9, va_K.moved hW.alike hK9, hD9⟩⟩, hS.F ht⟩) hS.2.2 d_Receiver_endPiece_34
    | some pq =>
      have hP : va_P D classes ([(rv, .inr (4, [.ref tp, .ref ln, .ref tb, .ref ca, .ref dp])), (ca, .inl (cI, 10, .inl cn)), (dp, .inl (cQ, 16, .inr (.inr (.inr (.inr dpf))))), (la, .inr (1, [.int (nI pid), va_rf nx, .int ct, .int tw, .long ck, .int wr, .null, .ref pq.1])), (pq.1, .inr (3, [.int pq.2.1, .int pq.2.2.1, .int pq.2.2.2.1, .long pq.2.2.2.2.1, .int pq.2.2.2.2.2.1, .int pq.2.2.2.2.2.2.1, .int pq.2.2.2.2.2.2.2]))] ++ (dpl dn ++ Q)) s.heap := hP
      have hD : va_D A ([(rv, .inr (4, [.ref tp, .ref ln, .ref tb, .ref ca, .ref dp])), (ca, .inl (cI, 10, .inl cn)), (dp, .inl (cQ, 16, .inr (.inr (.inr (.inr dpf))))), (la, .inr (1, [.int (nI pid), va_rf nx, .int ct, .int tw, .long ck, .int wr, .null, .ref pq.1])), (pq.1, .inr (3, [.int pq.2.1, .int pq.2.2.1, .int pq.2.2.2.1, .long pq.2.2.2.2.1, .int pq.2.2.2.2.2.1, .int pq.2.2.2.2.2.2.1, .int pq.2.2.2.2.2.2.2]))] ++ (dpl dn ++ Q)) := hD
      refine lv_aload_n hx hb d_Receiver_endPiece_0 rfl (lv_at hl 1 rfl) ?_
      have hPc := hP.sub (ws' := [(la, .inr (1, [.int (nI pid), va_rf nx, .int ct, .int tw, .long ck, .int wr, va_rf none, .ref pq.1])), (pq.1, .inr (3, [.int pq.2.1, .int pq.2.2.1, .int pq.2.2.2.1, .long pq.2.2.2.2.1, .int pq.2.2.2.2.2.1, .int pq.2.2.2.2.2.2.1, .int pq.2.2.2.2.2.2.2]))]) [3, 4] rfl
      have hKc := hK.sub (tys' := []) [] rfl
      refine z_ci (va_runV (As := []) (rest := []) ⟨hx, hb, hml, hown, hts⟩ (c_Lane_gathersPiece1 l D la pq.1 nx none (nI pid) ct tw wr ck pq.2.1 pq.2.2.1 pq.2.2.2.1 pq.2.2.2.2.2.1 pq.2.2.2.2.2.2.1 pq.2.2.2.2.2.2.2 pq.2.2.2.2.1 ) (z_cV hN wd_297 wd_74 wd_294 hd_Lane_gathersPiece rfl rfl ⟨Nat.le_of_ble_eq_true rfl, Nat.le_of_ble_eq_true rfl⟩ wd_295 wd_296) (z_preV (va_recv (ci := 1) (q0 := 3) hK hP rfl rfl) hPc hKc hN) rfl rfl hl.1 rfl (lv_room (Nat.le_of_ble_eq_true rfl)) d_Receiver_endPiece_1 ⟨Nat.le_of_ble_eq_true rfl, Nat.le_of_ble_eq_true rfl⟩) (fun r1 e1 => ?_)
      refine z_topi (w := if pq.2.1 = 0 then 0 else 1) e1 ?_
      refine lv_if_eq (tgt := 29) hx hb d_Receiver_endPiece_4 rfl (fun h4 => ?_) (fun h4 => ?_)
      · have h4 := gp_0 h4
        have hnd : ¬ pieD (some pq) := fun ⟨q, e, h1, h2⟩ => by cases e; exact h1 h4
        refine lv_aload_n hx hb d_Receiver_endPiece_29 rfl (lv_at hl 0 rfl) ?_
        refine lv_aload_n hx hb d_Receiver_endPiece_30 rfl (lv_at hl 1 rfl) ?_
        have hP : va_P D classes ([(rv, .inr (4, [.ref tp, .ref ln, .ref tb, .ref ca, .ref dp])), (ca, .inl (cI, 10, .inl cn)), (dp, .inl (cQ, 16, .inr (.inr (.inr (.inr dpf)))))] ++ (lzc cB (la, pid, nx, ct, tw, ck, wr, none, (some pq)) ++ (dpl dn ++ Q))) s.heap := hP
        have hD : va_D A ([(rv, .inr (4, [.ref tp, .ref ln, .ref tb, .ref ca, .ref dp])), (ca, .inl (cI, 10, .inl cn)), (dp, .inl (cQ, 16, .inr (.inr (.inr (.inr dpf)))))] ++ (lzc cB (la, pid, nx, ct, tw, ck, wr, none, (some pq)) ++ (dpl dn ++ Q))) := hD
        have hPc := hP.part (cx := [(rv, .inr (4, [.ref tp, .ref ln, .ref tb, .ref ca, .ref dp])), (ca, .inl (cI, 10, .inl cn))]) [0, 1] rfl
        have hKc := hK.sub (tys' := [(cB, .byte), (cI, .int)]) [0, 1] rfl
        have hDc := hD.part (cx := [(rv, .inr (4, [.ref tp, .ref ln, .ref tb, .ref ca, .ref dp])), (ca, .inl (cI, 10, .inl cn))]) [0, 1] (by decide) rfl
        have hFc := va_freeP (cx := [(rv, .inr (4, [.ref tp, .ref ln, .ref tb, .ref ca, .ref dp])), (ca, .inl (cI, 10, .inl cn))]) hD hS hA [0, 1] rfl
        refine va_callv (va_runV (As := [.ref la]) (rest := []) ⟨hx, hb, hml, hown, hts⟩ (c_Receiver_giveUp l D s.heap.size cB cI rv tp ln tb ca dp cn la pid nx ct tw ck wr none (some pq) (dpl dn ++ Q) (fun q hq => by cases hq)) (z_cV hN wd_289 wd_60 wd_286 hd_Receiver_giveUp rfl rfl ⟨Nat.le_of_ble_eq_true rfl, Nat.le_of_ble_eq_true rfl⟩ wd_288 wd_2) (z_preVm (va_recv (ci := 4) (q0 := 0) hK hP rfl rfl) hPc hKc hN hDc) rfl rfl hl.1 rfl (lv_room (Nat.le_of_ble_eq_true rfl)) d_Receiver_endPiece_31 ⟨Nat.le_of_ble_eq_true rfl, Nat.le_of_ble_eq_true rfl⟩) hS (fun q _ h => hFc q h) hFc (fun u31 t H locs ht hvm e31 hB hz1 hk1 hS => ?_)
        obtain ⟨hP1, hK1, hD1⟩ := hB
        rw [ht] at hP1
        obtain ⟨hP, hD⟩ := va_joinP (wr := [(dp, .inl (cQ, 16, .inr (.inr (.inr (.inr dpf)))))]) (rx := [(rv, .inr (4, [.ref tp, .ref ln, .ref tb, .ref ca, .ref dp])), (ca, .inl (cI, 10, .inl (guC cn none (some pq))))]) hP hD [0, 1] [2] rfl rfl (by decide) (by decide) hk1 hFc hP1 hD1
        clear hk1 hP1 hD1 hFc hPc hDc hz1
        have hP : va_P D classes ([(dp, .inl (cQ, 16, .inr (.inr (.inr (.inr dpf))))), (rv, .inr (4, [.ref tp, .ref ln, .ref tb, .ref ca, .ref dp])), (ca, .inl (cI, 10, .inl (guC cn none (some pq))))] ++ (lzc cB (la, pid, nx, ct, tw, ck, wr, guS none, guI (some pq)) ++ (dpl dn ++ Q))) H := hP
        have hD : va_D A ([(dp, .inl (cQ, 16, .inr (.inr (.inr (.inr dpf))))), (rv, .inr (4, [.ref tp, .ref ln, .ref tb, .ref ca, .ref dp])), (ca, .inl (cI, 10, .inl (guC cn none (some pq))))] ++ (lzc cB (la, pid, nx, ct, tw, ck, wr, guS none, guI (some pq)) ++ (dpl dn ++ Q))) := hD
        have hP9 := hP.part (cx := [(rv, .inr (4, [.ref tp, .ref ln, .ref tb, .ref ca, .ref dp])), (ca, .inl (cI, 10, .inl (guC cn none (some pq)))), (dp, .inl (cQ, 16, .inr (.inr (.inr (.inr dpf)))))]) [1, 2, 0] rfl
        have hD9 := hD.part (cx := [(rv, .inr (4, [.ref tp, .ref ln, .ref tb, .ref ca, .ref dp])), (ca, .inl (cI, 10, .inl (guC cn none (some pq)))), (dp, .inl (cQ, 16, .inr (.inr (.inr (.inr dpf)))))]) [1, 2, 0] (by decide) rfl
        have hK9 := hK.sub (tys' := [(cB, .byte), (cI, .int), (cQ, .object "StreamSplitter$Piece")]) [0, 1, 2] rfl
        refine W.widen (k := 1) (n := 7) (by omega) (by omega) ?_
        exact W.vret hx hb hr (fun t ht hW => ⟨⟨(guC cn none (some pq), guS none, guI (some pq), dn, dpf), rfl, ⟨Or.inr ⟨hnd, rfl, rfl, rfl, rfl⟩, hdp⟩, ⟨by rw [ht]; exact hP9, va_K.moved hW.alike hK9, hD9⟩⟩, hS.F ht⟩) hS.2.2 d_Receiver_endPiece_34
      · have h4 := gp_1 h4
        refine lv_aload_n hx hb d_Receiver_endPiece_7 rfl (lv_at hl 1 rfl) ?_
        refine va_getN (D := D) (ci := 1) (v := .ref pq.1) (C := R_Lane) (T := F_Lane) (N := 8) hx hb hts i_Lane hown hK hP 3 rfl rfl 7 (by decide) (hts _ wd_258) (fun _ h9 => h9) rfl d_Receiver_endPiece_8 ?_
        refine va_getN (D := D) (ci := 3) (v := .int pq.2.2.2.2.2.2.2) (C := R_Piece) (T := F_Piece) (N := 7) hx hb hts i_Piece hown hK hP 4 rfl rfl 6 (by decide) (hts _ wd_371) (fun _ h9 => h9) rfl d_Receiver_endPiece_11 ?_
        refine lv_iconst (v := (-1)) hx hb d_Receiver_endPiece_14 (by decide) ?_
        refine lv_icmp_ne (tgt := 29) hx hb d_Receiver_endPiece_15 rfl (fun h15 => ?_) (fun h15 => ?_)
        · have hnd : ¬ pieD (some pq) := fun ⟨q, e, h1, h2⟩ => by cases e; exact h15 h2
          refine lv_aload_n hx hb d_Receiver_endPiece_29 rfl (lv_at hl 0 rfl) ?_
          refine lv_aload_n hx hb d_Receiver_endPiece_30 rfl (lv_at hl 1 rfl) ?_
          have hP : va_P D classes ([(rv, .inr (4, [.ref tp, .ref ln, .ref tb, .ref ca, .ref dp])), (ca, .inl (cI, 10, .inl cn)), (dp, .inl (cQ, 16, .inr (.inr (.inr (.inr dpf)))))] ++ (lzc cB (la, pid, nx, ct, tw, ck, wr, none, (some pq)) ++ (dpl dn ++ Q))) s.heap := hP
          have hD : va_D A ([(rv, .inr (4, [.ref tp, .ref ln, .ref tb, .ref ca, .ref dp])), (ca, .inl (cI, 10, .inl cn)), (dp, .inl (cQ, 16, .inr (.inr (.inr (.inr dpf)))))] ++ (lzc cB (la, pid, nx, ct, tw, ck, wr, none, (some pq)) ++ (dpl dn ++ Q))) := hD
          have hPc := hP.part (cx := [(rv, .inr (4, [.ref tp, .ref ln, .ref tb, .ref ca, .ref dp])), (ca, .inl (cI, 10, .inl cn))]) [0, 1] rfl
          have hKc := hK.sub (tys' := [(cB, .byte), (cI, .int)]) [0, 1] rfl
          have hDc := hD.part (cx := [(rv, .inr (4, [.ref tp, .ref ln, .ref tb, .ref ca, .ref dp])), (ca, .inl (cI, 10, .inl cn))]) [0, 1] (by decide) rfl
          have hFc := va_freeP (cx := [(rv, .inr (4, [.ref tp, .ref ln, .ref tb, .ref ca, .ref dp])), (ca, .inl (cI, 10, .inl cn))]) hD hS hA [0, 1] rfl
          refine va_callv (va_runV (As := [.ref la]) (rest := []) ⟨hx, hb, hml, hown, hts⟩ (c_Receiver_giveUp l D s.heap.size cB cI rv tp ln tb ca dp cn la pid nx ct tw ck wr none (some pq) (dpl dn ++ Q) (fun q hq => by cases hq)) (z_cV hN wd_289 wd_60 wd_286 hd_Receiver_giveUp rfl rfl ⟨Nat.le_of_ble_eq_true rfl, Nat.le_of_ble_eq_true rfl⟩ wd_288 wd_2) (z_preVm (va_recv (ci := 4) (q0 := 0) hK hP rfl rfl) hPc hKc hN hDc) rfl rfl hl.1 rfl (lv_room (Nat.le_of_ble_eq_true rfl)) d_Receiver_endPiece_31 ⟨Nat.le_of_ble_eq_true rfl, Nat.le_of_ble_eq_true rfl⟩) hS (fun q _ h => hFc q h) hFc (fun u31 t H locs ht hvm e31 hB hz1 hk1 hS => ?_)
          obtain ⟨hP1, hK1, hD1⟩ := hB
          rw [ht] at hP1
          obtain ⟨hP, hD⟩ := va_joinP (wr := [(dp, .inl (cQ, 16, .inr (.inr (.inr (.inr dpf)))))]) (rx := [(rv, .inr (4, [.ref tp, .ref ln, .ref tb, .ref ca, .ref dp])), (ca, .inl (cI, 10, .inl (guC cn none (some pq))))]) hP hD [0, 1] [2] rfl rfl (by decide) (by decide) hk1 hFc hP1 hD1
          clear hk1 hP1 hD1 hFc hPc hDc hz1
          have hP : va_P D classes ([(dp, .inl (cQ, 16, .inr (.inr (.inr (.inr dpf))))), (rv, .inr (4, [.ref tp, .ref ln, .ref tb, .ref ca, .ref dp])), (ca, .inl (cI, 10, .inl (guC cn none (some pq))))] ++ (lzc cB (la, pid, nx, ct, tw, ck, wr, guS none, guI (some pq)) ++ (dpl dn ++ Q))) H := hP
          have hD : va_D A ([(dp, .inl (cQ, 16, .inr (.inr (.inr (.inr dpf))))), (rv, .inr (4, [.ref tp, .ref ln, .ref tb, .ref ca, .ref dp])), (ca, .inl (cI, 10, .inl (guC cn none (some pq))))] ++ (lzc cB (la, pid, nx, ct, tw, ck, wr, guS none, guI (some pq)) ++ (dpl dn ++ Q))) := hD
          have hP9 := hP.part (cx := [(rv, .inr (4, [.ref tp, .ref ln, .ref tb, .ref ca, .ref dp])), (ca, .inl (cI, 10, .inl (guC cn none (some pq)))), (dp, .inl (cQ, 16, .inr (.inr (.inr (.inr dpf)))))]) [1, 2, 0] rfl
          have hD9 := hD.part (cx := [(rv, .inr (4, [.ref tp, .ref ln, .ref tb, .ref ca, .ref dp])), (ca, .inl (cI, 10, .inl (guC cn none (some pq)))), (dp, .inl (cQ, 16, .inr (.inr (.inr (.inr dpf)))))]) [1, 2, 0] (by decide) rfl
          have hK9 := hK.sub (tys' := [(cB, .byte), (cI, .int), (cQ, .object "StreamSplitter$Piece")]) [0, 1, 2] rfl
          refine W.widen (k := 1) (n := 7) (by omega) (by omega) ?_
          exact W.vret hx hb hr (fun t ht hW => ⟨⟨(guC cn none (some pq), guS none, guI (some pq), dn, dpf), rfl, ⟨Or.inr ⟨hnd, rfl, rfl, rfl, rfl⟩, hdp⟩, ⟨by rw [ht]; exact hP9, va_K.moved hW.alike hK9, hD9⟩⟩, hS.F ht⟩) hS.2.2 d_Receiver_endPiece_34
        · have h15 : pq.2.2.2.2.2.2.2 = -1 := by first | exact h15 | exact Classical.not_not.mp h15
          refine lv_aload_n hx hb d_Receiver_endPiece_18 rfl (lv_at hl 0 rfl) ?_
          refine lv_aload_n hx hb d_Receiver_endPiece_19 rfl (lv_at hl 1 rfl) ?_
          refine va_getN (D := D) (ci := 1) (v := .ref pq.1) (C := R_Lane) (T := F_Lane) (N := 8) hx hb hts i_Lane hown hK hP 3 rfl rfl 7 (by decide) (hts _ wd_258) (fun _ h9 => h9) rfl d_Receiver_endPiece_20 ?_
          have hPc := hP.part (cx := [(rv, .inr (4, [.ref tp, .ref ln, .ref tb, .ref ca, .ref dp])), (ca, .inl (cI, 10, .inl cn)), (dp, .inl (cQ, 16, .inr (.inr (.inr (.inr dpf))))), (pq.1, .inr (3, [.int pq.2.1, .int pq.2.2.1, .int pq.2.2.2.1, .long pq.2.2.2.2.1, .int pq.2.2.2.2.2.1, .int pq.2.2.2.2.2.2.1, .int pq.2.2.2.2.2.2.2]))]) [0, 1, 2, 4] rfl
          have hKc := hK.sub (tys' := [(cI, .int), (cQ, .object "StreamSplitter$Piece")]) [1, 2] rfl
          have hDc := hD.part (cx := [(rv, .inr (4, [.ref tp, .ref ln, .ref tb, .ref ca, .ref dp])), (ca, .inl (cI, 10, .inl cn)), (dp, .inl (cQ, 16, .inr (.inr (.inr (.inr dpf))))), (pq.1, .inr (3, [.int pq.2.1, .int pq.2.2.1, .int pq.2.2.2.1, .long pq.2.2.2.2.1, .int pq.2.2.2.2.2.1, .int pq.2.2.2.2.2.2.1, .int pq.2.2.2.2.2.2.2]))]) [0, 1, 2, 4] (by decide) rfl
          have hFc := va_freeP (cx := [(rv, .inr (4, [.ref tp, .ref ln, .ref tb, .ref ca, .ref dp])), (ca, .inl (cI, 10, .inl cn)), (dp, .inl (cQ, 16, .inr (.inr (.inr (.inr dpf))))), (pq.1, .inr (3, [.int pq.2.1, .int pq.2.2.1, .int pq.2.2.2.1, .long pq.2.2.2.2.1, .int pq.2.2.2.2.2.1, .int pq.2.2.2.2.2.2.1, .int pq.2.2.2.2.2.2.2]))]) hD hS hA [0, 1, 2, 4] rfl
          refine va_callv (va_runV (As := [.ref pq.1]) (rest := []) ⟨hx, hb, hml, hown, hts⟩ (c_Receiver_keepDone l D s.heap.size cI cQ rv tp ln tb ca dp cn dpf dn pq.1 pq.2.1 pq.2.2.1 pq.2.2.2.1 pq.2.2.2.2.2.1 pq.2.2.2.2.2.2.1 pq.2.2.2.2.2.2.2 pq.2.2.2.2.1 Q hdp) (z_cV hN wd_351 wd_60 wd_348 hd_Receiver_keepDone rfl rfl ⟨Nat.le_of_ble_eq_true rfl, Nat.le_of_ble_eq_true rfl⟩ wd_350 wd_7) (z_preVm (va_recv (ci := 4) (q0 := 0) hK hP rfl rfl) hPc hKc hN hDc) rfl rfl hl.1 rfl (lv_room (Nat.le_of_ble_eq_true rfl)) d_Receiver_endPiece_23 ⟨Nat.le_of_ble_eq_true rfl, Nat.le_of_ble_eq_true rfl⟩) hS (fun q _ h => hFc q h) hFc (fun k9 t H locs ht hvm e23 hB hz1 hk1 hS => ?_)
          obtain ⟨hP1, hK1, hD1⟩ := hB
          rw [ht] at hP1
          obtain ⟨hP, hD⟩ := va_joinP (wr := [(la, .inr (1, [.int (nI pid), va_rf nx, .int ct, .int tw, .long ck, .int wr, .null, .ref pq.1]))]) (rx := [(rv, .inr (4, [.ref tp, .ref ln, .ref tb, .ref ca, .ref dp])), (ca, .inl (cI, 10, .inl (cup cn 9))), (dp, .inl (cQ, 16, .inr (.inr (.inr (.inr k9.2))))), (pq.1, .inr (3, [.int 0, .int pq.2.2.1, .int pq.2.2.2.1, .long pq.2.2.2.2.1, .int pq.2.2.2.2.2.1, .int pq.2.2.2.2.2.2.1, .int pq.2.2.2.2.2.2.2]))]) hP hD [0, 1, 2, 4] [3] rfl rfl (by decide) (by decide) hk1 hFc hP1 hD1
          clear hk1 hP1 hD1 hFc hPc hDc hz1
          have hP : va_P D classes ([(la, .inr (1, [.int (nI pid), va_rf nx, .int ct, .int tw, .long ck, .int wr, .null, .ref pq.1])), (rv, .inr (4, [.ref tp, .ref ln, .ref tb, .ref ca, .ref dp])), (ca, .inl (cI, 10, .inl (cup cn 9))), (dp, .inl (cQ, 16, .inr (.inr (.inr (.inr k9.2))))), (pq.1, .inr (3, [.int 0, .int pq.2.2.1, .int pq.2.2.2.1, .long pq.2.2.2.2.1, .int pq.2.2.2.2.2.1, .int pq.2.2.2.2.2.2.1, .int pq.2.2.2.2.2.2.2]))] ++ (dpl (va_up dn (kdI (cn 9)) (some k9.1)) ++ Q)) H := hP
          have hD : va_D A ([(la, .inr (1, [.int (nI pid), va_rf nx, .int ct, .int tw, .long ck, .int wr, .null, .ref pq.1])), (rv, .inr (4, [.ref tp, .ref ln, .ref tb, .ref ca, .ref dp])), (ca, .inl (cI, 10, .inl (cup cn 9))), (dp, .inl (cQ, 16, .inr (.inr (.inr (.inr k9.2))))), (pq.1, .inr (3, [.int 0, .int pq.2.2.1, .int pq.2.2.2.1, .long pq.2.2.2.2.1, .int pq.2.2.2.2.2.1, .int pq.2.2.2.2.2.2.1, .int pq.2.2.2.2.2.2.2]))] ++ (dpl (va_up dn (kdI (cn 9)) (some k9.1)) ++ Q)) := hD
          refine lv_goto (tgt := 34) hx hb d_Receiver_endPiece_26 rfl ?_
          have hP := hP.part (cx := [(rv, .inr (4, [.ref tp, .ref ln, .ref tb, .ref ca, .ref dp])), (ca, .inl (cI, 10, .inl (cup cn 9))), (dp, .inl (cQ, 16, .inr (.inr (.inr (.inr k9.2))))), (la, .inr (1, [.int (nI pid), va_rf nx, .int ct, .int tw, .long ck, .int wr, .null, .ref pq.1])), (pq.1, .inr (3, [.int 0, .int pq.2.2.1, .int pq.2.2.2.1, .long pq.2.2.2.2.1, .int pq.2.2.2.2.2.1, .int pq.2.2.2.2.2.2.1, .int pq.2.2.2.2.2.2.2]))]) [1, 2, 3, 0, 4] rfl
          have hD := hD.part (cx := [(rv, .inr (4, [.ref tp, .ref ln, .ref tb, .ref ca, .ref dp])), (ca, .inl (cI, 10, .inl (cup cn 9))), (dp, .inl (cQ, 16, .inr (.inr (.inr (.inr k9.2))))), (la, .inr (1, [.int (nI pid), va_rf nx, .int ct, .int tw, .long ck, .int wr, .null, .ref pq.1])), (pq.1, .inr (3, [.int 0, .int pq.2.2.1, .int pq.2.2.2.1, .long pq.2.2.2.2.1, .int pq.2.2.2.2.2.1, .int pq.2.2.2.2.2.2.1, .int pq.2.2.2.2.2.2.2]))]) [1, 2, 3, 0, 4] (by decide) rfl
          have hP : va_P D classes ([(rv, .inr (4, [.ref tp, .ref ln, .ref tb, .ref ca, .ref dp])), (ca, .inl (cI, 10, .inl (cup cn 9))), (dp, .inl (cQ, 16, .inr (.inr (.inr (.inr k9.2)))))] ++ (lzc cB (la, pid, nx, ct, tw, ck, wr, none, (guI (some pq))) ++ (dpl (va_up dn (kdI (cn 9)) (some k9.1)) ++ Q))) H := hP
          have hD : va_D A ([(rv, .inr (4, [.ref tp, .ref ln, .ref tb, .ref ca, .ref dp])), (ca, .inl (cI, 10, .inl (cup cn 9))), (dp, .inl (cQ, 16, .inr (.inr (.inr (.inr k9.2)))))] ++ (lzc cB (la, pid, nx, ct, tw, ck, wr, none, (guI (some pq))) ++ (dpl (va_up dn (kdI (cn 9)) (some k9.1)) ++ Q))) := hD
          have hP9 := hP.part (cx := [(rv, .inr (4, [.ref tp, .ref ln, .ref tb, .ref ca, .ref dp])), (ca, .inl (cI, 10, .inl (cup cn 9))), (dp, .inl (cQ, 16, .inr (.inr (.inr (.inr k9.2)))))]) [0, 1, 2] rfl
          have hD9 := hD.part (cx := [(rv, .inr (4, [.ref tp, .ref ln, .ref tb, .ref ca, .ref dp])), (ca, .inl (cI, 10, .inl (cup cn 9))), (dp, .inl (cQ, 16, .inr (.inr (.inr (.inr k9.2)))))]) [0, 1, 2] (by decide) rfl
          have hK9 := hK.sub (tys' := [(cB, .byte), (cI, .int), (cQ, .object "StreamSplitter$Piece")]) [0, 1, 2] rfl
          refine W.widen (k := 1) (n := 7) (by omega) (by omega) ?_
          exact W.vret hx hb hr (fun t ht hW => ⟨⟨(cup cn 9, none, guI (some pq), (va_up dn (kdI (cn 9)) (some k9.1)), k9.2), rfl, ⟨Or.inl ⟨pq, k9.1, rfl, h4, h15, e23.1, rfl, rfl, rfl, rfl⟩, e23.2⟩, ⟨by rw [ht]; exact hP9, va_K.moved hW.alike hK9, hD9⟩⟩, hS.F ht⟩) hS.2.2 d_Receiver_endPiece_34
  | some sq =>
    cases pi with
    | none =>
      have hP : va_P D classes ([(rv, .inr (4, [.ref tp, .ref ln, .ref tb, .ref ca, .ref dp])), (ca, .inl (cI, 10, .inl cn)), (dp, .inl (cQ, 16, .inr (.inr (.inr (.inr dpf))))), (la, .inr (1, [.int (nI pid), va_rf nx, .int ct, .int tw, .long ck, .int wr, .ref sq.1, .null])), (sq.1, .inr (0, [.ref sq.2.1, .int (nI sq.2.2.1)])), (sq.2.1, .inl (cB, 1024, .inl sq.2.2.2))] ++ (dpl dn ++ Q)) s.heap := hP
      have hD : va_D A ([(rv, .inr (4, [.ref tp, .ref ln, .ref tb, .ref ca, .ref dp])), (ca, .inl (cI, 10, .inl cn)), (dp, .inl (cQ, 16, .inr (.inr (.inr (.inr dpf))))), (la, .inr (1, [.int (nI pid), va_rf nx, .int ct, .int tw, .long ck, .int wr, .ref sq.1, .null])), (sq.1, .inr (0, [.ref sq.2.1, .int (nI sq.2.2.1)])), (sq.2.1, .inl (cB, 1024, .inl sq.2.2.2))] ++ (dpl dn ++ Q)) := hD
      have hsn := hse _ rfl
      refine lv_aload_n hx hb d_Receiver_endPiece_0 rfl (lv_at hl 1 rfl) ?_
      have hPc := hP.sub (ws' := [(la, .inr (1, [.int (nI pid), va_rf nx, .int ct, .int tw, .long ck, .int wr, va_rf (some sq.1), .null]))]) [3] rfl
      have hKc := hK.sub (tys' := []) [] rfl
      refine z_ci (va_runV (As := []) (rest := []) ⟨hx, hb, hml, hown, hts⟩ (c_Lane_gathersPiece0 l D la nx (some sq.1) (nI pid) ct tw wr ck ) (z_cV hN wd_297 wd_74 wd_294 hd_Lane_gathersPiece rfl rfl ⟨Nat.le_of_ble_eq_true rfl, Nat.le_of_ble_eq_true rfl⟩ wd_295 wd_296) (z_preV (va_recv (ci := 1) (q0 := 3) hK hP rfl rfl) hPc hKc hN) rfl rfl hl.1 rfl (lv_room (Nat.le_of_ble_eq_true rfl)) d_Receiver_endPiece_1 ⟨Nat.le_of_ble_eq_true rfl, Nat.le_of_ble_eq_true rfl⟩) (fun r1 e1 => ?_)
      subst e1
      refine lv_if_eq (tgt := 29) hx hb d_Receiver_endPiece_4 rfl (fun h4 => ?_) (fun h9 => absurd rfl h9)
      refine lv_aload_n hx hb d_Receiver_endPiece_29 rfl (lv_at hl 0 rfl) ?_
      refine lv_aload_n hx hb d_Receiver_endPiece_30 rfl (lv_at hl 1 rfl) ?_
      have hP : va_P D classes ([(rv, .inr (4, [.ref tp, .ref ln, .ref tb, .ref ca, .ref dp])), (ca, .inl (cI, 10, .inl cn)), (dp, .inl (cQ, 16, .inr (.inr (.inr (.inr dpf)))))] ++ (lzc cB (la, pid, nx, ct, tw, ck, wr, (some sq), none) ++ (dpl dn ++ Q))) s.heap := hP
      have hD : va_D A ([(rv, .inr (4, [.ref tp, .ref ln, .ref tb, .ref ca, .ref dp])), (ca, .inl (cI, 10, .inl cn)), (dp, .inl (cQ, 16, .inr (.inr (.inr (.inr dpf)))))] ++ (lzc cB (la, pid, nx, ct, tw, ck, wr, (some sq), none) ++ (dpl dn ++ Q))) := hD
      have hPc := hP.part (cx := [(rv, .inr (4, [.ref tp, .ref ln, .ref tb, .ref ca, .ref dp])), (ca, .inl (cI, 10, .inl cn))]) [0, 1] rfl
      have hKc := hK.sub (tys' := [(cB, .byte), (cI, .int)]) [0, 1] rfl
      have hDc := hD.part (cx := [(rv, .inr (4, [.ref tp, .ref ln, .ref tb, .ref ca, .ref dp])), (ca, .inl (cI, 10, .inl cn))]) [0, 1] (by decide) rfl
      have hFc := va_freeP (cx := [(rv, .inr (4, [.ref tp, .ref ln, .ref tb, .ref ca, .ref dp])), (ca, .inl (cI, 10, .inl cn))]) hD hS hA [0, 1] rfl
      refine va_callv (va_runV (As := [.ref la]) (rest := []) ⟨hx, hb, hml, hown, hts⟩ (c_Receiver_giveUp l D s.heap.size cB cI rv tp ln tb ca dp cn la pid nx ct tw ck wr (some sq) none (dpl dn ++ Q) (fun q hq => by cases hq; exact hsn)) (z_cV hN wd_289 wd_60 wd_286 hd_Receiver_giveUp rfl rfl ⟨Nat.le_of_ble_eq_true rfl, Nat.le_of_ble_eq_true rfl⟩ wd_288 wd_2) (z_preVm (va_recv (ci := 4) (q0 := 0) hK hP rfl rfl) hPc hKc hN hDc) rfl rfl hl.1 rfl (lv_room (Nat.le_of_ble_eq_true rfl)) d_Receiver_endPiece_31 ⟨Nat.le_of_ble_eq_true rfl, Nat.le_of_ble_eq_true rfl⟩) hS (fun q _ h => hFc q h) hFc (fun u31 t H locs ht hvm e31 hB hz1 hk1 hS => ?_)
      obtain ⟨hP1, hK1, hD1⟩ := hB
      rw [ht] at hP1
      obtain ⟨hP, hD⟩ := va_joinP (wr := [(dp, .inl (cQ, 16, .inr (.inr (.inr (.inr dpf)))))]) (rx := [(rv, .inr (4, [.ref tp, .ref ln, .ref tb, .ref ca, .ref dp])), (ca, .inl (cI, 10, .inl (guC cn (some sq) none)))]) hP hD [0, 1] [2] rfl rfl (by decide) (by decide) hk1 hFc hP1 hD1
      clear hk1 hP1 hD1 hFc hPc hDc hz1
      have hP : va_P D classes ([(dp, .inl (cQ, 16, .inr (.inr (.inr (.inr dpf))))), (rv, .inr (4, [.ref tp, .ref ln, .ref tb, .ref ca, .ref dp])), (ca, .inl (cI, 10, .inl (guC cn (some sq) none)))] ++ (lzc cB (la, pid, nx, ct, tw, ck, wr, guS (some sq), guI none) ++ (dpl dn ++ Q))) H := hP
      have hD : va_D A ([(dp, .inl (cQ, 16, .inr (.inr (.inr (.inr dpf))))), (rv, .inr (4, [.ref tp, .ref ln, .ref tb, .ref ca, .ref dp])), (ca, .inl (cI, 10, .inl (guC cn (some sq) none)))] ++ (lzc cB (la, pid, nx, ct, tw, ck, wr, guS (some sq), guI none) ++ (dpl dn ++ Q))) := hD
      have hP9 := hP.part (cx := [(rv, .inr (4, [.ref tp, .ref ln, .ref tb, .ref ca, .ref dp])), (ca, .inl (cI, 10, .inl (guC cn (some sq) none))), (dp, .inl (cQ, 16, .inr (.inr (.inr (.inr dpf)))))]) [1, 2, 0] rfl
      have hD9 := hD.part (cx := [(rv, .inr (4, [.ref tp, .ref ln, .ref tb, .ref ca, .ref dp])), (ca, .inl (cI, 10, .inl (guC cn (some sq) none))), (dp, .inl (cQ, 16, .inr (.inr (.inr (.inr dpf)))))]) [1, 2, 0] (by decide) rfl
      have hK9 := hK.sub (tys' := [(cB, .byte), (cI, .int), (cQ, .object "StreamSplitter$Piece")]) [0, 1, 2] rfl
      refine W.widen (k := 1) (n := 7) (by omega) (by omega) ?_
      exact W.vret hx hb hr (fun t ht hW => ⟨⟨(guC cn (some sq) none, guS (some sq), guI none, dn, dpf), rfl, ⟨Or.inr ⟨fun ⟨q, e, _, _⟩ => (by cases e), rfl, rfl, rfl, rfl⟩, hdp⟩, ⟨by rw [ht]; exact hP9, va_K.moved hW.alike hK9, hD9⟩⟩, hS.F ht⟩) hS.2.2 d_Receiver_endPiece_34
    | some pq =>
      have hP : va_P D classes ([(rv, .inr (4, [.ref tp, .ref ln, .ref tb, .ref ca, .ref dp])), (ca, .inl (cI, 10, .inl cn)), (dp, .inl (cQ, 16, .inr (.inr (.inr (.inr dpf))))), (la, .inr (1, [.int (nI pid), va_rf nx, .int ct, .int tw, .long ck, .int wr, .ref sq.1, .ref pq.1])), (sq.1, .inr (0, [.ref sq.2.1, .int (nI sq.2.2.1)])), (sq.2.1, .inl (cB, 1024, .inl sq.2.2.2)), (pq.1, .inr (3, [.int pq.2.1, .int pq.2.2.1, .int pq.2.2.2.1, .long pq.2.2.2.2.1, .int pq.2.2.2.2.2.1, .int pq.2.2.2.2.2.2.1, .int pq.2.2.2.2.2.2.2]))] ++ (dpl dn ++ Q)) s.heap := hP
      have hD : va_D A ([(rv, .inr (4, [.ref tp, .ref ln, .ref tb, .ref ca, .ref dp])), (ca, .inl (cI, 10, .inl cn)), (dp, .inl (cQ, 16, .inr (.inr (.inr (.inr dpf))))), (la, .inr (1, [.int (nI pid), va_rf nx, .int ct, .int tw, .long ck, .int wr, .ref sq.1, .ref pq.1])), (sq.1, .inr (0, [.ref sq.2.1, .int (nI sq.2.2.1)])), (sq.2.1, .inl (cB, 1024, .inl sq.2.2.2)), (pq.1, .inr (3, [.int pq.2.1, .int pq.2.2.1, .int pq.2.2.2.1, .long pq.2.2.2.2.1, .int pq.2.2.2.2.2.1, .int pq.2.2.2.2.2.2.1, .int pq.2.2.2.2.2.2.2]))] ++ (dpl dn ++ Q)) := hD
      have hsn := hse _ rfl
      refine lv_aload_n hx hb d_Receiver_endPiece_0 rfl (lv_at hl 1 rfl) ?_
      have hPc := hP.sub (ws' := [(la, .inr (1, [.int (nI pid), va_rf nx, .int ct, .int tw, .long ck, .int wr, va_rf (some sq.1), .ref pq.1])), (pq.1, .inr (3, [.int pq.2.1, .int pq.2.2.1, .int pq.2.2.2.1, .long pq.2.2.2.2.1, .int pq.2.2.2.2.2.1, .int pq.2.2.2.2.2.2.1, .int pq.2.2.2.2.2.2.2]))]) [3, 6] rfl
      have hKc := hK.sub (tys' := []) [] rfl
      refine z_ci (va_runV (As := []) (rest := []) ⟨hx, hb, hml, hown, hts⟩ (c_Lane_gathersPiece1 l D la pq.1 nx (some sq.1) (nI pid) ct tw wr ck pq.2.1 pq.2.2.1 pq.2.2.2.1 pq.2.2.2.2.2.1 pq.2.2.2.2.2.2.1 pq.2.2.2.2.2.2.2 pq.2.2.2.2.1 ) (z_cV hN wd_297 wd_74 wd_294 hd_Lane_gathersPiece rfl rfl ⟨Nat.le_of_ble_eq_true rfl, Nat.le_of_ble_eq_true rfl⟩ wd_295 wd_296) (z_preV (va_recv (ci := 1) (q0 := 3) hK hP rfl rfl) hPc hKc hN) rfl rfl hl.1 rfl (lv_room (Nat.le_of_ble_eq_true rfl)) d_Receiver_endPiece_1 ⟨Nat.le_of_ble_eq_true rfl, Nat.le_of_ble_eq_true rfl⟩) (fun r1 e1 => ?_)
      refine z_topi (w := if pq.2.1 = 0 then 0 else 1) e1 ?_
      refine lv_if_eq (tgt := 29) hx hb d_Receiver_endPiece_4 rfl (fun h4 => ?_) (fun h4 => ?_)
      · have h4 := gp_0 h4
        have hnd : ¬ pieD (some pq) := fun ⟨q, e, h1, h2⟩ => by cases e; exact h1 h4
        refine lv_aload_n hx hb d_Receiver_endPiece_29 rfl (lv_at hl 0 rfl) ?_
        refine lv_aload_n hx hb d_Receiver_endPiece_30 rfl (lv_at hl 1 rfl) ?_
        have hP : va_P D classes ([(rv, .inr (4, [.ref tp, .ref ln, .ref tb, .ref ca, .ref dp])), (ca, .inl (cI, 10, .inl cn)), (dp, .inl (cQ, 16, .inr (.inr (.inr (.inr dpf)))))] ++ (lzc cB (la, pid, nx, ct, tw, ck, wr, (some sq), (some pq)) ++ (dpl dn ++ Q))) s.heap := hP
        have hD : va_D A ([(rv, .inr (4, [.ref tp, .ref ln, .ref tb, .ref ca, .ref dp])), (ca, .inl (cI, 10, .inl cn)), (dp, .inl (cQ, 16, .inr (.inr (.inr (.inr dpf)))))] ++ (lzc cB (la, pid, nx, ct, tw, ck, wr, (some sq), (some pq)) ++ (dpl dn ++ Q))) := hD
        have hPc := hP.part (cx := [(rv, .inr (4, [.ref tp, .ref ln, .ref tb, .ref ca, .ref dp])), (ca, .inl (cI, 10, .inl cn))]) [0, 1] rfl
        have hKc := hK.sub (tys' := [(cB, .byte), (cI, .int)]) [0, 1] rfl
        have hDc := hD.part (cx := [(rv, .inr (4, [.ref tp, .ref ln, .ref tb, .ref ca, .ref dp])), (ca, .inl (cI, 10, .inl cn))]) [0, 1] (by decide) rfl
        have hFc := va_freeP (cx := [(rv, .inr (4, [.ref tp, .ref ln, .ref tb, .ref ca, .ref dp])), (ca, .inl (cI, 10, .inl cn))]) hD hS hA [0, 1] rfl
        refine va_callv (va_runV (As := [.ref la]) (rest := []) ⟨hx, hb, hml, hown, hts⟩ (c_Receiver_giveUp l D s.heap.size cB cI rv tp ln tb ca dp cn la pid nx ct tw ck wr (some sq) (some pq) (dpl dn ++ Q) (fun q hq => by cases hq; exact hsn)) (z_cV hN wd_289 wd_60 wd_286 hd_Receiver_giveUp rfl rfl ⟨Nat.le_of_ble_eq_true rfl, Nat.le_of_ble_eq_true rfl⟩ wd_288 wd_2) (z_preVm (va_recv (ci := 4) (q0 := 0) hK hP rfl rfl) hPc hKc hN hDc) rfl rfl hl.1 rfl (lv_room (Nat.le_of_ble_eq_true rfl)) d_Receiver_endPiece_31 ⟨Nat.le_of_ble_eq_true rfl, Nat.le_of_ble_eq_true rfl⟩) hS (fun q _ h => hFc q h) hFc (fun u31 t H locs ht hvm e31 hB hz1 hk1 hS => ?_)
        obtain ⟨hP1, hK1, hD1⟩ := hB
        rw [ht] at hP1
        obtain ⟨hP, hD⟩ := va_joinP (wr := [(dp, .inl (cQ, 16, .inr (.inr (.inr (.inr dpf)))))]) (rx := [(rv, .inr (4, [.ref tp, .ref ln, .ref tb, .ref ca, .ref dp])), (ca, .inl (cI, 10, .inl (guC cn (some sq) (some pq))))]) hP hD [0, 1] [2] rfl rfl (by decide) (by decide) hk1 hFc hP1 hD1
        clear hk1 hP1 hD1 hFc hPc hDc hz1
        have hP : va_P D classes ([(dp, .inl (cQ, 16, .inr (.inr (.inr (.inr dpf))))), (rv, .inr (4, [.ref tp, .ref ln, .ref tb, .ref ca, .ref dp])), (ca, .inl (cI, 10, .inl (guC cn (some sq) (some pq))))] ++ (lzc cB (la, pid, nx, ct, tw, ck, wr, guS (some sq), guI (some pq)) ++ (dpl dn ++ Q))) H := hP
        have hD : va_D A ([(dp, .inl (cQ, 16, .inr (.inr (.inr (.inr dpf))))), (rv, .inr (4, [.ref tp, .ref ln, .ref tb, .ref ca, .ref dp])), (ca, .inl (cI, 10, .inl (guC cn (some sq) (some pq))))] ++ (lzc cB (la, pid, nx, ct, tw, ck, wr, guS (some sq), guI (some pq)) ++ (dpl dn ++ Q))) := hD
        have hP9 := hP.part (cx := [(rv, .inr (4, [.ref tp, .ref ln, .ref tb, .ref ca, .ref dp])), (ca, .inl (cI, 10, .inl (guC cn (some sq) (some pq)))), (dp, .inl (cQ, 16, .inr (.inr (.inr (.inr dpf)))))]) [1, 2, 0] rfl
        have hD9 := hD.part (cx := [(rv, .inr (4, [.ref tp, .ref ln, .ref tb, .ref ca, .ref dp])), (ca, .inl (cI, 10, .inl (guC cn (some sq) (some pq)))), (dp, .inl (cQ, 16, .inr (.inr (.inr (.inr dpf)))))]) [1, 2, 0] (by decide) rfl
        have hK9 := hK.sub (tys' := [(cB, .byte), (cI, .int), (cQ, .object "StreamSplitter$Piece")]) [0, 1, 2] rfl
        refine W.widen (k := 1) (n := 7) (by omega) (by omega) ?_
        exact W.vret hx hb hr (fun t ht hW => ⟨⟨(guC cn (some sq) (some pq), guS (some sq), guI (some pq), dn, dpf), rfl, ⟨Or.inr ⟨hnd, rfl, rfl, rfl, rfl⟩, hdp⟩, ⟨by rw [ht]; exact hP9, va_K.moved hW.alike hK9, hD9⟩⟩, hS.F ht⟩) hS.2.2 d_Receiver_endPiece_34
      · have h4 := gp_1 h4
        refine lv_aload_n hx hb d_Receiver_endPiece_7 rfl (lv_at hl 1 rfl) ?_
        refine va_getN (D := D) (ci := 1) (v := .ref pq.1) (C := R_Lane) (T := F_Lane) (N := 8) hx hb hts i_Lane hown hK hP 3 rfl rfl 7 (by decide) (hts _ wd_258) (fun _ h9 => h9) rfl d_Receiver_endPiece_8 ?_
        refine va_getN (D := D) (ci := 3) (v := .int pq.2.2.2.2.2.2.2) (C := R_Piece) (T := F_Piece) (N := 7) hx hb hts i_Piece hown hK hP 6 rfl rfl 6 (by decide) (hts _ wd_371) (fun _ h9 => h9) rfl d_Receiver_endPiece_11 ?_
        refine lv_iconst (v := (-1)) hx hb d_Receiver_endPiece_14 (by decide) ?_
        refine lv_icmp_ne (tgt := 29) hx hb d_Receiver_endPiece_15 rfl (fun h15 => ?_) (fun h15 => ?_)
        · have hnd : ¬ pieD (some pq) := fun ⟨q, e, h1, h2⟩ => by cases e; exact h15 h2
          refine lv_aload_n hx hb d_Receiver_endPiece_29 rfl (lv_at hl 0 rfl) ?_
          refine lv_aload_n hx hb d_Receiver_endPiece_30 rfl (lv_at hl 1 rfl) ?_
          have hP : va_P D classes ([(rv, .inr (4, [.ref tp, .ref ln, .ref tb, .ref ca, .ref dp])), (ca, .inl (cI, 10, .inl cn)), (dp, .inl (cQ, 16, .inr (.inr (.inr (.inr dpf)))))] ++ (lzc cB (la, pid, nx, ct, tw, ck, wr, (some sq), (some pq)) ++ (dpl dn ++ Q))) s.heap := hP
          have hD : va_D A ([(rv, .inr (4, [.ref tp, .ref ln, .ref tb, .ref ca, .ref dp])), (ca, .inl (cI, 10, .inl cn)), (dp, .inl (cQ, 16, .inr (.inr (.inr (.inr dpf)))))] ++ (lzc cB (la, pid, nx, ct, tw, ck, wr, (some sq), (some pq)) ++ (dpl dn ++ Q))) := hD
          have hPc := hP.part (cx := [(rv, .inr (4, [.ref tp, .ref ln, .ref tb, .ref ca, .ref dp])), (ca, .inl (cI, 10, .inl cn))]) [0, 1] rfl
          have hKc := hK.sub (tys' := [(cB, .byte), (cI, .int)]) [0, 1] rfl
          have hDc := hD.part (cx := [(rv, .inr (4, [.ref tp, .ref ln, .ref tb, .ref ca, .ref dp])), (ca, .inl (cI, 10, .inl cn))]) [0, 1] (by decide) rfl
          have hFc := va_freeP (cx := [(rv, .inr (4, [.ref tp, .ref ln, .ref tb, .ref ca, .ref dp])), (ca, .inl (cI, 10, .inl cn))]) hD hS hA [0, 1] rfl
          refine va_callv (va_runV (As := [.ref la]) (rest := []) ⟨hx, hb, hml, hown, hts⟩ (c_Receiver_giveUp l D s.heap.size cB cI rv tp ln tb ca dp cn la pid nx ct tw ck wr (some sq) (some pq) (dpl dn ++ Q) (fun q hq => by cases hq; exact hsn)) (z_cV hN wd_289 wd_60 wd_286 hd_Receiver_giveUp rfl rfl ⟨Nat.le_of_ble_eq_true rfl, Nat.le_of_ble_eq_true rfl⟩ wd_288 wd_2) (z_preVm (va_recv (ci := 4) (q0 := 0) hK hP rfl rfl) hPc hKc hN hDc) rfl rfl hl.1 rfl (lv_room (Nat.le_of_ble_eq_true rfl)) d_Receiver_endPiece_31 ⟨Nat.le_of_ble_eq_true rfl, Nat.le_of_ble_eq_true rfl⟩) hS (fun q _ h => hFc q h) hFc (fun u31 t H locs ht hvm e31 hB hz1 hk1 hS => ?_)
          obtain ⟨hP1, hK1, hD1⟩ := hB
          rw [ht] at hP1
          obtain ⟨hP, hD⟩ := va_joinP (wr := [(dp, .inl (cQ, 16, .inr (.inr (.inr (.inr dpf)))))]) (rx := [(rv, .inr (4, [.ref tp, .ref ln, .ref tb, .ref ca, .ref dp])), (ca, .inl (cI, 10, .inl (guC cn (some sq) (some pq))))]) hP hD [0, 1] [2] rfl rfl (by decide) (by decide) hk1 hFc hP1 hD1
          clear hk1 hP1 hD1 hFc hPc hDc hz1
          have hP : va_P D classes ([(dp, .inl (cQ, 16, .inr (.inr (.inr (.inr dpf))))), (rv, .inr (4, [.ref tp, .ref ln, .ref tb, .ref ca, .ref dp])), (ca, .inl (cI, 10, .inl (guC cn (some sq) (some pq))))] ++ (lzc cB (la, pid, nx, ct, tw, ck, wr, guS (some sq), guI (some pq)) ++ (dpl dn ++ Q))) H := hP
          have hD : va_D A ([(dp, .inl (cQ, 16, .inr (.inr (.inr (.inr dpf))))), (rv, .inr (4, [.ref tp, .ref ln, .ref tb, .ref ca, .ref dp])), (ca, .inl (cI, 10, .inl (guC cn (some sq) (some pq))))] ++ (lzc cB (la, pid, nx, ct, tw, ck, wr, guS (some sq), guI (some pq)) ++ (dpl dn ++ Q))) := hD
          have hP9 := hP.part (cx := [(rv, .inr (4, [.ref tp, .ref ln, .ref tb, .ref ca, .ref dp])), (ca, .inl (cI, 10, .inl (guC cn (some sq) (some pq)))), (dp, .inl (cQ, 16, .inr (.inr (.inr (.inr dpf)))))]) [1, 2, 0] rfl
          have hD9 := hD.part (cx := [(rv, .inr (4, [.ref tp, .ref ln, .ref tb, .ref ca, .ref dp])), (ca, .inl (cI, 10, .inl (guC cn (some sq) (some pq)))), (dp, .inl (cQ, 16, .inr (.inr (.inr (.inr dpf)))))]) [1, 2, 0] (by decide) rfl
          have hK9 := hK.sub (tys' := [(cB, .byte), (cI, .int), (cQ, .object "StreamSplitter$Piece")]) [0, 1, 2] rfl
          refine W.widen (k := 1) (n := 7) (by omega) (by omega) ?_
          exact W.vret hx hb hr (fun t ht hW => ⟨⟨(guC cn (some sq) (some pq), guS (some sq), guI (some pq), dn, dpf), rfl, ⟨Or.inr ⟨hnd, rfl, rfl, rfl, rfl⟩, hdp⟩, ⟨by rw [ht]; exact hP9, va_K.moved hW.alike hK9, hD9⟩⟩, hS.F ht⟩) hS.2.2 d_Receiver_endPiece_34
        · have h15 : pq.2.2.2.2.2.2.2 = -1 := by first | exact h15 | exact Classical.not_not.mp h15
          refine lv_aload_n hx hb d_Receiver_endPiece_18 rfl (lv_at hl 0 rfl) ?_
          refine lv_aload_n hx hb d_Receiver_endPiece_19 rfl (lv_at hl 1 rfl) ?_
          refine va_getN (D := D) (ci := 1) (v := .ref pq.1) (C := R_Lane) (T := F_Lane) (N := 8) hx hb hts i_Lane hown hK hP 3 rfl rfl 7 (by decide) (hts _ wd_258) (fun _ h9 => h9) rfl d_Receiver_endPiece_20 ?_
          have hPc := hP.part (cx := [(rv, .inr (4, [.ref tp, .ref ln, .ref tb, .ref ca, .ref dp])), (ca, .inl (cI, 10, .inl cn)), (dp, .inl (cQ, 16, .inr (.inr (.inr (.inr dpf))))), (pq.1, .inr (3, [.int pq.2.1, .int pq.2.2.1, .int pq.2.2.2.1, .long pq.2.2.2.2.1, .int pq.2.2.2.2.2.1, .int pq.2.2.2.2.2.2.1, .int pq.2.2.2.2.2.2.2]))]) [0, 1, 2, 6] rfl
          have hKc := hK.sub (tys' := [(cI, .int), (cQ, .object "StreamSplitter$Piece")]) [1, 2] rfl
          have hDc := hD.part (cx := [(rv, .inr (4, [.ref tp, .ref ln, .ref tb, .ref ca, .ref dp])), (ca, .inl (cI, 10, .inl cn)), (dp, .inl (cQ, 16, .inr (.inr (.inr (.inr dpf))))), (pq.1, .inr (3, [.int pq.2.1, .int pq.2.2.1, .int pq.2.2.2.1, .long pq.2.2.2.2.1, .int pq.2.2.2.2.2.1, .int pq.2.2.2.2.2.2.1, .int pq.2.2.2.2.2.2.2]))]) [0, 1, 2, 6] (by decide) rfl
          have hFc := va_freeP (cx := [(rv, .inr (4, [.ref tp, .ref ln, .ref tb, .ref ca, .ref dp])), (ca, .inl (cI, 10, .inl cn)), (dp, .inl (cQ, 16, .inr (.inr (.inr (.inr dpf))))), (pq.1, .inr (3, [.int pq.2.1, .int pq.2.2.1, .int pq.2.2.2.1, .long pq.2.2.2.2.1, .int pq.2.2.2.2.2.1, .int pq.2.2.2.2.2.2.1, .int pq.2.2.2.2.2.2.2]))]) hD hS hA [0, 1, 2, 6] rfl
          refine va_callv (va_runV (As := [.ref pq.1]) (rest := []) ⟨hx, hb, hml, hown, hts⟩ (c_Receiver_keepDone l D s.heap.size cI cQ rv tp ln tb ca dp cn dpf dn pq.1 pq.2.1 pq.2.2.1 pq.2.2.2.1 pq.2.2.2.2.2.1 pq.2.2.2.2.2.2.1 pq.2.2.2.2.2.2.2 pq.2.2.2.2.1 Q hdp) (z_cV hN wd_351 wd_60 wd_348 hd_Receiver_keepDone rfl rfl ⟨Nat.le_of_ble_eq_true rfl, Nat.le_of_ble_eq_true rfl⟩ wd_350 wd_7) (z_preVm (va_recv (ci := 4) (q0 := 0) hK hP rfl rfl) hPc hKc hN hDc) rfl rfl hl.1 rfl (lv_room (Nat.le_of_ble_eq_true rfl)) d_Receiver_endPiece_23 ⟨Nat.le_of_ble_eq_true rfl, Nat.le_of_ble_eq_true rfl⟩) hS (fun q _ h => hFc q h) hFc (fun k9 t H locs ht hvm e23 hB hz1 hk1 hS => ?_)
          obtain ⟨hP1, hK1, hD1⟩ := hB
          rw [ht] at hP1
          obtain ⟨hP, hD⟩ := va_joinP (wr := [(la, .inr (1, [.int (nI pid), va_rf nx, .int ct, .int tw, .long ck, .int wr, .ref sq.1, .ref pq.1])), (sq.1, .inr (0, [.ref sq.2.1, .int (nI sq.2.2.1)])), (sq.2.1, .inl (cB, 1024, .inl sq.2.2.2))]) (rx := [(rv, .inr (4, [.ref tp, .ref ln, .ref tb, .ref ca, .ref dp])), (ca, .inl (cI, 10, .inl (cup cn 9))), (dp, .inl (cQ, 16, .inr (.inr (.inr (.inr k9.2))))), (pq.1, .inr (3, [.int 0, .int pq.2.2.1, .int pq.2.2.2.1, .long pq.2.2.2.2.1, .int pq.2.2.2.2.2.1, .int pq.2.2.2.2.2.2.1, .int pq.2.2.2.2.2.2.2]))]) hP hD [0, 1, 2, 6] [3, 4, 5] rfl rfl (by decide) (by decide) hk1 hFc hP1 hD1
          clear hk1 hP1 hD1 hFc hPc hDc hz1
          have hP : va_P D classes ([(la, .inr (1, [.int (nI pid), va_rf nx, .int ct, .int tw, .long ck, .int wr, .ref sq.1, .ref pq.1])), (sq.1, .inr (0, [.ref sq.2.1, .int (nI sq.2.2.1)])), (sq.2.1, .inl (cB, 1024, .inl sq.2.2.2)), (rv, .inr (4, [.ref tp, .ref ln, .ref tb, .ref ca, .ref dp])), (ca, .inl (cI, 10, .inl (cup cn 9))), (dp, .inl (cQ, 16, .inr (.inr (.inr (.inr k9.2))))), (pq.1, .inr (3, [.int 0, .int pq.2.2.1, .int pq.2.2.2.1, .long pq.2.2.2.2.1, .int pq.2.2.2.2.2.1, .int pq.2.2.2.2.2.2.1, .int pq.2.2.2.2.2.2.2]))] ++ (dpl (va_up dn (kdI (cn 9)) (some k9.1)) ++ Q)) H := hP
          have hD : va_D A ([(la, .inr (1, [.int (nI pid), va_rf nx, .int ct, .int tw, .long ck, .int wr, .ref sq.1, .ref pq.1])), (sq.1, .inr (0, [.ref sq.2.1, .int (nI sq.2.2.1)])), (sq.2.1, .inl (cB, 1024, .inl sq.2.2.2)), (rv, .inr (4, [.ref tp, .ref ln, .ref tb, .ref ca, .ref dp])), (ca, .inl (cI, 10, .inl (cup cn 9))), (dp, .inl (cQ, 16, .inr (.inr (.inr (.inr k9.2))))), (pq.1, .inr (3, [.int 0, .int pq.2.2.1, .int pq.2.2.2.1, .long pq.2.2.2.2.1, .int pq.2.2.2.2.2.1, .int pq.2.2.2.2.2.2.1, .int pq.2.2.2.2.2.2.2]))] ++ (dpl (va_up dn (kdI (cn 9)) (some k9.1)) ++ Q)) := hD
          refine lv_goto (tgt := 34) hx hb d_Receiver_endPiece_26 rfl ?_
          have hP := hP.part (cx := [(rv, .inr (4, [.ref tp, .ref ln, .ref tb, .ref ca, .ref dp])), (ca, .inl (cI, 10, .inl (cup cn 9))), (dp, .inl (cQ, 16, .inr (.inr (.inr (.inr k9.2))))), (la, .inr (1, [.int (nI pid), va_rf nx, .int ct, .int tw, .long ck, .int wr, .ref sq.1, .ref pq.1])), (sq.1, .inr (0, [.ref sq.2.1, .int (nI sq.2.2.1)])), (sq.2.1, .inl (cB, 1024, .inl sq.2.2.2)), (pq.1, .inr (3, [.int 0, .int pq.2.2.1, .int pq.2.2.2.1, .long pq.2.2.2.2.1, .int pq.2.2.2.2.2.1, .int pq.2.2.2.2.2.2.1, .int pq.2.2.2.2.2.2.2]))]) [3, 4, 5, 0, 1, 2, 6] rfl
          have hD := hD.part (cx := [(rv, .inr (4, [.ref tp, .ref ln, .ref tb, .ref ca, .ref dp])), (ca, .inl (cI, 10, .inl (cup cn 9))), (dp, .inl (cQ, 16, .inr (.inr (.inr (.inr k9.2))))), (la, .inr (1, [.int (nI pid), va_rf nx, .int ct, .int tw, .long ck, .int wr, .ref sq.1, .ref pq.1])), (sq.1, .inr (0, [.ref sq.2.1, .int (nI sq.2.2.1)])), (sq.2.1, .inl (cB, 1024, .inl sq.2.2.2)), (pq.1, .inr (3, [.int 0, .int pq.2.2.1, .int pq.2.2.2.1, .long pq.2.2.2.2.1, .int pq.2.2.2.2.2.1, .int pq.2.2.2.2.2.2.1, .int pq.2.2.2.2.2.2.2]))]) [3, 4, 5, 0, 1, 2, 6] (by decide) rfl
          have hP : va_P D classes ([(rv, .inr (4, [.ref tp, .ref ln, .ref tb, .ref ca, .ref dp])), (ca, .inl (cI, 10, .inl (cup cn 9))), (dp, .inl (cQ, 16, .inr (.inr (.inr (.inr k9.2)))))] ++ (lzc cB (la, pid, nx, ct, tw, ck, wr, (some sq), (guI (some pq))) ++ (dpl (va_up dn (kdI (cn 9)) (some k9.1)) ++ Q))) H := hP
          have hD : va_D A ([(rv, .inr (4, [.ref tp, .ref ln, .ref tb, .ref ca, .ref dp])), (ca, .inl (cI, 10, .inl (cup cn 9))), (dp, .inl (cQ, 16, .inr (.inr (.inr (.inr k9.2)))))] ++ (lzc cB (la, pid, nx, ct, tw, ck, wr, (some sq), (guI (some pq))) ++ (dpl (va_up dn (kdI (cn 9)) (some k9.1)) ++ Q))) := hD
          have hP9 := hP.part (cx := [(rv, .inr (4, [.ref tp, .ref ln, .ref tb, .ref ca, .ref dp])), (ca, .inl (cI, 10, .inl (cup cn 9))), (dp, .inl (cQ, 16, .inr (.inr (.inr (.inr k9.2)))))]) [0, 1, 2] rfl
          have hD9 := hD.part (cx := [(rv, .inr (4, [.ref tp, .ref ln, .ref tb, .ref ca, .ref dp])), (ca, .inl (cI, 10, .inl (cup cn 9))), (dp, .inl (cQ, 16, .inr (.inr (.inr (.inr k9.2)))))]) [0, 1, 2] (by decide) rfl
          have hK9 := hK.sub (tys' := [(cB, .byte), (cI, .int), (cQ, .object "StreamSplitter$Piece")]) [0, 1, 2] rfl
          refine W.widen (k := 1) (n := 7) (by omega) (by omega) ?_
          exact W.vret hx hb hr (fun t ht hW => ⟨⟨(cup cn 9, (some sq), guI (some pq), (va_up dn (kdI (cn 9)) (some k9.1)), k9.2), rfl, ⟨Or.inl ⟨pq, k9.1, rfl, h4, h15, e23.1, rfl, rfl, rfl, rfl⟩, e23.2⟩, ⟨by rw [ht]; exact hP9, va_K.moved hW.alike hK9, hD9⟩⟩, hS.F ht⟩) hS.2.2 d_Receiver_endPiece_34
