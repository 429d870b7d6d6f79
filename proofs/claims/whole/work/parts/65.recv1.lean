theorem wd_111 : (Jvm.Cond.fieldLinkNest "StreamSplitter$Receiver" (91 : Nat) "StreamSplitter$Row" "size" "I" "StreamSplitter") ∈ lw_ok := List.mem_filter.mpr ⟨List.mem_of_getElem? (i := 111) (by decide +kernel), rfl⟩
theorem wd_256 : (Jvm.Cond.fieldLinkNest "StreamSplitter$Receiver" (88 : Nat) "StreamSplitter$Lane" "section" "LStreamSplitter$Row;" "StreamSplitter") ∈ lw_ok := List.mem_filter.mpr ⟨List.mem_of_getElem? (i := 256) (by decide +kernel), rfl⟩
theorem wd_258 : (Jvm.Cond.fieldLinkNest "StreamSplitter$Receiver" (97 : Nat) "StreamSplitter$Lane" "piece" "LStreamSplitter$Piece;" "StreamSplitter") ∈ lw_ok := List.mem_filter.mpr ⟨List.mem_of_getElem? (i := 258) (by decide +kernel), rfl⟩
theorem wd_290 : (Jvm.Cond.methodLink "StreamSplitter$Receiver" (84 : Nat) ({ cls := "StreamSplitter$Lane", name := "gathersSection", desc := "()Z" } : Jvm.MethodName)) ∈ lw_ok := List.mem_filter.mpr ⟨List.mem_of_getElem? (i := 290) (by decide +kernel), rfl⟩
theorem wd_291 : (Jvm.Cond.instanceMethod ({ cls := "StreamSplitter$Lane", name := "gathersSection", desc := "()Z" } : Jvm.MethodName)) ∈ lw_ok := List.mem_filter.mpr ⟨List.mem_of_getElem? (i := 291) (by decide +kernel), rfl⟩
theorem wd_292 : (Jvm.Cond.selects "StreamSplitter$Lane" ({ cls := "StreamSplitter$Lane", name := "gathersSection", desc := "()Z" } : Jvm.MethodName) ({ cls := "StreamSplitter$Lane", name := "gathersSection", desc := "()Z" } : Jvm.MethodName)) ∈ lw_ok := List.mem_filter.mpr ⟨List.mem_of_getElem? (i := 292) (by decide +kernel), rfl⟩
set_option maxRecDepth 100000 in
theorem wd_293 : (Jvm.Cond.code ({ cls := "StreamSplitter$Lane", name := "gathersSection", desc := "()Z" } : Jvm.MethodName) prog_3_method_2_code (1 : Nat) (Option.some Jvm.ClassFile.FieldType.boolean)) ∈ lw_ok := List.mem_filter.mpr ⟨List.mem_of_getElem? (i := 293) (by rfl), rfl⟩
theorem wd_294 : (Jvm.Cond.methodLink "StreamSplitter$Receiver" (94 : Nat) ({ cls := "StreamSplitter$Lane", name := "gathersPiece", desc := "()Z" } : Jvm.MethodName)) ∈ lw_ok := List.mem_filter.mpr ⟨List.mem_of_getElem? (i := 294) (by decide +kernel), rfl⟩
theorem wd_295 : (Jvm.Cond.instanceMethod ({ cls := "StreamSplitter$Lane", name := "gathersPiece", desc := "()Z" } : Jvm.MethodName)) ∈ lw_ok := List.mem_filter.mpr ⟨List.mem_of_getElem? (i := 295) (by decide +kernel), rfl⟩
theorem wd_296 : (Jvm.Cond.selects "StreamSplitter$Lane" ({ cls := "StreamSplitter$Lane", name := "gathersPiece", desc := "()Z" } : Jvm.MethodName) ({ cls := "StreamSplitter$Lane", name := "gathersPiece", desc := "()Z" } : Jvm.MethodName)) ∈ lw_ok := List.mem_filter.mpr ⟨List.mem_of_getElem? (i := 296) (by decide +kernel), rfl⟩
set_option maxRecDepth 100000 in
theorem wd_297 : (Jvm.Cond.code ({ cls := "StreamSplitter$Lane", name := "gathersPiece", desc := "()Z" } : Jvm.MethodName) prog_3_method_3_code (1 : Nat) (Option.some Jvm.ClassFile.FieldType.boolean)) ∈ lw_ok := List.mem_filter.mpr ⟨List.mem_of_getElem? (i := 297) (by rfl), rfl⟩
theorem wd_359 : (Jvm.Cond.fieldLinkNest "StreamSplitter$Receiver" (101 : Nat) "StreamSplitter$Piece" "open" "Z" "StreamSplitter") ∈ lw_ok := List.mem_filter.mpr ⟨List.mem_of_getElem? (i := 359) (by decide +kernel), rfl⟩
theorem hd_Lane_gathersPiece : y_Lane_gathersPiece.cls ≠ "java/lang/invoke/MethodHandle" ∧ y_Lane_gathersPiece.cls ≠ "java/lang/invoke/VarHandle" ∧ (parseMethodDescriptor y_Lane_gathersPiece.desc).map (fun d => d.parameters.length) = some 0 := by decide +kernel
theorem hd_Lane_gathersSection : y_Lane_gathersSection.cls ≠ "java/lang/invoke/MethodHandle" ∧ y_Lane_gathersSection.cls ≠ "java/lang/invoke/VarHandle" ∧ (parseMethodDescriptor y_Lane_gathersSection.desc).map (fun d => d.parameters.length) = some 0 := by decide +kernel
theorem d_Receiver_giveUp_0 : decode b_Receiver_giveUp 0 = .ok (.aload_n 1, 1) := by decide +kernel
theorem d_Receiver_giveUp_1 : decode b_Receiver_giveUp 1 = .ok (.invokevirtual 84, 3) := by decide +kernel
theorem d_Receiver_giveUp_4 : decode b_Receiver_giveUp 4 = .ok (.ifCond .eq 22, 3) := by decide +kernel
theorem d_Receiver_giveUp_7 : decode b_Receiver_giveUp 7 = .ok (.aload_n 1, 1) := by decide +kernel
theorem d_Receiver_giveUp_8 : decode b_Receiver_giveUp 8 = .ok (.getfield 88, 3) := by decide +kernel
theorem d_Receiver_giveUp_11 : decode b_Receiver_giveUp 11 = .ok (.iconst 0, 1) := by decide +kernel
theorem d_Receiver_giveUp_12 : decode b_Receiver_giveUp 12 = .ok (.putfield 91, 3) := by decide +kernel
theorem d_Receiver_giveUp_15 : decode b_Receiver_giveUp 15 = .ok (.aload_n 0, 1) := by decide +kernel
theorem d_Receiver_giveUp_16 : decode b_Receiver_giveUp 16 = .ok (.getfield 34, 3) := by decide +kernel
theorem d_Receiver_giveUp_19 : decode b_Receiver_giveUp 19 = .ok (.bipush 8, 2) := by decide +kernel
theorem d_Receiver_giveUp_21 : decode b_Receiver_giveUp 21 = .ok (.dup2, 1) := by decide +kernel
theorem d_Receiver_giveUp_22 : decode b_Receiver_giveUp 22 = .ok (.iaload, 1) := by decide +kernel
theorem d_Receiver_giveUp_23 : decode b_Receiver_giveUp 23 = .ok (.iconst 1, 1) := by decide +kernel
theorem d_Receiver_giveUp_24 : decode b_Receiver_giveUp 24 = .ok (.iadd, 1) := by decide +kernel
theorem d_Receiver_giveUp_25 : decode b_Receiver_giveUp 25 = .ok (.iastore, 1) := by decide +kernel
theorem d_Receiver_giveUp_26 : decode b_Receiver_giveUp 26 = .ok (.aload_n 1, 1) := by decide +kernel
theorem d_Receiver_giveUp_27 : decode b_Receiver_giveUp 27 = .ok (.invokevirtual 94, 3) := by decide +kernel
theorem d_Receiver_giveUp_30 : decode b_Receiver_giveUp 30 = .ok (.ifCond .eq 22, 3) := by decide +kernel
theorem d_Receiver_giveUp_33 : decode b_Receiver_giveUp 33 = .ok (.aload_n 1, 1) := by decide +kernel
theorem d_Receiver_giveUp_34 : decode b_Receiver_giveUp 34 = .ok (.getfield 97, 3) := by decide +kernel
theorem d_Receiver_giveUp_37 : decode b_Receiver_giveUp 37 = .ok (.iconst 0, 1) := by decide +kernel
theorem d_Receiver_giveUp_38 : decode b_Receiver_giveUp 38 = .ok (.putfield 101, 3) := by decide +kernel
theorem d_Receiver_giveUp_41 : decode b_Receiver_giveUp 41 = .ok (.aload_n 0, 1) := by decide +kernel
theorem d_Receiver_giveUp_42 : decode b_Receiver_giveUp 42 = .ok (.getfield 34, 3) := by decide +kernel
theorem d_Receiver_giveUp_45 : decode b_Receiver_giveUp 45 = .ok (.bipush 8, 2) := by decide +kernel
theorem d_Receiver_giveUp_47 : decode b_Receiver_giveUp 47 = .ok (.dup2, 1) := by decide +kernel
theorem d_Receiver_giveUp_48 : decode b_Receiver_giveUp 48 = .ok (.iaload, 1) := by decide +kernel
theorem d_Receiver_giveUp_49 : decode b_Receiver_giveUp 49 = .ok (.iconst 1, 1) := by decide +kernel
theorem d_Receiver_giveUp_50 : decode b_Receiver_giveUp 50 = .ok (.iadd, 1) := by decide +kernel
theorem d_Receiver_giveUp_51 : decode b_Receiver_giveUp 51 = .ok (.iastore, 1) := by decide +kernel
theorem d_Receiver_giveUp_52 : decode b_Receiver_giveUp 52 = .ok (.return_, 1) := by decide +kernel
/-! Giving up what a lane gathers -/
def secN (se : Option SQ9) : Nat := match se with
  | none => 0
  | some q => q.2.2.1
def pieO (pi : Option PQ9) : Int32 := match pi with
  | none => 0
  | some q => q.2.1
def guS (se : Option SQ9) : Option SQ9 := se.map (fun q => (q.1, q.2.1, 0, q.2.2.2))
def guI (pi : Option PQ9) : Option PQ9 := pi.map (fun q => (q.1, 0, q.2.2))
def cup (cn : Nat → Int32) (k : Nat) : Nat → Int32 := upd cn k (cn k + 1)
def guC (cn : Nat → Int32) (se : Option SQ9) (pi : Option PQ9) : Nat → Int32 := if pieO pi = 0 then (if secN se = 0 then cn else cup cn 8) else cup (if secN se = 0 then cn else cup cn 8) 8
theorem gu_0 {n : Nat} (h : (if n = 0 then (0 : Int32) else 1) = 0) : n = 0 := by
  by_cases c : n = 0
  · exact c
  · rw [if_neg c] at h; exact absurd h (by decide)
theorem gu_1 {n : Nat} (h : ¬ (if n = 0 then (0 : Int32) else 1) = 0) : ¬ n = 0 := fun c => h (if_pos c)
theorem gp_0 {n : Int32} (h : (if n = 0 then (0 : Int32) else 1) = 0) : n = 0 := by
  by_cases c : n = 0
  · exact c
  · rw [if_neg c] at h; exact absurd h (by decide)
theorem gp_1 {n : Int32} (h : ¬ (if n = 0 then (0 : Int32) else 1) = 0) : ¬ n = 0 := fun c => h (if_pos c)

set_option maxHeartbeats 4000000 in
set_option maxRecDepth 100000 in
theorem c_Receiver_giveUp (l : Launch) (D : va_G) (sz : Nat) (cB cI : ClassId) (rv tp ln tb ca dp : Nat) (cn : Nat → Int32) (la pid : Nat) (nx : Option Nat) (ct tw : Int32) (ck : Int64) (wr : Int32) (se : Option SQ9) (pi : Option PQ9) (Q : va_W) (hse : ∀ q, se = some q → q.2.2.1 ≤ 1024) : Met l y_Receiver_giveUp [Cond.code y_Receiver_giveUp b_Receiver_giveUp 2 none] ({ frames := 1, cells := 0, slots := 0, locals := 20 }) (zM [.ref rv, .ref la] D ([(rv, .inr (4, [.ref tp, .ref ln, .ref tb, .ref ca, .ref dp])), (ca, .inl (cI, 10, .inl cn))] ++ (lzc cB (la, pid, nx, ct, tw, ck, wr, se, pi) ++ Q)) [(cB, .byte), (cI, .int)] sz) (va_Qv (fun (_ : Unit) => True) (fun (_u : Unit) t => zW D (va_A ([(rv, .inr (4, [.ref tp, .ref ln, .ref tb, .ref ca, .ref dp])), (ca, .inl (cI, 10, .inl cn))] ++ (lzc cB (la, pid, nx, ct, tw, ck, wr, se, pi) ++ Q)) sz) ([(rv, .inr (4, [.ref tp, .ref ln, .ref tb, .ref ca, .ref dp])), (ca, .inl (cI, 10, .inl (guC cn se pi)))] ++ (lzc cB (la, pid, nx, ct, tw, ck, wr, guS se, guI pi) ++ Q)) [(cB, .byte), (cI, .int)] t) (va_A ([(rv, .inr (4, [.ref tp, .ref ln, .ref tb, .ref ca, .ref dp])), (ca, .inl (cI, 10, .inl cn))] ++ (lzc cB (la, pid, nx, ct, tw, ck, wr, se, pi) ++ Q)) sz)) 0 0 (va_A ([(rv, .inr (4, [.ref tp, .ref ln, .ref tb, .ref ca, .ref dp])), (ca, .inl (cI, 10, .inl cn))] ++ (lzc cB (la, pid, nx, ct, tw, ck, wr, se, pi) ++ Q)) sz) := by
  refine Met.ofW (cc := b_Receiver_giveUp) (maxL := 2) (ret := none) (by decide) rfl ?_
  intro p e s m args below meth cd s₁ Bd hml hv
  obtain ⟨rfl, hsz, hP, hK, hN, hD0⟩ := hv
  have hx := Bd.exec
  have hb := Bd.bytes
  have hr := Bd.returns
  have hts := hN.use (a := ([.ref rv, .ref la]).toArray)
  have hown : s.vm.findClass R_Receiver = some m.cls := findClass_of_methodNamed Bd.named
  have hlocks := Bd.notSynchronized
  subst hsz
  have hD := hD0.self (sz := s.heap.size)
  clear hD0
  have hA : ∀ q : Nat, s.heap.size ≤ q → va_A ([(rv, .inr (4, [.ref tp, .ref ln, .ref tb, .ref ca, .ref dp])), (ca, .inl (cI, 10, .inl cn))] ++ (lzc cB (la, pid, nx, ct, tw, ck, wr, se, pi) ++ Q)) s.heap.size q := fun q h => Or.inr h
  have hS : va_S (va_A ([(rv, .inr (4, [.ref tp, .ref ln, .ref tb, .ref ca, .ref dp])), (ca, .inl (cI, 10, .inl cn))] ++ (lzc cB (la, pid, nx, ct, tw, ck, wr, se, pi) ++ Q)) s.heap.size) s.heap s.heap [] := va_S.rf
  generalize hAe : va_A ([(rv, .inr (4, [.ref tp, .ref ln, .ref tb, .ref ca, .ref dp])), (ca, .inl (cI, 10, .inl cn))] ++ (lzc cB (la, pid, nx, ct, tw, ck, wr, se, pi) ++ Q)) s.heap.size = A at hD hA hS ⊢
  have hP : va_P D classes ([(rv, .inr (4, [.ref tp, .ref ln, .ref tb, .ref ca, .ref dp])), (ca, .inl (cI, 10, .inl cn))] ++ (lzc cB (la, pid, nx, ct, tw, ck, wr, se, pi) ++ Q)) s.heap := hP
  have hl := lv_entry ([.ref rv, .ref la]) (n := 2) (Nat.le_of_ble_eq_true rfl)
  rw [lg_entry_eq]
  generalize (lg_sl ([.ref rv, .ref la]) ++ List.replicate (2 - (lg_sl ([.ref rv, .ref la])).length) Slot.unset).toArray = ls at hl ⊢
  have hl : lv_has ls 2 [(0, .ref rv), (1, .ref la)] := hl
  cases se with
  | none =>
    cases pi with
    | none =>
      have hP : va_P D classes ([(rv, .inr (4, [.ref tp, .ref ln, .ref tb, .ref ca, .ref dp])), (ca, .inl (cI, 10, .inl cn)), (la, .inr (1, [.int (nI pid), va_rf nx, .int ct, .int tw, .long ck, .int wr, .null, .null]))] ++ Q) s.heap := hP
      have hD : va_D A ([(rv, .inr (4, [.ref tp, .ref ln, .ref tb, .ref ca, .ref dp])), (ca, .inl (cI, 10, .inl cn)), (la, .inr (1, [.int (nI pid), va_rf nx, .int ct, .int tw, .long ck, .int wr, .null, .null]))] ++ Q) := hD
      refine lv_aload_n hx hb d_Receiver_giveUp_0 rfl (lv_at hl 1 rfl) ?_
      have hPc := hP.sub (ws' := [(la, .inr (1, [.int (nI pid), va_rf nx, .int ct, .int tw, .long ck, .int wr, .null, va_rf none]))]) [2] rfl
      have hKc := hK.sub (tys' := []) [] rfl
      refine z_ci (va_runV (As := []) (rest := []) ⟨hx, hb, hml, hown, hts⟩ (c_Lane_gathersSection0 l D la nx none (nI pid) ct tw wr ck ) (z_cV hN wd_293 wd_74 wd_290 hd_Lane_gathersSection rfl rfl ⟨Nat.le_of_ble_eq_true rfl, Nat.le_of_ble_eq_true rfl⟩ wd_291 wd_292) (z_preV (va_recv (ci := 1) (q0 := 2) hK hP rfl rfl) hPc hKc hN) rfl rfl hl.1 rfl (lv_room (Nat.le_of_ble_eq_true rfl)) d_Receiver_giveUp_1 ⟨Nat.le_of_ble_eq_true rfl, Nat.le_of_ble_eq_true rfl⟩) (fun r1 e1 => ?_)
      subst e1
      refine lv_if_eq (tgt := 26) hx hb d_Receiver_giveUp_4 rfl (fun h4 => ?_) (fun h9 => absurd rfl h9)
      refine lv_aload_n hx hb d_Receiver_giveUp_26 rfl (lv_at hl 1 rfl) ?_
      have hPc := hP.sub (ws' := [(la, .inr (1, [.int (nI pid), va_rf nx, .int ct, .int tw, .long ck, .int wr, va_rf none, .null]))]) [2] rfl
      have hKc := hK.sub (tys' := []) [] rfl
      refine z_ci (va_runV (As := []) (rest := []) ⟨hx, hb, hml, hown, hts⟩ (c_Lane_gathersPiece0 l D la nx none (nI pid) ct tw wr ck ) (z_cV hN wd_297 wd_74 wd_294 hd_Lane_gathersPiece rfl rfl ⟨Nat.le_of_ble_eq_true rfl, Nat.le_of_ble_eq_true rfl⟩ wd_295 wd_296) (z_preV (va_recv (ci := 1) (q0 := 2) hK hP rfl rfl) hPc hKc hN) rfl rfl hl.1 rfl (lv_room (Nat.le_of_ble_eq_true rfl)) d_Receiver_giveUp_27 ⟨Nat.le_of_ble_eq_true rfl, Nat.le_of_ble_eq_true rfl⟩) (fun r27 e27 => ?_)
      subst e27
      refine lv_if_eq (tgt := 52) hx hb d_Receiver_giveUp_30 rfl (fun h30 => ?_) (fun h9 => absurd rfl h9)
      have hcn : cn = guC cn none none := by
        simp [guC, cup, secN, pieO]
      rw [hcn] at hP hD
      have hP : va_P D classes ([(rv, .inr (4, [.ref tp, .ref ln, .ref tb, .ref ca, .ref dp])), (ca, .inl (cI, 10, .inl (guC cn none none)))] ++ (lzc cB (la, pid, nx, ct, tw, ck, wr, none, none) ++ Q)) s.heap := hP
      have hD : va_D A ([(rv, .inr (4, [.ref tp, .ref ln, .ref tb, .ref ca, .ref dp])), (ca, .inl (cI, 10, .inl (guC cn none none)))] ++ (lzc cB (la, pid, nx, ct, tw, ck, wr, none, none) ++ Q)) := hD
      have hP9 := hP.part (cx := [(rv, .inr (4, [.ref tp, .ref ln, .ref tb, .ref ca, .ref dp])), (ca, .inl (cI, 10, .inl (guC cn none none)))]) [0, 1] rfl
      have hD9 := hD.part (cx := [(rv, .inr (4, [.ref tp, .ref ln, .ref tb, .ref ca, .ref dp])), (ca, .inl (cI, 10, .inl (guC cn none none)))]) [0, 1] (by decide) rfl
      have hK9 := hK.sub (tys' := [(cB, .byte), (cI, .int)]) [0, 1] rfl
      exact W.vret hx hb hr (fun t ht hW => ⟨⟨(), rfl, trivial, ⟨by rw [ht]; exact hP9, va_K.moved hW.alike hK9, hD9⟩⟩, hS.F ht⟩) hS.2.2 d_Receiver_giveUp_52
    | some pq =>
      have hP : va_P D classes ([(rv, .inr (4, [.ref tp, .ref ln, .ref tb, .ref ca, .ref dp])), (ca, .inl (cI, 10, .inl cn)), (la, .inr (1, [.int (nI pid), va_rf nx, .int ct, .int tw, .long ck, .int wr, .null, .ref pq.1])), (pq.1, .inr (3, [.int pq.2.1, .int pq.2.2.1, .int pq.2.2.2.1, .long pq.2.2.2.2.1, .int pq.2.2.2.2.2.1, .int pq.2.2.2.2.2.2.1, .int pq.2.2.2.2.2.2.2]))] ++ Q) s.heap := hP
      have hD : va_D A ([(rv, .inr (4, [.ref tp, .ref ln, .ref tb, .ref ca, .ref dp])), (ca, .inl (cI, 10, .inl cn)), (la, .inr (1, [.int (nI pid), va_rf nx, .int ct, .int tw, .long ck, .int wr, .null, .ref pq.1])), (pq.1, .inr (3, [.int pq.2.1, .int pq.2.2.1, .int pq.2.2.2.1, .long pq.2.2.2.2.1, .int pq.2.2.2.2.2.1, .int pq.2.2.2.2.2.2.1, .int pq.2.2.2.2.2.2.2]))] ++ Q) := hD
      refine lv_aload_n hx hb d_Receiver_giveUp_0 rfl (lv_at hl 1 rfl) ?_
      have hPc := hP.sub (ws' := [(la, .inr (1, [.int (nI pid), va_rf nx, .int ct, .int tw, .long ck, .int wr, .null, va_rf (some pq.1)]))]) [2] rfl
      have hKc := hK.sub (tys' := []) [] rfl
      refine z_ci (va_runV (As := []) (rest := []) ⟨hx, hb, hml, hown, hts⟩ (c_Lane_gathersSection0 l D la nx (some pq.1) (nI pid) ct tw wr ck ) (z_cV hN wd_293 wd_74 wd_290 hd_Lane_gathersSection rfl rfl ⟨Nat.le_of_ble_eq_true rfl, Nat.le_of_ble_eq_true rfl⟩ wd_291 wd_292) (z_preV (va_recv (ci := 1) (q0 := 2) hK hP rfl rfl) hPc hKc hN) rfl rfl hl.1 rfl (lv_room (Nat.le_of_ble_eq_true rfl)) d_Receiver_giveUp_1 ⟨Nat.le_of_ble_eq_true rfl, Nat.le_of_ble_eq_true rfl⟩) (fun r1 e1 => ?_)
      subst e1
      refine lv_if_eq (tgt := 26) hx hb d_Receiver_giveUp_4 rfl (fun h4 => ?_) (fun h9 => absurd rfl h9)
      refine lv_aload_n hx hb d_Receiver_giveUp_26 rfl (lv_at hl 1 rfl) ?_
      have hPc := hP.sub (ws' := [(la, .inr (1, [.int (nI pid), va_rf nx, .int ct, .int tw, .long ck, .int wr, va_rf none, .ref pq.1])), (pq.1, .inr (3, [.int pq.2.1, .int pq.2.2.1, .int pq.2.2.2.1, .long pq.2.2.2.2.1, .int pq.2.2.2.2.2.1, .int pq.2.2.2.2.2.2.1, .int pq.2.2.2.2.2.2.2]))]) [2, 3] rfl
      have hKc := hK.sub (tys' := []) [] rfl
      refine z_ci (va_runV (As := []) (rest := []) ⟨hx, hb, hml, hown, hts⟩ (c_Lane_gathersPiece1 l D la pq.1 nx none (nI pid) ct tw wr ck pq.2.1 pq.2.2.1 pq.2.2.2.1 pq.2.2.2.2.2.1 pq.2.2.2.2.2.2.1 pq.2.2.2.2.2.2.2 pq.2.2.2.2.1 ) (z_cV hN wd_297 wd_74 wd_294 hd_Lane_gathersPiece rfl rfl ⟨Nat.le_of_ble_eq_true rfl, Nat.le_of_ble_eq_true rfl⟩ wd_295 wd_296) (z_preV (va_recv (ci := 1) (q0 := 2) hK hP rfl rfl) hPc hKc hN) rfl rfl hl.1 rfl (lv_room (Nat.le_of_ble_eq_true rfl)) d_Receiver_giveUp_27 ⟨Nat.le_of_ble_eq_true rfl, Nat.le_of_ble_eq_true rfl⟩) (fun r27 e27 => ?_)
      refine z_topi (w := if pq.2.1 = 0 then 0 else 1) e27 ?_
      refine lv_if_eq (tgt := 52) hx hb d_Receiver_giveUp_30 rfl (fun h30 => ?_) (fun h30 => ?_)
      · have h30 := gp_0 h30
        rw [h30] at hP hD
        have hcn : cn = guC cn none (some pq) := by
          simp [guC, cup, secN, pieO, h30]
        rw [hcn] at hP hD
        have hP : va_P D classes ([(rv, .inr (4, [.ref tp, .ref ln, .ref tb, .ref ca, .ref dp])), (ca, .inl (cI, 10, .inl (guC cn none (some pq))))] ++ (lzc cB (la, pid, nx, ct, tw, ck, wr, none, some (pq.1, 0, pq.2.2.1, pq.2.2.2.1, pq.2.2.2.2.1, pq.2.2.2.2.2.1, pq.2.2.2.2.2.2.1, pq.2.2.2.2.2.2.2)) ++ Q)) s.heap := hP
        have hD : va_D A ([(rv, .inr (4, [.ref tp, .ref ln, .ref tb, .ref ca, .ref dp])), (ca, .inl (cI, 10, .inl (guC cn none (some pq))))] ++ (lzc cB (la, pid, nx, ct, tw, ck, wr, none, some (pq.1, 0, pq.2.2.1, pq.2.2.2.1, pq.2.2.2.2.1, pq.2.2.2.2.2.1, pq.2.2.2.2.2.2.1, pq.2.2.2.2.2.2.2)) ++ Q)) := hD
        have hP9 := hP.part (cx := [(rv, .inr (4, [.ref tp, .ref ln, .ref tb, .ref ca, .ref dp])), (ca, .inl (cI, 10, .inl (guC cn none (some pq))))]) [0, 1] rfl
        have hD9 := hD.part (cx := [(rv, .inr (4, [.ref tp, .ref ln, .ref tb, .ref ca, .ref dp])), (ca, .inl (cI, 10, .inl (guC cn none (some pq))))]) [0, 1] (by decide) rfl
        have hK9 := hK.sub (tys' := [(cB, .byte), (cI, .int)]) [0, 1] rfl
        exact W.vret hx hb hr (fun t ht hW => ⟨⟨(), rfl, trivial, ⟨by rw [ht]; exact hP9, va_K.moved hW.alike hK9, hD9⟩⟩, hS.F ht⟩) hS.2.2 d_Receiver_giveUp_52
      · have h30 := gp_1 h30
        refine lv_aload_n hx hb d_Receiver_giveUp_33 rfl (lv_at hl 1 rfl) ?_
        refine va_getN (D := D) (ci := 1) (v := .ref pq.1) (C := R_Lane) (T := F_Lane) (N := 8) hx hb hts i_Lane hown hK hP 2 rfl rfl 7 (by decide) (hts _ wd_258) (fun _ h9 => h9) rfl d_Receiver_giveUp_34 ?_
        refine lv_iconst (v := 0) hx hb d_Receiver_giveUp_37 (by decide) ?_
        refine va_putN (D := D) (ci := 3) (v := .int 0) (ty := .boolean) (C := R_Piece) (T := F_Piece) (N := 7) hx hb hts i_Piece t_Piece t_Piece_ok n_Piece hown hK hP hD hS 3 rfl rfl 0 (by decide) (hts _ wd_359) (fun _ h9 => h9) rfl (by decide +kernel) rfl rfl (Nat.le_of_ble_eq_true rfl) d_Receiver_giveUp_38 (fun H locs hP hD hS => ?_)
        have hP : va_P D classes ([(rv, .inr (4, [.ref tp, .ref ln, .ref tb, .ref ca, .ref dp])), (ca, .inl (cI, 10, .inl cn)), (la, .inr (1, [.int (nI pid), va_rf nx, .int ct, .int tw, .long ck, .int wr, .null, .ref pq.1])), (pq.1, .inr (3, [.int 0, .int pq.2.2.1, .int pq.2.2.2.1, .long pq.2.2.2.2.1, .int pq.2.2.2.2.2.1, .int pq.2.2.2.2.2.2.1, .int pq.2.2.2.2.2.2.2]))] ++ Q) H := hP
        have hD : va_D A ([(rv, .inr (4, [.ref tp, .ref ln, .ref tb, .ref ca, .ref dp])), (ca, .inl (cI, 10, .inl cn)), (la, .inr (1, [.int (nI pid), va_rf nx, .int ct, .int tw, .long ck, .int wr, .null, .ref pq.1])), (pq.1, .inr (3, [.int 0, .int pq.2.2.1, .int pq.2.2.2.1, .long pq.2.2.2.2.1, .int pq.2.2.2.2.2.1, .int pq.2.2.2.2.2.2.1, .int pq.2.2.2.2.2.2.2]))] ++ Q) := hD
        refine lv_aload_n hx hb d_Receiver_giveUp_41 rfl (lv_at hl 0 rfl) ?_
        refine va_get (D := D) (ci := 4) (v := .ref ca) (C := R_Receiver) (T := F_Receiver) (N := 5) hx hb hts i_Receiver hown hK hP 0 rfl rfl 3 (by decide) (hts _ wd_181) (fun _ h9 => h9) rfl d_Receiver_giveUp_42 ?_
        refine lv_bipush (v := 8) hx hb d_Receiver_giveUp_45 (by decide) ?_
        refine lv_dup2_11 hx hb d_Receiver_giveUp_47 rfl rfl ?_
        refine z_iald hx hb hK hP 1 1 rfl rfl 8 rfl (by decide) (by decide) d_Receiver_giveUp_48 ?_
        refine lv_iconst (v := 1) hx hb d_Receiver_giveUp_49 (by decide) ?_
        refine lv_iadd hx hb d_Receiver_giveUp_50 ?_
        refine z_iast hx hb hK hP hD hS 1 1 rfl rfl 8 rfl (by decide) (by decide) d_Receiver_giveUp_51 (fun H locs hP hD hS => ?_)
        have hP : va_P D classes ([(rv, .inr (4, [.ref tp, .ref ln, .ref tb, .ref ca, .ref dp])), (ca, .inl (cI, 10, .inl (upd cn 8 ((cn 8) + 1)))), (la, .inr (1, [.int (nI pid), va_rf nx, .int ct, .int tw, .long ck, .int wr, .null, .ref pq.1])), (pq.1, .inr (3, [.int 0, .int pq.2.2.1, .int pq.2.2.2.1, .long pq.2.2.2.2.1, .int pq.2.2.2.2.2.1, .int pq.2.2.2.2.2.2.1, .int pq.2.2.2.2.2.2.2]))] ++ Q) H := hP
        have hD : va_D A ([(rv, .inr (4, [.ref tp, .ref ln, .ref tb, .ref ca, .ref dp])), (ca, .inl (cI, 10, .inl (upd cn 8 ((cn 8) + 1)))), (la, .inr (1, [.int (nI pid), va_rf nx, .int ct, .int tw, .long ck, .int wr, .null, .ref pq.1])), (pq.1, .inr (3, [.int 0, .int pq.2.2.1, .int pq.2.2.2.1, .long pq.2.2.2.2.1, .int pq.2.2.2.2.2.1, .int pq.2.2.2.2.2.2.1, .int pq.2.2.2.2.2.2.2]))] ++ Q) := hD
        have hcn : upd cn 8 ((cn 8) + 1) = guC cn none (some pq) := by
          simp [guC, cup, secN, pieO, h30]
        rw [hcn] at hP hD
        have hP : va_P D classes ([(rv, .inr (4, [.ref tp, .ref ln, .ref tb, .ref ca, .ref dp])), (ca, .inl (cI, 10, .inl (guC cn none (some pq))))] ++ (lzc cB (la, pid, nx, ct, tw, ck, wr, none, some (pq.1, 0, pq.2.2.1, pq.2.2.2.1, pq.2.2.2.2.1, pq.2.2.2.2.2.1, pq.2.2.2.2.2.2.1, pq.2.2.2.2.2.2.2)) ++ Q)) H := hP
        have hD : va_D A ([(rv, .inr (4, [.ref tp, .ref ln, .ref tb, .ref ca, .ref dp])), (ca, .inl (cI, 10, .inl (guC cn none (some pq))))] ++ (lzc cB (la, pid, nx, ct, tw, ck, wr, none, some (pq.1, 0, pq.2.2.1, pq.2.2.2.1, pq.2.2.2.2.1, pq.2.2.2.2.2.1, pq.2.2.2.2.2.2.1, pq.2.2.2.2.2.2.2)) ++ Q)) := hD
        have hP9 := hP.part (cx := [(rv, .inr (4, [.ref tp, .ref ln, .ref tb, .ref ca, .ref dp])), (ca, .inl (cI, 10, .inl (guC cn none (some pq))))]) [0, 1] rfl
        have hD9 := hD.part (cx := [(rv, .inr (4, [.ref tp, .ref ln, .ref tb, .ref ca, .ref dp])), (ca, .inl (cI, 10, .inl (guC cn none (some pq))))]) [0, 1] (by decide) rfl
        have hK9 := hK.sub (tys' := [(cB, .byte), (cI, .int)]) [0, 1] rfl
        exact W.vret hx hb hr (fun t ht hW => ⟨⟨(), rfl, trivial, ⟨by rw [ht]; exact hP9, va_K.moved hW.alike hK9, hD9⟩⟩, hS.F ht⟩) hS.2.2 d_Receiver_giveUp_52
  | some sq =>
    cases pi with
    | none =>
      have hP : va_P D classes ([(rv, .inr (4, [.ref tp, .ref ln, .ref tb, .ref ca, .ref dp])), (ca, .inl (cI, 10, .inl cn)), (la, .inr (1, [.int (nI pid), va_rf nx, .int ct, .int tw, .long ck, .int wr, .ref sq.1, .null])), (sq.1, .inr (0, [.ref sq.2.1, .int (nI sq.2.2.1)])), (sq.2.1, .inl (cB, 1024, .inl sq.2.2.2))] ++ Q) s.heap := hP
      have hD : va_D A ([(rv, .inr (4, [.ref tp, .ref ln, .ref tb, .ref ca, .ref dp])), (ca, .inl (cI, 10, .inl cn)), (la, .inr (1, [.int (nI pid), va_rf nx, .int ct, .int tw, .long ck, .int wr, .ref sq.1, .null])), (sq.1, .inr (0, [.ref sq.2.1, .int (nI sq.2.2.1)])), (sq.2.1, .inl (cB, 1024, .inl sq.2.2.2))] ++ Q) := hD
      have hsn := hse _ rfl
      refine lv_aload_n hx hb d_Receiver_giveUp_0 rfl (lv_at hl 1 rfl) ?_
      have hPc := hP.sub (ws' := [(la, .inr (1, [.int (nI pid), va_rf nx, .int ct, .int tw, .long ck, .int wr, .ref sq.1, va_rf none])), (sq.1, .inr (0, [.ref sq.2.1, .int (nI sq.2.2.1)]))]) [2, 3] rfl
      have hKc := hK.sub (tys' := []) [] rfl
      refine z_ci (va_runV (As := []) (rest := []) ⟨hx, hb, hml, hown, hts⟩ (c_Lane_gathersSection1 l D la sq.1 sq.2.1 sq.2.2.1 nx none (nI pid) ct tw wr ck (by omega)) (z_cV hN wd_293 wd_74 wd_290 hd_Lane_gathersSection rfl rfl ⟨Nat.le_of_ble_eq_true rfl, Nat.le_of_ble_eq_true rfl⟩ wd_291 wd_292) (z_preV (va_recv (ci := 1) (q0 := 2) hK hP rfl rfl) hPc hKc hN) rfl rfl hl.1 rfl (lv_room (Nat.le_of_ble_eq_true rfl)) d_Receiver_giveUp_1 ⟨Nat.le_of_ble_eq_true rfl, Nat.le_of_ble_eq_true rfl⟩) (fun r1 e1 => ?_)
      refine z_topi (w := if sq.2.2.1 = 0 then 0 else 1) e1 ?_
      refine lv_if_eq (tgt := 26) hx hb d_Receiver_giveUp_4 rfl (fun h4 => ?_) (fun h4 => ?_)
      · have h4 := gu_0 h4
        rw [h4] at hP hD
        refine lv_aload_n hx hb d_Receiver_giveUp_26 rfl (lv_at hl 1 rfl) ?_
        have hPc := hP.sub (ws' := [(la, .inr (1, [.int (nI pid), va_rf nx, .int ct, .int tw, .long ck, .int wr, va_rf (some sq.1), .null]))]) [2] rfl
        have hKc := hK.sub (tys' := []) [] rfl
        refine z_ci (va_runV (As := []) (rest := []) ⟨hx, hb, hml, hown, hts⟩ (c_Lane_gathersPiece0 l D la nx (some sq.1) (nI pid) ct tw wr ck ) (z_cV hN wd_297 wd_74 wd_294 hd_Lane_gathersPiece rfl rfl ⟨Nat.le_of_ble_eq_true rfl, Nat.le_of_ble_eq_true rfl⟩ wd_295 wd_296) (z_preV (va_recv (ci := 1) (q0 := 2) hK hP rfl rfl) hPc hKc hN) rfl rfl hl.1 rfl (lv_room (Nat.le_of_ble_eq_true rfl)) d_Receiver_giveUp_27 ⟨Nat.le_of_ble_eq_true rfl, Nat.le_of_ble_eq_true rfl⟩) (fun r27 e27 => ?_)
        subst e27
        refine lv_if_eq (tgt := 52) hx hb d_Receiver_giveUp_30 rfl (fun h30 => ?_) (fun h9 => absurd rfl h9)
        have hcn : cn = guC cn (some sq) none := by
          simp [guC, cup, secN, pieO, h4]
        rw [hcn] at hP hD
        have hP : va_P D classes ([(rv, .inr (4, [.ref tp, .ref ln, .ref tb, .ref ca, .ref dp])), (ca, .inl (cI, 10, .inl (guC cn (some sq) none)))] ++ (lzc cB (la, pid, nx, ct, tw, ck, wr, some (sq.1, sq.2.1, 0, sq.2.2.2), none) ++ Q)) s.heap := hP
        have hD : va_D A ([(rv, .inr (4, [.ref tp, .ref ln, .ref tb, .ref ca, .ref dp])), (ca, .inl (cI, 10, .inl (guC cn (some sq) none)))] ++ (lzc cB (la, pid, nx, ct, tw, ck, wr, some (sq.1, sq.2.1, 0, sq.2.2.2), none) ++ Q)) := hD
        have hP9 := hP.part (cx := [(rv, .inr (4, [.ref tp, .ref ln, .ref tb, .ref ca, .ref dp])), (ca, .inl (cI, 10, .inl (guC cn (some sq) none)))]) [0, 1] rfl
        have hD9 := hD.part (cx := [(rv, .inr (4, [.ref tp, .ref ln, .ref tb, .ref ca, .ref dp])), (ca, .inl (cI, 10, .inl (guC cn (some sq) none)))]) [0, 1] (by decide) rfl
        have hK9 := hK.sub (tys' := [(cB, .byte), (cI, .int)]) [0, 1] rfl
        exact W.vret hx hb hr (fun t ht hW => ⟨⟨(), rfl, trivial, ⟨by rw [ht]; exact hP9, va_K.moved hW.alike hK9, hD9⟩⟩, hS.F ht⟩) hS.2.2 d_Receiver_giveUp_52
      · have h4 := gu_1 h4
        refine lv_aload_n hx hb d_Receiver_giveUp_7 rfl (lv_at hl 1 rfl) ?_
        refine va_getN (D := D) (ci := 1) (v := .ref sq.1) (C := R_Lane) (T := F_Lane) (N := 8) hx hb hts i_Lane hown hK hP 2 rfl rfl 6 (by decide) (hts _ wd_256) (fun _ h9 => h9) rfl d_Receiver_giveUp_8 ?_
        refine lv_iconst (v := 0) hx hb d_Receiver_giveUp_11 (by decide) ?_
        refine va_putN (D := D) (ci := 0) (v := .int 0) (ty := .int) (C := R_Row) (T := F_Row) (N := 2) hx hb hts i_Row t_Row t_Row_ok n_Row hown hK hP hD hS 3 rfl rfl 1 (by decide) (hts _ wd_111) (fun _ h9 => h9) rfl (by decide +kernel) rfl rfl (Nat.le_of_ble_eq_true rfl) d_Receiver_giveUp_12 (fun H locs hP hD hS => ?_)
        have hP : va_P D classes ([(rv, .inr (4, [.ref tp, .ref ln, .ref tb, .ref ca, .ref dp])), (ca, .inl (cI, 10, .inl cn)), (la, .inr (1, [.int (nI pid), va_rf nx, .int ct, .int tw, .long ck, .int wr, .ref sq.1, .null])), (sq.1, .inr (0, [.ref sq.2.1, .int 0])), (sq.2.1, .inl (cB, 1024, .inl sq.2.2.2))] ++ Q) H := hP
        have hD : va_D A ([(rv, .inr (4, [.ref tp, .ref ln, .ref tb, .ref ca, .ref dp])), (ca, .inl (cI, 10, .inl cn)), (la, .inr (1, [.int (nI pid), va_rf nx, .int ct, .int tw, .long ck, .int wr, .ref sq.1, .null])), (sq.1, .inr (0, [.ref sq.2.1, .int 0])), (sq.2.1, .inl (cB, 1024, .inl sq.2.2.2))] ++ Q) := hD
        refine lv_aload_n hx hb d_Receiver_giveUp_15 rfl (lv_at hl 0 rfl) ?_
        refine va_get (D := D) (ci := 4) (v := .ref ca) (C := R_Receiver) (T := F_Receiver) (N := 5) hx hb hts i_Receiver hown hK hP 0 rfl rfl 3 (by decide) (hts _ wd_181) (fun _ h9 => h9) rfl d_Receiver_giveUp_16 ?_
        refine lv_bipush (v := 8) hx hb d_Receiver_giveUp_19 (by decide) ?_
        refine lv_dup2_11 hx hb d_Receiver_giveUp_21 rfl rfl ?_
        refine z_iald hx hb hK hP 1 1 rfl rfl 8 rfl (by decide) (by decide) d_Receiver_giveUp_22 ?_
        refine lv_iconst (v := 1) hx hb d_Receiver_giveUp_23 (by decide) ?_
        refine lv_iadd hx hb d_Receiver_giveUp_24 ?_
        refine z_iast hx hb hK hP hD hS 1 1 rfl rfl 8 rfl (by decide) (by decide) d_Receiver_giveUp_25 (fun H locs hP hD hS => ?_)
        have hP : va_P D classes ([(rv, .inr (4, [.ref tp, .ref ln, .ref tb, .ref ca, .ref dp])), (ca, .inl (cI, 10, .inl (upd cn 8 ((cn 8) + 1)))), (la, .inr (1, [.int (nI pid), va_rf nx, .int ct, .int tw, .long ck, .int wr, .ref sq.1, .null])), (sq.1, .inr (0, [.ref sq.2.1, .int 0])), (sq.2.1, .inl (cB, 1024, .inl sq.2.2.2))] ++ Q) H := hP
        have hD : va_D A ([(rv, .inr (4, [.ref tp, .ref ln, .ref tb, .ref ca, .ref dp])), (ca, .inl (cI, 10, .inl (upd cn 8 ((cn 8) + 1)))), (la, .inr (1, [.int (nI pid), va_rf nx, .int ct, .int tw, .long ck, .int wr, .ref sq.1, .null])), (sq.1, .inr (0, [.ref sq.2.1, .int 0])), (sq.2.1, .inl (cB, 1024, .inl sq.2.2.2))] ++ Q) := hD
        refine lv_aload_n hx hb d_Receiver_giveUp_26 rfl (lv_at hl 1 rfl) ?_
        have hPc := hP.sub (ws' := [(la, .inr (1, [.int (nI pid), va_rf nx, .int ct, .int tw, .long ck, .int wr, va_rf (some sq.1), .null]))]) [2] rfl
        have hKc := hK.sub (tys' := []) [] rfl
        refine z_ci (va_runV (As := []) (rest := []) ⟨hx, hb, hml, hown, hts⟩ (c_Lane_gathersPiece0 l D la nx (some sq.1) (nI pid) ct tw wr ck ) (z_cV hN wd_297 wd_74 wd_294 hd_Lane_gathersPiece rfl rfl ⟨Nat.le_of_ble_eq_true rfl, Nat.le_of_ble_eq_true rfl⟩ wd_295 wd_296) (z_preV (va_recv (ci := 1) (q0 := 2) hK hP rfl rfl) hPc hKc hN) rfl rfl hl.1 rfl (lv_room (Nat.le_of_ble_eq_true rfl)) d_Receiver_giveUp_27 ⟨Nat.le_of_ble_eq_true rfl, Nat.le_of_ble_eq_true rfl⟩) (fun r27 e27 => ?_)
        subst e27
        refine lv_if_eq (tgt := 52) hx hb d_Receiver_giveUp_30 rfl (fun h30 => ?_) (fun h9 => absurd rfl h9)
        have hcn : upd cn 8 ((cn 8) + 1) = guC cn (some sq) none := by
          simp [guC, cup, secN, pieO, h4]
        rw [hcn] at hP hD
        have hP : va_P D classes ([(rv, .inr (4, [.ref tp, .ref ln, .ref tb, .ref ca, .ref dp])), (ca, .inl (cI, 10, .inl (guC cn (some sq) none)))] ++ (lzc cB (la, pid, nx, ct, tw, ck, wr, some (sq.1, sq.2.1, 0, sq.2.2.2), none) ++ Q)) H := hP
        have hD : va_D A ([(rv, .inr (4, [.ref tp, .ref ln, .ref tb, .ref ca, .ref dp])), (ca, .inl (cI, 10, .inl (guC cn (some sq) none)))] ++ (lzc cB (la, pid, nx, ct, tw, ck, wr, some (sq.1, sq.2.1, 0, sq.2.2.2), none) ++ Q)) := hD
        have hP9 := hP.part (cx := [(rv, .inr (4, [.ref tp, .ref ln, .ref tb, .ref ca, .ref dp])), (ca, .inl (cI, 10, .inl (guC cn (some sq) none)))]) [0, 1] rfl
        have hD9 := hD.part (cx := [(rv, .inr (4, [.ref tp, .ref ln, .ref tb, .ref ca, .ref dp])), (ca, .inl (cI, 10, .inl (guC cn (some sq) none)))]) [0, 1] (by decide) rfl
        have hK9 := hK.sub (tys' := [(cB, .byte), (cI, .int)]) [0, 1] rfl
        exact W.vret hx hb hr (fun t ht hW => ⟨⟨(), rfl, trivial, ⟨by rw [ht]; exact hP9, va_K.moved hW.alike hK9, hD9⟩⟩, hS.F ht⟩) hS.2.2 d_Receiver_giveUp_52
    | some pq =>
      have hP : va_P D classes ([(rv, .inr (4, [.ref tp, .ref ln, .ref tb, .ref ca, .ref dp])), (ca, .inl (cI, 10, .inl cn)), (la, .inr (1, [.int (nI pid), va_rf nx, .int ct, .int tw, .long ck, .int wr, .ref sq.1, .ref pq.1])), (sq.1, .inr (0, [.ref sq.2.1, .int (nI sq.2.2.1)])), (sq.2.1, .inl (cB, 1024, .inl sq.2.2.2)), (pq.1, .inr (3, [.int pq.2.1, .int pq.2.2.1, .int pq.2.2.2.1, .long pq.2.2.2.2.1, .int pq.2.2.2.2.2.1, .int pq.2.2.2.2.2.2.1, .int pq.2.2.2.2.2.2.2]))] ++ Q) s.heap := hP
      have hD : va_D A ([(rv, .inr (4, [.ref tp, .ref ln, .ref tb, .ref ca, .ref dp])), (ca, .inl (cI, 10, .inl cn)), (la, .inr (1, [.int (nI pid), va_rf nx, .int ct, .int tw, .long ck, .int wr, .ref sq.1, .ref pq.1])), (sq.1, .inr (0, [.ref sq.2.1, .int (nI sq.2.2.1)])), (sq.2.1, .inl (cB, 1024, .inl sq.2.2.2)), (pq.1, .inr (3, [.int pq.2.1, .int pq.2.2.1, .int pq.2.2.2.1, .long pq.2.2.2.2.1, .int pq.2.2.2.2.2.1, .int pq.2.2.2.2.2.2.1, .int pq.2.2.2.2.2.2.2]))] ++ Q) := hD
      have hsn := hse _ rfl
      refine lv_aload_n hx hb d_Receiver_giveUp_0 rfl (lv_at hl 1 rfl) ?_
      have hPc := hP.sub (ws' := [(la, .inr (1, [.int (nI pid), va_rf nx, .int ct, .int tw, .long ck, .int wr, .ref sq.1, va_rf (some pq.1)])), (sq.1, .inr (0, [.ref sq.2.1, .int (nI sq.2.2.1)]))]) [2, 3] rfl
      have hKc := hK.sub (tys' := []) [] rfl
      refine z_ci (va_runV (As := []) (rest := []) ⟨hx, hb, hml, hown, hts⟩ (c_Lane_gathersSection1 l D la sq.1 sq.2.1 sq.2.2.1 nx (some pq.1) (nI pid) ct tw wr ck (by omega)) (z_cV hN wd_293 wd_74 wd_290 hd_Lane_gathersSection rfl rfl ⟨Nat.le_of_ble_eq_true rfl, Nat.le_of_ble_eq_true rfl⟩ wd_291 wd_292) (z_preV (va_recv (ci := 1) (q0 := 2) hK hP rfl rfl) hPc hKc hN) rfl rfl hl.1 rfl (lv_room (Nat.le_of_ble_eq_true rfl)) d_Receiver_giveUp_1 ⟨Nat.le_of_ble_eq_true rfl, Nat.le_of_ble_eq_true rfl⟩) (fun r1 e1 => ?_)
      refine z_topi (w := if sq.2.2.1 = 0 then 0 else 1) e1 ?_
      refine lv_if_eq (tgt := 26) hx hb d_Receiver_giveUp_4 rfl (fun h4 => ?_) (fun h4 => ?_)
      · have h4 := gu_0 h4
        rw [h4] at hP hD
        refine lv_aload_n hx hb d_Receiver_giveUp_26 rfl (lv_at hl 1 rfl) ?_
        have hPc := hP.sub (ws' := [(la, .inr (1, [.int (nI pid), va_rf nx, .int ct, .int tw, .long ck, .int wr, va_rf (some sq.1), .ref pq.1])), (pq.1, .inr (3, [.int pq.2.1, .int pq.2.2.1, .int pq.2.2.2.1, .long pq.2.2.2.2.1, .int pq.2.2.2.2.2.1, .int pq.2.2.2.2.2.2.1, .int pq.2.2.2.2.2.2.2]))]) [2, 5] rfl
        have hKc := hK.sub (tys' := []) [] rfl
        refine z_ci (va_runV (As := []) (rest := []) ⟨hx, hb, hml, hown, hts⟩ (c_Lane_gathersPiece1 l D la pq.1 nx (some sq.1) (nI pid) ct tw wr ck pq.2.1 pq.2.2.1 pq.2.2.2.1 pq.2.2.2.2.2.1 pq.2.2.2.2.2.2.1 pq.2.2.2.2.2.2.2 pq.2.2.2.2.1 ) (z_cV hN wd_297 wd_74 wd_294 hd_Lane_gathersPiece rfl rfl ⟨Nat.le_of_ble_eq_true rfl, Nat.le_of_ble_eq_true rfl⟩ wd_295 wd_296) (z_preV (va_recv (ci := 1) (q0 := 2) hK hP rfl rfl) hPc hKc hN) rfl rfl hl.1 rfl (lv_room (Nat.le_of_ble_eq_true rfl)) d_Receiver_giveUp_27 ⟨Nat.le_of_ble_eq_true rfl, Nat.le_of_ble_eq_true rfl⟩) (fun r27 e27 => ?_)
        refine z_topi (w := if pq.2.1 = 0 then 0 else 1) e27 ?_
        refine lv_if_eq (tgt := 52) hx hb d_Receiver_giveUp_30 rfl (fun h30 => ?_) (fun h30 => ?_)
        · have h30 := gp_0 h30
          rw [h30] at hP hD
          have hcn : cn = guC cn (some sq) (some pq) := by
            simp [guC, cup, secN, pieO, h4, h30]
          rw [hcn] at hP hD
          have hP : va_P D classes ([(rv, .inr (4, [.ref tp, .ref ln, .ref tb, .ref ca, .ref dp])), (ca, .inl (cI, 10, .inl (guC cn (some sq) (some pq))))] ++ (lzc cB (la, pid, nx, ct, tw, ck, wr, some (sq.1, sq.2.1, 0, sq.2.2.2), some (pq.1, 0, pq.2.2.1, pq.2.2.2.1, pq.2.2.2.2.1, pq.2.2.2.2.2.1, pq.2.2.2.2.2.2.1, pq.2.2.2.2.2.2.2)) ++ Q)) s.heap := hP
          have hD : va_D A ([(rv, .inr (4, [.ref tp, .ref ln, .ref tb, .ref ca, .ref dp])), (ca, .inl (cI, 10, .inl (guC cn (some sq) (some pq))))] ++ (lzc cB (la, pid, nx, ct, tw, ck, wr, some (sq.1, sq.2.1, 0, sq.2.2.2), some (pq.1, 0, pq.2.2.1, pq.2.2.2.1, pq.2.2.2.2.1, pq.2.2.2.2.2.1, pq.2.2.2.2.2.2.1, pq.2.2.2.2.2.2.2)) ++ Q)) := hD
          have hP9 := hP.part (cx := [(rv, .inr (4, [.ref tp, .ref ln, .ref tb, .ref ca, .ref dp])), (ca, .inl (cI, 10, .inl (guC cn (some sq) (some pq))))]) [0, 1] rfl
          have hD9 := hD.part (cx := [(rv, .inr (4, [.ref tp, .ref ln, .ref tb, .ref ca, .ref dp])), (ca, .inl (cI, 10, .inl (guC cn (some sq) (some pq))))]) [0, 1] (by decide) rfl
          have hK9 := hK.sub (tys' := [(cB, .byte), (cI, .int)]) [0, 1] rfl
          exact W.vret hx hb hr (fun t ht hW => ⟨⟨(), rfl, trivial, ⟨by rw [ht]; exact hP9, va_K.moved hW.alike hK9, hD9⟩⟩, hS.F ht⟩) hS.2.2 d_Receiver_giveUp_52
        · have h30 := gp_1 h30
          refine lv_aload_n hx hb d_Receiver_giveUp_33 rfl (lv_at hl 1 rfl) ?_
          refine va_getN (D := D) (ci := 1) (v := .ref pq.1) (C := R_Lane) (T := F_Lane) (N := 8) hx hb hts i_Lane hown hK hP 2 rfl rfl 7 (by decide) (hts _ wd_258) (fun _ h9 => h9) rfl d_Receiver_giveUp_34 ?_
          refine lv_iconst (v := 0) hx hb d_Receiver_giveUp_37 (by decide) ?_
          refine va_putN (D := D) (ci := 3) (v := .int 0) (ty := .boolean) (C := R_Piece) (T := F_Piece) (N := 7) hx hb hts i_Piece t_Piece t_Piece_ok n_Piece hown hK hP hD hS 5 rfl rfl 0 (by decide) (hts _ wd_359) (fun _ h9 => h9) rfl (by decide +kernel) rfl rfl (Nat.le_of_ble_eq_true rfl) d_Receiver_giveUp_38 (fun H locs hP hD hS => ?_)
          have hP : va_P D classes ([(rv, .inr (4, [.ref tp, .ref ln, .ref tb, .ref ca, .ref dp])), (ca, .inl (cI, 10, .inl cn)), (la, .inr (1, [.int (nI pid), va_rf nx, .int ct, .int tw, .long ck, .int wr, .ref sq.1, .ref pq.1])), (sq.1, .inr (0, [.ref sq.2.1, .int (nI 0)])), (sq.2.1, .inl (cB, 1024, .inl sq.2.2.2)), (pq.1, .inr (3, [.int 0, .int pq.2.2.1, .int pq.2.2.2.1, .long pq.2.2.2.2.1, .int pq.2.2.2.2.2.1, .int pq.2.2.2.2.2.2.1, .int pq.2.2.2.2.2.2.2]))] ++ Q) H := hP
          have hD : va_D A ([(rv, .inr (4, [.ref tp, .ref ln, .ref tb, .ref ca, .ref dp])), (ca, .inl (cI, 10, .inl cn)), (la, .inr (1, [.int (nI pid), va_rf nx, .int ct, .int tw, .long ck, .int wr, .ref sq.1, .ref pq.1])), (sq.1, .inr (0, [.ref sq.2.1, .int (nI 0)])), (sq.2.1, .inl (cB, 1024, .inl sq.2.2.2)), (pq.1, .inr (3, [.int 0, .int pq.2.2.1, .int pq.2.2.2.1, .long pq.2.2.2.2.1, .int pq.2.2.2.2.2.1, .int pq.2.2.2.2.2.2.1, .int pq.2.2.2.2.2.2.2]))] ++ Q) := hD
          refine lv_aload_n hx hb d_Receiver_giveUp_41 rfl (lv_at hl 0 rfl) ?_
          refine va_get (D := D) (ci := 4) (v := .ref ca) (C := R_Receiver) (T := F_Receiver) (N := 5) hx hb hts i_Receiver hown hK hP 0 rfl rfl 3 (by decide) (hts _ wd_181) (fun _ h9 => h9) rfl d_Receiver_giveUp_42 ?_
          refine lv_bipush (v := 8) hx hb d_Receiver_giveUp_45 (by decide) ?_
          refine lv_dup2_11 hx hb d_Receiver_giveUp_47 rfl rfl ?_
          refine z_iald hx hb hK hP 1 1 rfl rfl 8 rfl (by decide) (by decide) d_Receiver_giveUp_48 ?_
          refine lv_iconst (v := 1) hx hb d_Receiver_giveUp_49 (by decide) ?_
          refine lv_iadd hx hb d_Receiver_giveUp_50 ?_
          refine z_iast hx hb hK hP hD hS 1 1 rfl rfl 8 rfl (by decide) (by decide) d_Receiver_giveUp_51 (fun H locs hP hD hS => ?_)
          have hP : va_P D classes ([(rv, .inr (4, [.ref tp, .ref ln, .ref tb, .ref ca, .ref dp])), (ca, .inl (cI, 10, .inl (upd cn 8 ((cn 8) + 1)))), (la, .inr (1, [.int (nI pid), va_rf nx, .int ct, .int tw, .long ck, .int wr, .ref sq.1, .ref pq.1])), (sq.1, .inr (0, [.ref sq.2.1, .int (nI 0)])), (sq.2.1, .inl (cB, 1024, .inl sq.2.2.2)), (pq.1, .inr (3, [.int 0, .int pq.2.2.1, .int pq.2.2.2.1, .long pq.2.2.2.2.1, .int pq.2.2.2.2.2.1, .int pq.2.2.2.2.2.2.1, .int pq.2.2.2.2.2.2.2]))] ++ Q) H := hP
          have hD : va_D A ([(rv, .inr (4, [.ref tp, .ref ln, .ref tb, .ref ca, .ref dp])), (ca, .inl (cI, 10, .inl (upd cn 8 ((cn 8) + 1)))), (la, .inr (1, [.int (nI pid), va_rf nx, .int ct, .int tw, .long ck, .int wr, .ref sq.1, .ref pq.1])), (sq.1, .inr (0, [.ref sq.2.1, .int (nI 0)])), (sq.2.1, .inl (cB, 1024, .inl sq.2.2.2)), (pq.1, .inr (3, [.int 0, .int pq.2.2.1, .int pq.2.2.2.1, .long pq.2.2.2.2.1, .int pq.2.2.2.2.2.1, .int pq.2.2.2.2.2.2.1, .int pq.2.2.2.2.2.2.2]))] ++ Q) := hD
          have hcn : upd cn 8 ((cn 8) + 1) = guC cn (some sq) (some pq) := by
            simp [guC, cup, secN, pieO, h4, h30]
          rw [hcn] at hP hD
          have hP : va_P D classes ([(rv, .inr (4, [.ref tp, .ref ln, .ref tb, .ref ca, .ref dp])), (ca, .inl (cI, 10, .inl (guC cn (some sq) (some pq))))] ++ (lzc cB (la, pid, nx, ct, tw, ck, wr, some (sq.1, sq.2.1, 0, sq.2.2.2), some (pq.1, 0, pq.2.2.1, pq.2.2.2.1, pq.2.2.2.2.1, pq.2.2.2.2.2.1, pq.2.2.2.2.2.2.1, pq.2.2.2.2.2.2.2)) ++ Q)) H := hP
          have hD : va_D A ([(rv, .inr (4, [.ref tp, .ref ln, .ref tb, .ref ca, .ref dp])), (ca, .inl (cI, 10, .inl (guC cn (some sq) (some pq))))] ++ (lzc cB (la, pid, nx, ct, tw, ck, wr, some (sq.1, sq.2.1, 0, sq.2.2.2), some (pq.1, 0, pq.2.2.1, pq.2.2.2.1, pq.2.2.2.2.1, pq.2.2.2.2.2.1, pq.2.2.2.2.2.2.1, pq.2.2.2.2.2.2.2)) ++ Q)) := hD
          have hP9 := hP.part (cx := [(rv, .inr (4, [.ref tp, .ref ln, .ref tb, .ref ca, .ref dp])), (ca, .inl (cI, 10, .inl (guC cn (some sq) (some pq))))]) [0, 1] rfl
          have hD9 := hD.part (cx := [(rv, .inr (4, [.ref tp, .ref ln, .ref tb, .ref ca, .ref dp])), (ca, .inl (cI, 10, .inl (guC cn (some sq) (some pq))))]) [0, 1] (by decide) rfl
          have hK9 := hK.sub (tys' := [(cB, .byte), (cI, .int)]) [0, 1] rfl
          exact W.vret hx hb hr (fun t ht hW => ⟨⟨(), rfl, trivial, ⟨by rw [ht]; exact hP9, va_K.moved hW.alike hK9, hD9⟩⟩, hS.F ht⟩) hS.2.2 d_Receiver_giveUp_52
      · have h4 := gu_1 h4
        refine lv_aload_n hx hb d_Receiver_giveUp_7 rfl (lv_at hl 1 rfl) ?_
        refine va_getN (D := D) (ci := 1) (v := .ref sq.1) (C := R_Lane) (T := F_Lane) (N := 8) hx hb hts i_Lane hown hK hP 2 rfl rfl 6 (by decide) (hts _ wd_256) (fun _ h9 => h9) rfl d_Receiver_giveUp_8 ?_
        refine lv_iconst (v := 0) hx hb d_Receiver_giveUp_11 (by decide) ?_
        refine va_putN (D := D) (ci := 0) (v := .int 0) (ty := .int) (C := R_Row) (T := F_Row) (N := 2) hx hb hts i_Row t_Row t_Row_ok n_Row hown hK hP hD hS 3 rfl rfl 1 (by decide) (hts _ wd_111) (fun _ h9 => h9) rfl (by decide +kernel) rfl rfl (Nat.le_of_ble_eq_true rfl) d_Receiver_giveUp_12 (fun H locs hP hD hS => ?_)
        have hP : va_P D classes ([(rv, .inr (4, [.ref tp, .ref ln, .ref tb, .ref ca, .ref dp])), (ca, .inl (cI, 10, .inl cn)), (la, .inr (1, [.int (nI pid), va_rf nx, .int ct, .int tw, .long ck, .int wr, .ref sq.1, .ref pq.1])), (sq.1, .inr (0, [.ref sq.2.1, .int 0])), (sq.2.1, .inl (cB, 1024, .inl sq.2.2.2)), (pq.1, .inr (3, [.int pq.2.1, .int pq.2.2.1, .int pq.2.2.2.1, .long pq.2.2.2.2.1, .int pq.2.2.2.2.2.1, .int pq.2.2.2.2.2.2.1, .int pq.2.2.2.2.2.2.2]))] ++ Q) H := hP
        have hD : va_D A ([(rv, .inr (4, [.ref tp, .ref ln, .ref tb, .ref ca, .ref dp])), (ca, .inl (cI, 10, .inl cn)), (la, .inr (1, [.int (nI pid), va_rf nx, .int ct, .int tw, .long ck, .int wr, .ref sq.1, .ref pq.1])), (sq.1, .inr (0, [.ref sq.2.1, .int 0])), (sq.2.1, .inl (cB, 1024, .inl sq.2.2.2)), (pq.1, .inr (3, [.int pq.2.1, .int pq.2.2.1, .int pq.2.2.2.1, .long pq.2.2.2.2.1, .int pq.2.2.2.2.2.1, .int pq.2.2.2.2.2.2.1, .int pq.2.2.2.2.2.2.2]))] ++ Q) := hD
        refine lv_aload_n hx hb d_Receiver_giveUp_15 rfl (lv_at hl 0 rfl) ?_
        refine va_get (D := D) (ci := 4) (v := .ref ca) (C := R_Receiver) (T := F_Receiver) (N := 5) hx hb hts i_Receiver hown hK hP 0 rfl rfl 3 (by decide) (hts _ wd_181) (fun _ h9 => h9) rfl d_Receiver_giveUp_16 ?_
        refine lv_bipush (v := 8) hx hb d_Receiver_giveUp_19 (by decide) ?_
        refine lv_dup2_11 hx hb d_Receiver_giveUp_21 rfl rfl ?_
        refine z_iald hx hb hK hP 1 1 rfl rfl 8 rfl (by decide) (by decide) d_Receiver_giveUp_22 ?_
        refine lv_iconst (v := 1) hx hb d_Receiver_giveUp_23 (by decide) ?_
        refine lv_iadd hx hb d_Receiver_giveUp_24 ?_
        refine z_iast hx hb hK hP hD hS 1 1 rfl rfl 8 rfl (by decide) (by decide) d_Receiver_giveUp_25 (fun H locs hP hD hS => ?_)
        have hP : va_P D classes ([(rv, .inr (4, [.ref tp, .ref ln, .ref tb, .ref ca, .ref dp])), (ca, .inl (cI, 10, .inl (upd cn 8 ((cn 8) + 1)))), (la, .inr (1, [.int (nI pid), va_rf nx, .int ct, .int tw, .long ck, .int wr, .ref sq.1, .ref pq.1])), (sq.1, .inr (0, [.ref sq.2.1, .int 0])), (sq.2.1, .inl (cB, 1024, .inl sq.2.2.2)), (pq.1, .inr (3, [.int pq.2.1, .int pq.2.2.1, .int pq.2.2.2.1, .long pq.2.2.2.2.1, .int pq.2.2.2.2.2.1, .int pq.2.2.2.2.2.2.1, .int pq.2.2.2.2.2.2.2]))] ++ Q) H := hP
        have hD : va_D A ([(rv, .inr (4, [.ref tp, .ref ln, .ref tb, .ref ca, .ref dp])), (ca, .inl (cI, 10, .inl (upd cn 8 ((cn 8) + 1)))), (la, .inr (1, [.int (nI pid), va_rf nx, .int ct, .int tw, .long ck, .int wr, .ref sq.1, .ref pq.1])), (sq.1, .inr (0, [.ref sq.2.1, .int 0])), (sq.2.1, .inl (cB, 1024, .inl sq.2.2.2)), (pq.1, .inr (3, [.int pq.2.1, .int pq.2.2.1, .int pq.2.2.2.1, .long pq.2.2.2.2.1, .int pq.2.2.2.2.2.1, .int pq.2.2.2.2.2.2.1, .int pq.2.2.2.2.2.2.2]))] ++ Q) := hD
        refine lv_aload_n hx hb d_Receiver_giveUp_26 rfl (lv_at hl 1 rfl) ?_
        have hPc := hP.sub (ws' := [(la, .inr (1, [.int (nI pid), va_rf nx, .int ct, .int tw, .long ck, .int wr, va_rf (some sq.1), .ref pq.1])), (pq.1, .inr (3, [.int pq.2.1, .int pq.2.2.1, .int pq.2.2.2.1, .long pq.2.2.2.2.1, .int pq.2.2.2.2.2.1, .int pq.2.2.2.2.2.2.1, .int pq.2.2.2.2.2.2.2]))]) [2, 5] rfl
        have hKc := hK.sub (tys' := []) [] rfl
        refine z_ci (va_runV (As := []) (rest := []) ⟨hx, hb, hml, hown, hts⟩ (c_Lane_gathersPiece1 l D la pq.1 nx (some sq.1) (nI pid) ct tw wr ck pq.2.1 pq.2.2.1 pq.2.2.2.1 pq.2.2.2.2.2.1 pq.2.2.2.2.2.2.1 pq.2.2.2.2.2.2.2 pq.2.2.2.2.1 ) (z_cV hN wd_297 wd_74 wd_294 hd_Lane_gathersPiece rfl rfl ⟨Nat.le_of_ble_eq_true rfl, Nat.le_of_ble_eq_true rfl⟩ wd_295 wd_296) (z_preV (va_recv (ci := 1) (q0 := 2) hK hP rfl rfl) hPc hKc hN) rfl rfl hl.1 rfl (lv_room (Nat.le_of_ble_eq_true rfl)) d_Receiver_giveUp_27 ⟨Nat.le_of_ble_eq_true rfl, Nat.le_of_ble_eq_true rfl⟩) (fun r27 e27 => ?_)
        refine z_topi (w := if pq.2.1 = 0 then 0 else 1) e27 ?_
        refine lv_if_eq (tgt := 52) hx hb d_Receiver_giveUp_30 rfl (fun h30 => ?_) (fun h30 => ?_)
        · have h30 := gp_0 h30
          rw [h30] at hP hD
          have hcn : upd cn 8 ((cn 8) + 1) = guC cn (some sq) (some pq) := by
            simp [guC, cup, secN, pieO, h4, h30]
          rw [hcn] at hP hD
          have hP : va_P D classes ([(rv, .inr (4, [.ref tp, .ref ln, .ref tb, .ref ca, .ref dp])), (ca, .inl (cI, 10, .inl (guC cn (some sq) (some pq))))] ++ (lzc cB (la, pid, nx, ct, tw, ck, wr, some (sq.1, sq.2.1, 0, sq.2.2.2), some (pq.1, 0, pq.2.2.1, pq.2.2.2.1, pq.2.2.2.2.1, pq.2.2.2.2.2.1, pq.2.2.2.2.2.2.1, pq.2.2.2.2.2.2.2)) ++ Q)) H := hP
          have hD : va_D A ([(rv, .inr (4, [.ref tp, .ref ln, .ref tb, .ref ca, .ref dp])), (ca, .inl (cI, 10, .inl (guC cn (some sq) (some pq))))] ++ (lzc cB (la, pid, nx, ct, tw, ck, wr, some (sq.1, sq.2.1, 0, sq.2.2.2), some (pq.1, 0, pq.2.2.1, pq.2.2.2.1, pq.2.2.2.2.1, pq.2.2.2.2.2.1, pq.2.2.2.2.2.2.1, pq.2.2.2.2.2.2.2)) ++ Q)) := hD
          have hP9 := hP.part (cx := [(rv, .inr (4, [.ref tp, .ref ln, .ref tb, .ref ca, .ref dp])), (ca, .inl (cI, 10, .inl (guC cn (some sq) (some pq))))]) [0, 1] rfl
          have hD9 := hD.part (cx := [(rv, .inr (4, [.ref tp, .ref ln, .ref tb, .ref ca, .ref dp])), (ca, .inl (cI, 10, .inl (guC cn (some sq) (some pq))))]) [0, 1] (by decide) rfl
          have hK9 := hK.sub (tys' := [(cB, .byte), (cI, .int)]) [0, 1] rfl
          exact W.vret hx hb hr (fun t ht hW => ⟨⟨(), rfl, trivial, ⟨by rw [ht]; exact hP9, va_K.moved hW.alike hK9, hD9⟩⟩, hS.F ht⟩) hS.2.2 d_Receiver_giveUp_52
        · have h30 := gp_1 h30
          refine lv_aload_n hx hb d_Receiver_giveUp_33 rfl (lv_at hl 1 rfl) ?_
          refine va_getN (D := D) (ci := 1) (v := .ref pq.1) (C := R_Lane) (T := F_Lane) (N := 8) hx hb hts i_Lane hown hK hP 2 rfl rfl 7 (by decide) (hts _ wd_258) (fun _ h9 => h9) rfl d_Receiver_giveUp_34 ?_
          refine lv_iconst (v := 0) hx hb d_Receiver_giveUp_37 (by decide) ?_
          refine va_putN (D := D) (ci := 3) (v := .int 0) (ty := .boolean) (C := R_Piece) (T := F_Piece) (N := 7) hx hb hts i_Piece t_Piece t_Piece_ok n_Piece hown hK hP hD hS 5 rfl rfl 0 (by decide) (hts _ wd_359) (fun _ h9 => h9) rfl (by decide +kernel) rfl rfl (Nat.le_of_ble_eq_true rfl) d_Receiver_giveUp_38 (fun H locs hP hD hS => ?_)
          have hP : va_P D classes ([(rv, .inr (4, [.ref tp, .ref ln, .ref tb, .ref ca, .ref dp])), (ca, .inl (cI, 10, .inl (upd cn 8 ((cn 8) + 1)))), (la, .inr (1, [.int (nI pid), va_rf nx, .int ct, .int tw, .long ck, .int wr, .ref sq.1, .ref pq.1])), (sq.1, .inr (0, [.ref sq.2.1, .int 0])), (sq.2.1, .inl (cB, 1024, .inl sq.2.2.2)), (pq.1, .inr (3, [.int 0, .int pq.2.2.1, .int pq.2.2.2.1, .long pq.2.2.2.2.1, .int pq.2.2.2.2.2.1, .int pq.2.2.2.2.2.2.1, .int pq.2.2.2.2.2.2.2]))] ++ Q) H := hP
          have hD : va_D A ([(rv, .inr (4, [.ref tp, .ref ln, .ref tb, .ref ca, .ref dp])), (ca, .inl (cI, 10, .inl (upd cn 8 ((cn 8) + 1)))), (la, .inr (1, [.int (nI pid), va_rf nx, .int ct, .int tw, .long ck, .int wr, .ref sq.1, .ref pq.1])), (sq.1, .inr (0, [.ref sq.2.1, .int 0])), (sq.2.1, .inl (cB, 1024, .inl sq.2.2.2)), (pq.1, .inr (3, [.int 0, .int pq.2.2.1, .int pq.2.2.2.1, .long pq.2.2.2.2.1, .int pq.2.2.2.2.2.1, .int pq.2.2.2.2.2.2.1, .int pq.2.2.2.2.2.2.2]))] ++ Q) := hD
          refine lv_aload_n hx hb d_Receiver_giveUp_41 rfl (lv_at hl 0 rfl) ?_
          refine va_get (D := D) (ci := 4) (v := .ref ca) (C := R_Receiver) (T := F_Receiver) (N := 5) hx hb hts i_Receiver hown hK hP 0 rfl rfl 3 (by decide) (hts _ wd_181) (fun _ h9 => h9) rfl d_Receiver_giveUp_42 ?_
          refine lv_bipush (v := 8) hx hb d_Receiver_giveUp_45 (by decide) ?_
          refine lv_dup2_11 hx hb d_Receiver_giveUp_47 rfl rfl ?_
          refine z_iald hx hb hK hP 1 1 rfl rfl 8 rfl (by decide) (by decide) d_Receiver_giveUp_48 ?_
          refine lv_iconst (v := 1) hx hb d_Receiver_giveUp_49 (by decide) ?_
          refine lv_iadd hx hb d_Receiver_giveUp_50 ?_
          refine z_iast hx hb hK hP hD hS 1 1 rfl rfl 8 rfl (by decide) (by decide) d_Receiver_giveUp_51 (fun H locs hP hD hS => ?_)
          have hP : va_P D classes ([(rv, .inr (4, [.ref tp, .ref ln, .ref tb, .ref ca, .ref dp])), (ca, .inl (cI, 10, .inl (upd (upd cn 8 ((cn 8) + 1)) 8 (((upd cn 8 ((cn 8) + 1)) 8) + 1)))), (la, .inr (1, [.int (nI pid), va_rf nx, .int ct, .int tw, .long ck, .int wr, .ref sq.1, .ref pq.1])), (sq.1, .inr (0, [.ref sq.2.1, .int 0])), (sq.2.1, .inl (cB, 1024, .inl sq.2.2.2)), (pq.1, .inr (3, [.int 0, .int pq.2.2.1, .int pq.2.2.2.1, .long pq.2.2.2.2.1, .int pq.2.2.2.2.2.1, .int pq.2.2.2.2.2.2.1, .int pq.2.2.2.2.2.2.2]))] ++ Q) H := hP
          have hD : va_D A ([(rv, .inr (4, [.ref tp, .ref ln, .ref tb, .ref ca, .ref dp])), (ca, .inl (cI, 10, .inl (upd (upd cn 8 ((cn 8) + 1)) 8 (((upd cn 8 ((cn 8) + 1)) 8) + 1)))), (la, .inr (1, [.int (nI pid), va_rf nx, .int ct, .int tw, .long ck, .int wr, .ref sq.1, .ref pq.1])), (sq.1, .inr (0, [.ref sq.2.1, .int 0])), (sq.2.1, .inl (cB, 1024, .inl sq.2.2.2)), (pq.1, .inr (3, [.int 0, .int pq.2.2.1, .int pq.2.2.2.1, .long pq.2.2.2.2.1, .int pq.2.2.2.2.2.1, .int pq.2.2.2.2.2.2.1, .int pq.2.2.2.2.2.2.2]))] ++ Q) := hD
          have hcn : upd (upd cn 8 ((cn 8) + 1)) 8 (((upd cn 8 ((cn 8) + 1)) 8) + 1) = guC cn (some sq) (some pq) := by
            simp [guC, cup, secN, pieO, h4, h30]
          rw [hcn] at hP hD
          have hP : va_P D classes ([(rv, .inr (4, [.ref tp, .ref ln, .ref tb, .ref ca, .ref dp])), (ca, .inl (cI, 10, .inl (guC cn (some sq) (some pq))))] ++ (lzc cB (la, pid, nx, ct, tw, ck, wr, some (sq.1, sq.2.1, 0, sq.2.2.2), some (pq.1, 0, pq.2.2.1, pq.2.2.2.1, pq.2.2.2.2.1, pq.2.2.2.2.2.1, pq.2.2.2.2.2.2.1, pq.2.2.2.2.2.2.2)) ++ Q)) H := hP
          have hD : va_D A ([(rv, .inr (4, [.ref tp, .ref ln, .ref tb, .ref ca, .ref dp])), (ca, .inl (cI, 10, .inl (guC cn (some sq) (some pq))))] ++ (lzc cB (la, pid, nx, ct, tw, ck, wr, some (sq.1, sq.2.1, 0, sq.2.2.2), some (pq.1, 0, pq.2.2.1, pq.2.2.2.1, pq.2.2.2.2.1, pq.2.2.2.2.2.1, pq.2.2.2.2.2.2.1, pq.2.2.2.2.2.2.2)) ++ Q)) := hD
          have hP9 := hP.part (cx := [(rv, .inr (4, [.ref tp, .ref ln, .ref tb, .ref ca, .ref dp])), (ca, .inl (cI, 10, .inl (guC cn (some sq) (some pq))))]) [0, 1] rfl
          have hD9 := hD.part (cx := [(rv, .inr (4, [.ref tp, .ref ln, .ref tb, .ref ca, .ref dp])), (ca, .inl (cI, 10, .inl (guC cn (some sq) (some pq))))]) [0, 1] (by decide) rfl
          have hK9 := hK.sub (tys' := [(cB, .byte), (cI, .int)]) [0, 1] rfl
          exact W.vret hx hb hr (fun t ht hW => ⟨⟨(), rfl, trivial, ⟨by rw [ht]; exact hP9, va_K.moved hW.alike hK9, hD9⟩⟩, hS.F ht⟩) hS.2.2 d_Receiver_giveUp_52
