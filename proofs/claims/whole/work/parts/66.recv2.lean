theorem wd_2 : (Jvm.Cond.selects "StreamSplitter$Receiver" ({ cls := "StreamSplitter$Receiver", name := "giveUp", desc := "(LStreamSplitter$Lane;)V" } : Jvm.MethodName) ({ cls := "StreamSplitter$Receiver", name := "giveUp", desc := "(LStreamSplitter$Lane;)V" } : Jvm.MethodName)) ∈ lw_ok := List.mem_filter.mpr ⟨List.mem_of_getElem? (i := 2) (by decide +kernel), rfl⟩
theorem wd_249 : (Jvm.Cond.fieldLinkNest "StreamSplitter$Receiver" (76 : Nat) "StreamSplitter$Lane" "count" "I" "StreamSplitter") ∈ lw_ok := List.mem_filter.mpr ⟨List.mem_of_getElem? (i := 249) (by decide +kernel), rfl⟩
theorem wd_250 : (Jvm.Cond.fieldLinkNest "StreamSplitter$Receiver" (80 : Nat) "StreamSplitter$Lane" "twinCame" "Z" "StreamSplitter") ∈ lw_ok := List.mem_filter.mpr ⟨List.mem_of_getElem? (i := 250) (by decide +kernel), rfl⟩
theorem wd_286 : (Jvm.Cond.methodLink "StreamSplitter$Receiver" (72 : Nat) ({ cls := "StreamSplitter$Receiver", name := "giveUp", desc := "(LStreamSplitter$Lane;)V" } : Jvm.MethodName)) ∈ lw_ok := List.mem_filter.mpr ⟨List.mem_of_getElem? (i := 286) (by decide +kernel), rfl⟩
theorem wd_288 : (Jvm.Cond.instanceMethod ({ cls := "StreamSplitter$Receiver", name := "giveUp", desc := "(LStreamSplitter$Lane;)V" } : Jvm.MethodName)) ∈ lw_ok := List.mem_filter.mpr ⟨List.mem_of_getElem? (i := 288) (by decide +kernel), rfl⟩
set_option maxRecDepth 100000 in
theorem wd_289 : (Jvm.Cond.code ({ cls := "StreamSplitter$Receiver", name := "giveUp", desc := "(LStreamSplitter$Lane;)V" } : Jvm.MethodName) prog_8_method_7_code (2 : Nat) (Option.none : Option Jvm.ClassFile.FieldType)) ∈ lw_ok := List.mem_filter.mpr ⟨List.mem_of_getElem? (i := 289) (by rfl), rfl⟩
theorem hd_Receiver_giveUp : y_Receiver_giveUp.cls ≠ "java/lang/invoke/MethodHandle" ∧ y_Receiver_giveUp.cls ≠ "java/lang/invoke/VarHandle" ∧ (parseMethodDescriptor y_Receiver_giveUp.desc).map (fun d => d.parameters.length) = some 1 := by decide +kernel
theorem d_Receiver_follow_0 : decode b_Receiver_follow 0 = .ok (.iload_n 2, 1) := by decide +kernel
theorem d_Receiver_follow_1 : decode b_Receiver_follow 1 = .ok (.aload_n 1, 1) := by decide +kernel
theorem d_Receiver_follow_2 : decode b_Receiver_follow 2 = .ok (.getfield 76, 3) := by decide +kernel
theorem d_Receiver_follow_5 : decode b_Receiver_follow 5 = .ok (.if_icmp .ne 31, 3) := by decide +kernel
theorem d_Receiver_follow_8 : decode b_Receiver_follow 8 = .ok (.iload_n 3, 1) := by decide +kernel
theorem d_Receiver_follow_9 : decode b_Receiver_follow 9 = .ok (.ifCond .ne 27, 3) := by decide +kernel
theorem d_Receiver_follow_12 : decode b_Receiver_follow 12 = .ok (.aload_n 1, 1) := by decide +kernel
theorem d_Receiver_follow_13 : decode b_Receiver_follow 13 = .ok (.getfield 80, 3) := by decide +kernel
theorem d_Receiver_follow_16 : decode b_Receiver_follow 16 = .ok (.ifCond .ne 20, 3) := by decide +kernel
theorem d_Receiver_follow_19 : decode b_Receiver_follow 19 = .ok (.aload_n 1, 1) := by decide +kernel
theorem d_Receiver_follow_20 : decode b_Receiver_follow 20 = .ok (.iconst 1, 1) := by decide +kernel
theorem d_Receiver_follow_21 : decode b_Receiver_follow 21 = .ok (.putfield 80, 3) := by decide +kernel
theorem d_Receiver_follow_24 : decode b_Receiver_follow 24 = .ok (.aload_n 0, 1) := by decide +kernel
theorem d_Receiver_follow_25 : decode b_Receiver_follow 25 = .ok (.getfield 34, 3) := by decide +kernel
theorem d_Receiver_follow_28 : decode b_Receiver_follow 28 = .ok (.iconst 3, 1) := by decide +kernel
theorem d_Receiver_follow_29 : decode b_Receiver_follow 29 = .ok (.dup2, 1) := by decide +kernel
theorem d_Receiver_follow_30 : decode b_Receiver_follow 30 = .ok (.iaload, 1) := by decide +kernel
theorem d_Receiver_follow_31 : decode b_Receiver_follow 31 = .ok (.iconst 1, 1) := by decide +kernel
theorem d_Receiver_follow_32 : decode b_Receiver_follow 32 = .ok (.iadd, 1) := by decide +kernel
theorem d_Receiver_follow_33 : decode b_Receiver_follow 33 = .ok (.iastore, 1) := by decide +kernel
theorem d_Receiver_follow_34 : decode b_Receiver_follow 34 = .ok (.iconst 0, 1) := by decide +kernel
theorem d_Receiver_follow_35 : decode b_Receiver_follow 35 = .ok (.ireturn, 1) := by decide +kernel
theorem d_Receiver_follow_36 : decode b_Receiver_follow 36 = .ok (.aload_n 1, 1) := by decide +kernel
theorem d_Receiver_follow_37 : decode b_Receiver_follow 37 = .ok (.getfield 76, 3) := by decide +kernel
theorem d_Receiver_follow_40 : decode b_Receiver_follow 40 = .ok (.iconst (-1), 1) := by decide +kernel
theorem d_Receiver_follow_41 : decode b_Receiver_follow 41 = .ok (.if_icmp .eq 35, 3) := by decide +kernel
theorem d_Receiver_follow_44 : decode b_Receiver_follow 44 = .ok (.iload_n 2, 1) := by decide +kernel
theorem d_Receiver_follow_45 : decode b_Receiver_follow 45 = .ok (.aload_n 1, 1) := by decide +kernel
theorem d_Receiver_follow_46 : decode b_Receiver_follow 46 = .ok (.getfield 76, 3) := by decide +kernel
theorem d_Receiver_follow_49 : decode b_Receiver_follow 49 = .ok (.iconst 1, 1) := by decide +kernel
theorem d_Receiver_follow_50 : decode b_Receiver_follow 50 = .ok (.iadd, 1) := by decide +kernel
theorem d_Receiver_follow_51 : decode b_Receiver_follow 51 = .ok (.bipush 15, 2) := by decide +kernel
theorem d_Receiver_follow_53 : decode b_Receiver_follow 53 = .ok (.iand, 1) := by decide +kernel
theorem d_Receiver_follow_54 : decode b_Receiver_follow 54 = .ok (.if_icmp .eq 22, 3) := by decide +kernel
theorem d_Receiver_follow_57 : decode b_Receiver_follow 57 = .ok (.iload_n 3, 1) := by decide +kernel
theorem d_Receiver_follow_58 : decode b_Receiver_follow 58 = .ok (.ifCond .ne 18, 3) := by decide +kernel
theorem d_Receiver_follow_61 : decode b_Receiver_follow 61 = .ok (.aload_n 0, 1) := by decide +kernel
theorem d_Receiver_follow_62 : decode b_Receiver_follow 62 = .ok (.getfield 34, 3) := by decide +kernel
theorem d_Receiver_follow_65 : decode b_Receiver_follow 65 = .ok (.iconst 4, 1) := by decide +kernel
theorem d_Receiver_follow_66 : decode b_Receiver_follow 66 = .ok (.dup2, 1) := by decide +kernel
theorem d_Receiver_follow_67 : decode b_Receiver_follow 67 = .ok (.iaload, 1) := by decide +kernel
theorem d_Receiver_follow_68 : decode b_Receiver_follow 68 = .ok (.iconst 1, 1) := by decide +kernel
theorem d_Receiver_follow_69 : decode b_Receiver_follow 69 = .ok (.iadd, 1) := by decide +kernel
theorem d_Receiver_follow_70 : decode b_Receiver_follow 70 = .ok (.iastore, 1) := by decide +kernel
theorem d_Receiver_follow_71 : decode b_Receiver_follow 71 = .ok (.aload_n 0, 1) := by decide +kernel
theorem d_Receiver_follow_72 : decode b_Receiver_follow 72 = .ok (.aload_n 1, 1) := by decide +kernel
theorem d_Receiver_follow_73 : decode b_Receiver_follow 73 = .ok (.invokevirtual 72, 3) := by decide +kernel
theorem d_Receiver_follow_76 : decode b_Receiver_follow 76 = .ok (.aload_n 1, 1) := by decide +kernel
theorem d_Receiver_follow_77 : decode b_Receiver_follow 77 = .ok (.iload_n 2, 1) := by decide +kernel
theorem d_Receiver_follow_78 : decode b_Receiver_follow 78 = .ok (.putfield 76, 3) := by decide +kernel
theorem d_Receiver_follow_81 : decode b_Receiver_follow 81 = .ok (.aload_n 1, 1) := by decide +kernel
theorem d_Receiver_follow_82 : decode b_Receiver_follow 82 = .ok (.iconst 0, 1) := by decide +kernel
theorem d_Receiver_follow_83 : decode b_Receiver_follow 83 = .ok (.putfield 80, 3) := by decide +kernel
theorem d_Receiver_follow_86 : decode b_Receiver_follow 86 = .ok (.iconst 1, 1) := by decide +kernel
theorem d_Receiver_follow_87 : decode b_Receiver_follow 87 = .ok (.ireturn, 1) := by decide +kernel
theorem d_Receiver_payloadOf_0 : decode b_Receiver_payloadOf 0 = .ok (.aload_n 0, 1) := by decide +kernel
theorem d_Receiver_payloadOf_1 : decode b_Receiver_payloadOf 1 = .ok (.getfield 14, 3) := by decide +kernel
theorem d_Receiver_payloadOf_4 : decode b_Receiver_payloadOf 4 = .ok (.iload_n 1, 1) := by decide +kernel
theorem d_Receiver_payloadOf_5 : decode b_Receiver_payloadOf 5 = .ok (.iconst 3, 1) := by decide +kernel
theorem d_Receiver_payloadOf_6 : decode b_Receiver_payloadOf 6 = .ok (.iadd, 1) := by decide +kernel
theorem d_Receiver_payloadOf_7 : decode b_Receiver_payloadOf 7 = .ok (.invokevirtual 44, 3) := by decide +kernel
theorem d_Receiver_payloadOf_10 : decode b_Receiver_payloadOf 10 = .ok (.bipush 32, 2) := by decide +kernel
theorem d_Receiver_payloadOf_12 : decode b_Receiver_payloadOf 12 = .ok (.iand, 1) := by decide +kernel
theorem d_Receiver_payloadOf_13 : decode b_Receiver_payloadOf 13 = .ok (.ifCond .eq 7, 3) := by decide +kernel
theorem d_Receiver_payloadOf_16 : decode b_Receiver_payloadOf 16 = .ok (.iconst 1, 1) := by decide +kernel
theorem d_Receiver_payloadOf_17 : decode b_Receiver_payloadOf 17 = .ok (.goto 4, 3) := by decide +kernel
theorem d_Receiver_payloadOf_20 : decode b_Receiver_payloadOf 20 = .ok (.iconst 0, 1) := by decide +kernel
theorem d_Receiver_payloadOf_21 : decode b_Receiver_payloadOf 21 = .ok (.istore_n 2, 1) := by decide +kernel
theorem d_Receiver_payloadOf_22 : decode b_Receiver_payloadOf 22 = .ok (.iload_n 2, 1) := by decide +kernel
theorem d_Receiver_payloadOf_23 : decode b_Receiver_payloadOf 23 = .ok (.ifCond .eq 20, 3) := by decide +kernel
theorem d_Receiver_payloadOf_26 : decode b_Receiver_payloadOf 26 = .ok (.iload_n 1, 1) := by decide +kernel
theorem d_Receiver_payloadOf_27 : decode b_Receiver_payloadOf 27 = .ok (.iconst 5, 1) := by decide +kernel
theorem d_Receiver_payloadOf_28 : decode b_Receiver_payloadOf 28 = .ok (.iadd, 1) := by decide +kernel
theorem d_Receiver_payloadOf_29 : decode b_Receiver_payloadOf 29 = .ok (.aload_n 0, 1) := by decide +kernel
theorem d_Receiver_payloadOf_30 : decode b_Receiver_payloadOf 30 = .ok (.getfield 14, 3) := by decide +kernel
theorem d_Receiver_payloadOf_33 : decode b_Receiver_payloadOf 33 = .ok (.iload_n 1, 1) := by decide +kernel
theorem d_Receiver_payloadOf_34 : decode b_Receiver_payloadOf 34 = .ok (.iconst 4, 1) := by decide +kernel
theorem d_Receiver_payloadOf_35 : decode b_Receiver_payloadOf 35 = .ok (.iadd, 1) := by decide +kernel
theorem d_Receiver_payloadOf_36 : decode b_Receiver_payloadOf 36 = .ok (.invokevirtual 44, 3) := by decide +kernel
theorem d_Receiver_payloadOf_39 : decode b_Receiver_payloadOf 39 = .ok (.iadd, 1) := by decide +kernel
theorem d_Receiver_payloadOf_40 : decode b_Receiver_payloadOf 40 = .ok (.goto 6, 3) := by decide +kernel
theorem d_Receiver_payloadOf_43 : decode b_Receiver_payloadOf 43 = .ok (.iload_n 1, 1) := by decide +kernel
theorem d_Receiver_payloadOf_44 : decode b_Receiver_payloadOf 44 = .ok (.iconst 4, 1) := by decide +kernel
theorem d_Receiver_payloadOf_45 : decode b_Receiver_payloadOf 45 = .ok (.iadd, 1) := by decide +kernel
theorem d_Receiver_payloadOf_46 : decode b_Receiver_payloadOf 46 = .ok (.ireturn, 1) := by decide +kernel
/-! Following a packet's count -/
abbrev FU9 : Type := Int32 × Int32 × Int32 × (Nat → Int32) × Option SQ9 × Option PQ9
def foU (cn : Nat → Int32) (ct tw : Int32) (se : Option SQ9) (pi : Option PQ9) (c lt : Int32) : FU9 :=
  if c = ct ∧ lt = 0 ∧ tw = 0 then (0, ct, 1, cup cn 3, se, pi)
  else if ¬ ct = -1 ∧ ¬ c = (ct + 1) &&& 15 ∧ lt = 0 then (1, c, 0, guC (cup cn 4) se pi, guS se, guI pi)
  else (1, c, 0, cn, se, pi)
def rbN (f : Nat → Int32) (n ln k : Nat) : Nat := (rw_at f n ln (nI k)).toNatClampNeg
theorem rb_and (x : Int32) : ∃ b : Nat, b < 256 ∧ x &&& 255 = nI b := by
  have h : (x &&& 255).toBitVec.toNat < 256 := by
    rw [Int32.toBitVec_and, BitVec.toNat_and]
    have : (255 : Int32).toBitVec.toNat = 255 := by decide
    rw [this]
    have := @Nat.and_le_right x.toBitVec.toNat 255
    omega
  refine ⟨(x &&& 255).toBitVec.toNat, h, ?_⟩
  apply Int32.toBitVec_inj.mp
  apply BitVec.eq_of_toNat_eq
  show _ = (BitVec.ofNat 32 _).toNat
  rw [BitVec.toNat_ofNat]
  omega
theorem rb_at (f : Nat → Int32) (n ln : Nat) (i : Int32) : ∃ b : Nat, b < 256 ∧ rw_at f n ln i = nI b := by
  unfold rw_at
  split
  · exact rb_and _
  · exact ⟨0, by omega, rfl⟩
theorem rb_eq (f : Nat → Int32) (n ln k : Nat) : rw_at f n ln (nI k) = nI (rbN f n ln k) := by
  obtain ⟨b, h, e⟩ := rb_at f n ln (nI k)
  unfold rbN
  rw [e, nI_clamp (by omega)]
theorem rb_lt (f : Nat → Int32) (n ln k : Nat) : rbN f n ln k < 256 := by
  obtain ⟨b, h, e⟩ := rb_at f n ln (nI k)
  unfold rbN
  rw [e, nI_clamp (by omega)]
  exact h
theorem and_32 : ∀ b, b < 256 → (nI b &&& 32 = 0 ↔ b / 32 % 2 = 0) := by decide +kernel
def payN (f : Nat → Int32) (n ln k : Nat) : Nat := if rbN f n ln (k + 3) / 32 % 2 = 0 then k + 4 else k + 5 + rbN f n ln (k + 4)

set_option maxHeartbeats 4000000 in
set_option maxRecDepth 100000 in
theorem c_Receiver_follow (l : Launch) (D : va_G) (sz : Nat) (cB cI : ClassId) (rv tp ln tb ca dp : Nat) (cn : Nat → Int32) (la pid : Nat) (nx : Option Nat) (ct tw : Int32) (ck : Int64) (wr : Int32) (se : Option SQ9) (pi : Option PQ9) (Q : va_W) (c lt : Int32) (hse : ∀ q, se = some q → q.2.2.1 ≤ 1024) : Met l y_Receiver_follow [Cond.code y_Receiver_follow b_Receiver_follow 4 (some .boolean)] ({ frames := 2, cells := 0, slots := 0, locals := 41 }) (zM [.ref rv, .ref la, .int c, .int lt] D ([(rv, .inr (4, [.ref tp, .ref ln, .ref tb, .ref ca, .ref dp])), (ca, .inl (cI, 10, .inl cn))] ++ (lzc cB (la, pid, nx, ct, tw, ck, wr, se, pi) ++ Q)) [(cB, .byte), (cI, .int)] sz) (va_Qi (fun r0 (u : FU9) => u = foU cn ct tw se pi c lt ∧ r0 = u.1) (fun (u : FU9) t => zW D (va_A ([(rv, .inr (4, [.ref tp, .ref ln, .ref tb, .ref ca, .ref dp])), (ca, .inl (cI, 10, .inl cn))] ++ (lzc cB (la, pid, nx, ct, tw, ck, wr, se, pi) ++ Q)) sz) ([(rv, .inr (4, [.ref tp, .ref ln, .ref tb, .ref ca, .ref dp])), (ca, .inl (cI, 10, .inl u.2.2.2.1))] ++ (lzc cB (la, pid, nx, u.2.1, u.2.2.1, ck, wr, u.2.2.2.2.1, u.2.2.2.2.2) ++ Q)) [(cB, .byte), (cI, .int)] t) (va_A ([(rv, .inr (4, [.ref tp, .ref ln, .ref tb, .ref ca, .ref dp])), (ca, .inl (cI, 10, .inl cn))] ++ (lzc cB (la, pid, nx, ct, tw, ck, wr, se, pi) ++ Q)) sz)) 0 0 (va_A ([(rv, .inr (4, [.ref tp, .ref ln, .ref tb, .ref ca, .ref dp])), (ca, .inl (cI, 10, .inl cn))] ++ (lzc cB (la, pid, nx, ct, tw, ck, wr, se, pi) ++ Q)) sz) := by
  refine Met.ofW (cc := b_Receiver_follow) (maxL := 4) (ret := (some .boolean)) (by decide) rfl ?_
  intro p e s m args below meth cd s₁ Bd hml hv
  obtain ⟨rfl, hsz, hP, hK, hN, hD0⟩ := hv
  have hx := Bd.exec
  have hb := Bd.bytes
  have hr := Bd.returns
  have hts := hN.use (a := ([.ref rv, .ref la, .int c, .int lt]).toArray)
  have hown : s.vm.findClass R_Receiver = some m.cls := findClass_of_methodNamed Bd.named
  have hlocks := Bd.notSynchronized
  subst hsz
  have hD := hD0.self (sz := s.heap.size)
  clear hD0
  have hA : ∀ q : Nat, s.heap.size ≤ q → va_A ([(rv, .inr (4, [.ref tp, .ref ln, .ref tb, .ref ca, .ref dp])), (ca, .inl (cI, 10, .inl cn))] ++ (lzc cB (la, pid, nx, ct, tw, ck, wr, se, pi) ++ Q)) s.heap.size q := fun q h => Or.inr h
  have hS : va_S (va_A ([(rv, .inr (4, [.ref tp, .ref ln, .ref tb, .ref ca, .ref dp])), (ca, .inl (cI, 10, .inl cn))] ++ (lzc cB (la, pid, nx, ct, tw, ck, wr, se, pi) ++ Q)) s.heap.size) s.heap s.heap [] := va_S.rf
  generalize hAe : va_A ([(rv, .inr (4, [.ref tp, .ref ln, .ref tb, .ref ca, .ref dp])), (ca, .inl (cI, 10, .inl cn))] ++ (lzc cB (la, pid, nx, ct, tw, ck, wr, se, pi) ++ Q)) s.heap.size = A at hD hA hS ⊢
  have hP : va_P D classes ([(rv, .inr (4, [.ref tp, .ref ln, .ref tb, .ref ca, .ref dp])), (ca, .inl (cI, 10, .inl cn))] ++ (lzc cB (la, pid, nx, ct, tw, ck, wr, se, pi) ++ Q)) s.heap := hP
  have hl := lv_entry ([.ref rv, .ref la, .int c, .int lt]) (n := 4) (Nat.le_of_ble_eq_true rfl)
  rw [lg_entry_eq]
  generalize (lg_sl ([.ref rv, .ref la, .int c, .int lt]) ++ List.replicate (4 - (lg_sl ([.ref rv, .ref la, .int c, .int lt])).length) Slot.unset).toArray = ls at hl ⊢
  have hl : lv_has ls 4 [(0, .ref rv), (1, .ref la), (2, .int c), (3, .int lt)] := hl
  have hP : va_P D classes ([(rv, .inr (4, [.ref tp, .ref ln, .ref tb, .ref ca, .ref dp])), (ca, .inl (cI, 10, .inl cn)), (la, .inr (1, [.int (nI pid), va_rf nx, .int ct, .int tw, .long ck, .int wr, va_rf ((se).map (fun q => q.1)), va_rf ((pi).map (fun q => q.1))]))] ++ ((lzS cB se ++ lzI pi) ++ Q)) s.heap := hP
  have hD : va_D A ([(rv, .inr (4, [.ref tp, .ref ln, .ref tb, .ref ca, .ref dp])), (ca, .inl (cI, 10, .inl cn)), (la, .inr (1, [.int (nI pid), va_rf nx, .int ct, .int tw, .long ck, .int wr, va_rf ((se).map (fun q => q.1)), va_rf ((pi).map (fun q => q.1))]))] ++ ((lzS cB se ++ lzI pi) ++ Q)) := hD
  refine lv_iload_n hx hb d_Receiver_follow_0 rfl (lv_at hl 2 rfl) ?_
  refine lv_aload_n hx hb d_Receiver_follow_1 rfl (lv_at hl 1 rfl) ?_
  refine va_getN (D := D) (ci := 1) (v := .int ct) (C := R_Lane) (T := F_Lane) (N := 8) hx hb hts i_Lane hown hK hP 2 rfl rfl 2 (by decide) (hts _ wd_249) (fun _ h9 => h9) rfl d_Receiver_follow_2 ?_
  refine lv_icmp_ne (tgt := 36) hx hb d_Receiver_follow_5 rfl (fun h5 => ?_) (fun h5 => ?_)
  · have hnt : ¬ (c = ct ∧ lt = 0 ∧ tw = 0) := fun z => h5 z.1
    refine lv_aload_n hx hb d_Receiver_follow_36 rfl (lv_at hl 1 rfl) ?_
    refine va_getN (D := D) (ci := 1) (v := .int ct) (C := R_Lane) (T := F_Lane) (N := 8) hx hb hts i_Lane hown hK hP 2 rfl rfl 2 (by decide) (hts _ wd_249) (fun _ h9 => h9) rfl d_Receiver_follow_37 ?_
    refine lv_iconst (v := (-1)) hx hb d_Receiver_follow_40 (by decide) ?_
    refine lv_icmp_eq (tgt := 76) hx hb d_Receiver_follow_41 rfl (fun h41 => ?_) (fun h41 => ?_)
    · have hng : ¬ (¬ ct = -1 ∧ ¬ c = (ct + 1) &&& 15 ∧ lt = 0) := fun z => z.1 h41
      refine lv_aload_n hx hb d_Receiver_follow_76 rfl (lv_at hl 1 rfl) ?_
      refine lv_iload_n hx hb d_Receiver_follow_77 rfl (lv_at hl 2 rfl) ?_
      refine va_putN (D := D) (ci := 1) (v := .int c) (ty := .int) (C := R_Lane) (T := F_Lane) (N := 8) hx hb hts i_Lane t_Lane t_Lane_ok n_Lane hown hK hP hD hS 2 rfl rfl 2 (by decide) (hts _ wd_249) (fun _ h9 => h9) rfl (by decide +kernel) rfl rfl (Nat.le_of_ble_eq_true rfl) d_Receiver_follow_78 (fun H locs hP hD hS => ?_)
      have hP : va_P D classes ([(rv, .inr (4, [.ref tp, .ref ln, .ref tb, .ref ca, .ref dp])), (ca, .inl (cI, 10, .inl cn)), (la, .inr (1, [.int (nI pid), va_rf nx, .int c, .int tw, .long ck, .int wr, va_rf ((se).map (fun q => q.1)), va_rf ((pi).map (fun q => q.1))]))] ++ ((lzS cB se ++ lzI pi) ++ Q)) H := hP
      have hD : va_D A ([(rv, .inr (4, [.ref tp, .ref ln, .ref tb, .ref ca, .ref dp])), (ca, .inl (cI, 10, .inl cn)), (la, .inr (1, [.int (nI pid), va_rf nx, .int c, .int tw, .long ck, .int wr, va_rf ((se).map (fun q => q.1)), va_rf ((pi).map (fun q => q.1))]))] ++ ((lzS cB se ++ lzI pi) ++ Q)) := hD
      refine lv_aload_n hx hb d_Receiver_follow_81 rfl (lv_at hl 1 rfl) ?_
      refine lv_iconst (v := 0) hx hb d_Receiver_follow_82 (by decide) ?_
      refine va_putN (D := D) (ci := 1) (v := .int 0) (ty := .boolean) (C := R_Lane) (T := F_Lane) (N := 8) hx hb hts i_Lane t_Lane t_Lane_ok n_Lane hown hK hP hD hS 2 rfl rfl 3 (by decide) (hts _ wd_250) (fun _ h9 => h9) rfl (by decide +kernel) rfl rfl (Nat.le_of_ble_eq_true rfl) d_Receiver_follow_83 (fun H locs hP hD hS => ?_)
      have hP : va_P D classes ([(rv, .inr (4, [.ref tp, .ref ln, .ref tb, .ref ca, .ref dp])), (ca, .inl (cI, 10, .inl cn)), (la, .inr (1, [.int (nI pid), va_rf nx, .int c, .int 0, .long ck, .int wr, va_rf ((se).map (fun q => q.1)), va_rf ((pi).map (fun q => q.1))]))] ++ ((lzS cB se ++ lzI pi) ++ Q)) H := hP
      have hD : va_D A ([(rv, .inr (4, [.ref tp, .ref ln, .ref tb, .ref ca, .ref dp])), (ca, .inl (cI, 10, .inl cn)), (la, .inr (1, [.int (nI pid), va_rf nx, .int c, .int 0, .long ck, .int wr, va_rf ((se).map (fun q => q.1)), va_rf ((pi).map (fun q => q.1))]))] ++ ((lzS cB se ++ lzI pi) ++ Q)) := hD
      refine lv_iconst (v := 1) hx hb d_Receiver_follow_86 (by decide) ?_
      have hP : va_P D classes ([(rv, .inr (4, [.ref tp, .ref ln, .ref tb, .ref ca, .ref dp])), (ca, .inl (cI, 10, .inl cn))] ++ (lzc cB (la, pid, nx, c, 0, ck, wr, se, pi) ++ Q)) H := hP
      have hD : va_D A ([(rv, .inr (4, [.ref tp, .ref ln, .ref tb, .ref ca, .ref dp])), (ca, .inl (cI, 10, .inl cn))] ++ (lzc cB (la, pid, nx, c, 0, ck, wr, se, pi) ++ Q)) := hD
      have hP9 := hP.part (cx := [(rv, .inr (4, [.ref tp, .ref ln, .ref tb, .ref ca, .ref dp])), (ca, .inl (cI, 10, .inl cn))]) [0, 1] rfl
      have hD9 := hD.part (cx := [(rv, .inr (4, [.ref tp, .ref ln, .ref tb, .ref ca, .ref dp])), (ca, .inl (cI, 10, .inl cn))]) [0, 1] (by decide) rfl
      have hK9 := hK.sub (tys' := [(cB, .byte), (cI, .int)]) [0, 1] rfl
      exact W.zret (v := 1) hx hb hr rfl (fun t ht hW => ⟨⟨_, (1, c, 0, cn, se, pi), rfl, ⟨by unfold foU; rw [if_neg hnt, if_neg hng], rfl⟩, ⟨by rw [ht]; exact hP9, va_K.moved hW.alike hK9, hD9⟩⟩, hS.F ht⟩) hS.2.2 d_Receiver_follow_87
    · refine lv_iload_n hx hb d_Receiver_follow_44 rfl (lv_at hl 2 rfl) ?_
      refine lv_aload_n hx hb d_Receiver_follow_45 rfl (lv_at hl 1 rfl) ?_
      refine va_getN (D := D) (ci := 1) (v := .int ct) (C := R_Lane) (T := F_Lane) (N := 8) hx hb hts i_Lane hown hK hP 2 rfl rfl 2 (by decide) (hts _ wd_249) (fun _ h9 => h9) rfl d_Receiver_follow_46 ?_
      refine lv_iconst (v := 1) hx hb d_Receiver_follow_49 (by decide) ?_
      refine lv_iadd hx hb d_Receiver_follow_50 ?_
      refine lv_bipush (v := 15) hx hb d_Receiver_follow_51 (by decide) ?_
      refine lv_iand hx hb d_Receiver_follow_53 ?_
      refine lv_icmp_eq (tgt := 76) hx hb d_Receiver_follow_54 rfl (fun h54 => ?_) (fun h54 => ?_)
      · have hng : ¬ (¬ ct = -1 ∧ ¬ c = (ct + 1) &&& 15 ∧ lt = 0) := fun z => z.2.1 h54
        refine lv_aload_n hx hb d_Receiver_follow_76 rfl (lv_at hl 1 rfl) ?_
        refine lv_iload_n hx hb d_Receiver_follow_77 rfl (lv_at hl 2 rfl) ?_
        refine va_putN (D := D) (ci := 1) (v := .int c) (ty := .int) (C := R_Lane) (T := F_Lane) (N := 8) hx hb hts i_Lane t_Lane t_Lane_ok n_Lane hown hK hP hD hS 2 rfl rfl 2 (by decide) (hts _ wd_249) (fun _ h9 => h9) rfl (by decide +kernel) rfl rfl (Nat.le_of_ble_eq_true rfl) d_Receiver_follow_78 (fun H locs hP hD hS => ?_)
        have hP : va_P D classes ([(rv, .inr (4, [.ref tp, .ref ln, .ref tb, .ref ca, .ref dp])), (ca, .inl (cI, 10, .inl cn)), (la, .inr (1, [.int (nI pid), va_rf nx, .int c, .int tw, .long ck, .int wr, va_rf ((se).map (fun q => q.1)), va_rf ((pi).map (fun q => q.1))]))] ++ ((lzS cB se ++ lzI pi) ++ Q)) H := hP
        have hD : va_D A ([(rv, .inr (4, [.ref tp, .ref ln, .ref tb, .ref ca, .ref dp])), (ca, .inl (cI, 10, .inl cn)), (la, .inr (1, [.int (nI pid), va_rf nx, .int c, .int tw, .long ck, .int wr, va_rf ((se).map (fun q => q.1)), va_rf ((pi).map (fun q => q.1))]))] ++ ((lzS cB se ++ lzI pi) ++ Q)) := hD
        refine lv_aload_n hx hb d_Receiver_follow_81 rfl (lv_at hl 1 rfl) ?_
        refine lv_iconst (v := 0) hx hb d_Receiver_follow_82 (by decide) ?_
        refine va_putN (D := D) (ci := 1) (v := .int 0) (ty := .boolean) (C := R_Lane) (T := F_Lane) (N := 8) hx hb hts i_Lane t_Lane t_Lane_ok n_Lane hown hK hP hD hS 2 rfl rfl 3 (by decide) (hts _ wd_250) (fun _ h9 => h9) rfl (by decide +kernel) rfl rfl (Nat.le_of_ble_eq_true rfl) d_Receiver_follow_83 (fun H locs hP hD hS => ?_)
        have hP : va_P D classes ([(rv, .inr (4, [.ref tp, .ref ln, .ref tb, .ref ca, .ref dp])), (ca, .inl (cI, 10, .inl cn)), (la, .inr (1, [.int (nI pid), va_rf nx, .int c, .int 0, .long ck, .int wr, va_rf ((se).map (fun q => q.1)), va_rf ((pi).map (fun q => q.1))]))] ++ ((lzS cB se ++ lzI pi) ++ Q)) H := hP
        have hD : va_D A ([(rv, .inr (4, [.ref tp, .ref ln, .ref tb, .ref ca, .ref dp])), (ca, .inl (cI, 10, .inl cn)), (la, .inr (1, [.int (nI pid), va_rf nx, .int c, .int 0, .long ck, .int wr, va_rf ((se).map (fun q => q.1)), va_rf ((pi).map (fun q => q.1))]))] ++ ((lzS cB se ++ lzI pi) ++ Q)) := hD
        refine lv_iconst (v := 1) hx hb d_Receiver_follow_86 (by decide) ?_
        have hP : va_P D classes ([(rv, .inr (4, [.ref tp, .ref ln, .ref tb, .ref ca, .ref dp])), (ca, .inl (cI, 10, .inl cn))] ++ (lzc cB (la, pid, nx, c, 0, ck, wr, se, pi) ++ Q)) H := hP
        have hD : va_D A ([(rv, .inr (4, [.ref tp, .ref ln, .ref tb, .ref ca, .ref dp])), (ca, .inl (cI, 10, .inl cn))] ++ (lzc cB (la, pid, nx, c, 0, ck, wr, se, pi) ++ Q)) := hD
        have hP9 := hP.part (cx := [(rv, .inr (4, [.ref tp, .ref ln, .ref tb, .ref ca, .ref dp])), (ca, .inl (cI, 10, .inl cn))]) [0, 1] rfl
        have hD9 := hD.part (cx := [(rv, .inr (4, [.ref tp, .ref ln, .ref tb, .ref ca, .ref dp])), (ca, .inl (cI, 10, .inl cn))]) [0, 1] (by decide) rfl
        have hK9 := hK.sub (tys' := [(cB, .byte), (cI, .int)]) [0, 1] rfl
        exact W.zret (v := 1) hx hb hr rfl (fun t ht hW => ⟨⟨_, (1, c, 0, cn, se, pi), rfl, ⟨by unfold foU; rw [if_neg hnt, if_neg hng], rfl⟩, ⟨by rw [ht]; exact hP9, va_K.moved hW.alike hK9, hD9⟩⟩, hS.F ht⟩) hS.2.2 d_Receiver_follow_87
      · refine lv_iload_n hx hb d_Receiver_follow_57 rfl (lv_at hl 3 rfl) ?_
        refine lv_if_ne (tgt := 76) hx hb d_Receiver_follow_58 rfl (fun h58 => ?_) (fun h58 => ?_)
        · have hng : ¬ (¬ ct = -1 ∧ ¬ c = (ct + 1) &&& 15 ∧ lt = 0) := fun z => h58 z.2.2
          refine lv_aload_n hx hb d_Receiver_follow_76 rfl (lv_at hl 1 rfl) ?_
          refine lv_iload_n hx hb d_Receiver_follow_77 rfl (lv_at hl 2 rfl) ?_
          refine va_putN (D := D) (ci := 1) (v := .int c) (ty := .int) (C := R_Lane) (T := F_Lane) (N := 8) hx hb hts i_Lane t_Lane t_Lane_ok n_Lane hown hK hP hD hS 2 rfl rfl 2 (by decide) (hts _ wd_249) (fun _ h9 => h9) rfl (by decide +kernel) rfl rfl (Nat.le_of_ble_eq_true rfl) d_Receiver_follow_78 (fun H locs hP hD hS => ?_)
          have hP : va_P D classes ([(rv, .inr (4, [.ref tp, .ref ln, .ref tb, .ref ca, .ref dp])), (ca, .inl (cI, 10, .inl cn)), (la, .inr (1, [.int (nI pid), va_rf nx, .int c, .int tw, .long ck, .int wr, va_rf ((se).map (fun q => q.1)), va_rf ((pi).map (fun q => q.1))]))] ++ ((lzS cB se ++ lzI pi) ++ Q)) H := hP
          have hD : va_D A ([(rv, .inr (4, [.ref tp, .ref ln, .ref tb, .ref ca, .ref dp])), (ca, .inl (cI, 10, .inl cn)), (la, .inr (1, [.int (nI pid), va_rf nx, .int c, .int tw, .long ck, .int wr, va_rf ((se).map (fun q => q.1)), va_rf ((pi).map (fun q => q.1))]))] ++ ((lzS cB se ++ lzI pi) ++ Q)) := hD
          refine lv_aload_n hx hb d_Receiver_follow_81 rfl (lv_at hl 1 rfl) ?_
          refine lv_iconst (v := 0) hx hb d_Receiver_follow_82 (by decide) ?_
          refine va_putN (D := D) (ci := 1) (v := .int 0) (ty := .boolean) (C := R_Lane) (T := F_Lane) (N := 8) hx hb hts i_Lane t_Lane t_Lane_ok n_Lane hown hK hP hD hS 2 rfl rfl 3 (by decide) (hts _ wd_250) (fun _ h9 => h9) rfl (by decide +kernel) rfl rfl (Nat.le_of_ble_eq_true rfl) d_Receiver_follow_83 (fun H locs hP hD hS => ?_)
          have hP : va_P D classes ([(rv, .inr (4, [.ref tp, .ref ln, .ref tb, .ref ca, .ref dp])), (ca, .inl (cI, 10, .inl cn)), (la, .inr (1, [.int (nI pid), va_rf nx, .int c, .int 0, .long ck, .int wr, va_rf ((se).map (fun q => q.1)), va_rf ((pi).map (fun q => q.1))]))] ++ ((lzS cB se ++ lzI pi) ++ Q)) H := hP
          have hD : va_D A ([(rv, .inr (4, [.ref tp, .ref ln, .ref tb, .ref ca, .ref dp])), (ca, .inl (cI, 10, .inl cn)), (la, .inr (1, [.int (nI pid), va_rf nx, .int c, .int 0, .long ck, .int wr, va_rf ((se).map (fun q => q.1)), va_rf ((pi).map (fun q => q.1))]))] ++ ((lzS cB se ++ lzI pi) ++ Q)) := hD
          refine lv_iconst (v := 1) hx hb d_Receiver_follow_86 (by decide) ?_
          have hP : va_P D classes ([(rv, .inr (4, [.ref tp, .ref ln, .ref tb, .ref ca, .ref dp])), (ca, .inl (cI, 10, .inl cn))] ++ (lzc cB (la, pid, nx, c, 0, ck, wr, se, pi) ++ Q)) H := hP
          have hD : va_D A ([(rv, .inr (4, [.ref tp, .ref ln, .ref tb, .ref ca, .ref dp])), (ca, .inl (cI, 10, .inl cn))] ++ (lzc cB (la, pid, nx, c, 0, ck, wr, se, pi) ++ Q)) := hD
          have hP9 := hP.part (cx := [(rv, .inr (4, [.ref tp, .ref ln, .ref tb, .ref ca, .ref dp])), (ca, .inl (cI, 10, .inl cn))]) [0, 1] rfl
          have hD9 := hD.part (cx := [(rv, .inr (4, [.ref tp, .ref ln, .ref tb, .ref ca, .ref dp])), (ca, .inl (cI, 10, .inl cn))]) [0, 1] (by decide) rfl
          have hK9 := hK.sub (tys' := [(cB, .byte), (cI, .int)]) [0, 1] rfl
          exact W.zret (v := 1) hx hb hr rfl (fun t ht hW => ⟨⟨_, (1, c, 0, cn, se, pi), rfl, ⟨by unfold foU; rw [if_neg hnt, if_neg hng], rfl⟩, ⟨by rw [ht]; exact hP9, va_K.moved hW.alike hK9, hD9⟩⟩, hS.F ht⟩) hS.2.2 d_Receiver_follow_87
        · have h58 : lt = 0 := by first | exact h58 | exact Classical.not_not.mp h58
          refine lv_aload_n hx hb d_Receiver_follow_61 rfl (lv_at hl 0 rfl) ?_
          refine va_get (D := D) (ci := 4) (v := .ref ca) (C := R_Receiver) (T := F_Receiver) (N := 5) hx hb hts i_Receiver hown hK hP 0 rfl rfl 3 (by decide) (hts _ wd_181) (fun _ h9 => h9) rfl d_Receiver_follow_62 ?_
          refine lv_iconst (v := 4) hx hb d_Receiver_follow_65 (by decide) ?_
          refine lv_dup2_11 hx hb d_Receiver_follow_66 rfl rfl ?_
          refine z_iald hx hb hK hP 1 1 rfl rfl 4 rfl (by decide) (by decide) d_Receiver_follow_67 ?_
          refine lv_iconst (v := 1) hx hb d_Receiver_follow_68 (by decide) ?_
          refine lv_iadd hx hb d_Receiver_follow_69 ?_
          refine z_iast hx hb hK hP hD hS 1 1 rfl rfl 4 rfl (by decide) (by decide) d_Receiver_follow_70 (fun H locs hP hD hS => ?_)
          have hP : va_P D classes ([(rv, .inr (4, [.ref tp, .ref ln, .ref tb, .ref ca, .ref dp])), (ca, .inl (cI, 10, .inl (upd cn 4 ((cn 4) + 1)))), (la, .inr (1, [.int (nI pid), va_rf nx, .int ct, .int tw, .long ck, .int wr, va_rf ((se).map (fun q => q.1)), va_rf ((pi).map (fun q => q.1))]))] ++ ((lzS cB se ++ lzI pi) ++ Q)) H := hP
          have hD : va_D A ([(rv, .inr (4, [.ref tp, .ref ln, .ref tb, .ref ca, .ref dp])), (ca, .inl (cI, 10, .inl (upd cn 4 ((cn 4) + 1)))), (la, .inr (1, [.int (nI pid), va_rf nx, .int ct, .int tw, .long ck, .int wr, va_rf ((se).map (fun q => q.1)), va_rf ((pi).map (fun q => q.1))]))] ++ ((lzS cB se ++ lzI pi) ++ Q)) := hD
          rw [show upd cn 4 ((cn 4) + 1) = cup cn 4 from rfl] at hP hD
          have hP : va_P D classes ([(rv, .inr (4, [.ref tp, .ref ln, .ref tb, .ref ca, .ref dp])), (ca, .inl (cI, 10, .inl (cup cn 4))), (la, .inr (1, [.int (nI pid), va_rf nx, .int ct, .int tw, .long ck, .int wr, va_rf ((se).map (fun q => q.1)), va_rf ((pi).map (fun q => q.1))]))] ++ ((lzS cB se ++ lzI pi) ++ Q)) H := hP
          have hD : va_D A ([(rv, .inr (4, [.ref tp, .ref ln, .ref tb, .ref ca, .ref dp])), (ca, .inl (cI, 10, .inl (cup cn 4))), (la, .inr (1, [.int (nI pid), va_rf nx, .int ct, .int tw, .long ck, .int wr, va_rf ((se).map (fun q => q.1)), va_rf ((pi).map (fun q => q.1))]))] ++ ((lzS cB se ++ lzI pi) ++ Q)) := hD
          refine lv_aload_n hx hb d_Receiver_follow_71 rfl (lv_at hl 0 rfl) ?_
          refine lv_aload_n hx hb d_Receiver_follow_72 rfl (lv_at hl 1 rfl) ?_
          have hP : va_P D classes ([(rv, .inr (4, [.ref tp, .ref ln, .ref tb, .ref ca, .ref dp])), (ca, .inl (cI, 10, .inl (cup cn 4)))] ++ (lzc cB (la, pid, nx, ct, tw, ck, wr, se, pi) ++ Q)) H := hP
          have hD : va_D A ([(rv, .inr (4, [.ref tp, .ref ln, .ref tb, .ref ca, .ref dp])), (ca, .inl (cI, 10, .inl (cup cn 4)))] ++ (lzc cB (la, pid, nx, ct, tw, ck, wr, se, pi) ++ Q)) := hD
          have hPc := hP.part (cx := [(rv, .inr (4, [.ref tp, .ref ln, .ref tb, .ref ca, .ref dp])), (ca, .inl (cI, 10, .inl (cup cn 4)))]) [0, 1] rfl
          have hKc := hK.sub (tys' := [(cB, .byte), (cI, .int)]) [0, 1] rfl
          have hDc := hD.part (cx := [(rv, .inr (4, [.ref tp, .ref ln, .ref tb, .ref ca, .ref dp])), (ca, .inl (cI, 10, .inl (cup cn 4)))]) [0, 1] (by decide) rfl
          have hFc := va_freeP (cx := [(rv, .inr (4, [.ref tp, .ref ln, .ref tb, .ref ca, .ref dp])), (ca, .inl (cI, 10, .inl (cup cn 4)))]) hD hS hA [0, 1] rfl
          refine va_callv (va_runV (As := [.ref la]) (rest := []) ⟨hx, hb, hml, hown, hts⟩ (c_Receiver_giveUp l D H.size cB cI rv tp ln tb ca dp (cup cn 4) la pid nx ct tw ck wr se pi Q hse) (z_cV hN wd_289 wd_60 wd_286 hd_Receiver_giveUp rfl rfl ⟨Nat.le_of_ble_eq_true rfl, Nat.le_of_ble_eq_true rfl⟩ wd_288 wd_2) (z_preVm (va_recv (ci := 4) (q0 := 0) hK hP rfl rfl) hPc hKc hN hDc) rfl rfl hl.1 rfl (lv_room (Nat.le_of_ble_eq_true rfl)) d_Receiver_follow_73 ⟨Nat.le_of_ble_eq_true rfl, Nat.le_of_ble_eq_true rfl⟩) hS (fun q _ h => hFc q h) hFc (fun u73 t H locs ht hvm e73 hB hz1 hk1 hS => ?_)
          obtain ⟨hP1, hK1, hD1⟩ := hB
          rw [ht] at hP1
          obtain ⟨hP, hD⟩ := va_joinP (wr := []) (rx := [(rv, .inr (4, [.ref tp, .ref ln, .ref tb, .ref ca, .ref dp])), (ca, .inl (cI, 10, .inl (guC (cup cn 4) se pi)))]) hP hD [0, 1] [] rfl rfl (by decide) (by decide) hk1 hFc hP1 hD1
          clear hk1 hP1 hD1 hFc hPc hDc hz1
          have hP : va_P D classes ([(rv, .inr (4, [.ref tp, .ref ln, .ref tb, .ref ca, .ref dp])), (ca, .inl (cI, 10, .inl (guC (cup cn 4) se pi)))] ++ (lzc cB (la, pid, nx, ct, tw, ck, wr, guS se, guI pi) ++ Q)) H := hP
          have hD : va_D A ([(rv, .inr (4, [.ref tp, .ref ln, .ref tb, .ref ca, .ref dp])), (ca, .inl (cI, 10, .inl (guC (cup cn 4) se pi)))] ++ (lzc cB (la, pid, nx, ct, tw, ck, wr, guS se, guI pi) ++ Q)) := hD
          have hP : va_P D classes ([(rv, .inr (4, [.ref tp, .ref ln, .ref tb, .ref ca, .ref dp])), (ca, .inl (cI, 10, .inl (guC (cup cn 4) se pi))), (la, .inr (1, [.int (nI pid), va_rf nx, .int ct, .int tw, .long ck, .int wr, va_rf ((guS se).map (fun q => q.1)), va_rf ((guI pi).map (fun q => q.1))]))] ++ ((lzS cB (guS se) ++ lzI (guI pi)) ++ Q)) H := hP
          have hD : va_D A ([(rv, .inr (4, [.ref tp, .ref ln, .ref tb, .ref ca, .ref dp])), (ca, .inl (cI, 10, .inl (guC (cup cn 4) se pi))), (la, .inr (1, [.int (nI pid), va_rf nx, .int ct, .int tw, .long ck, .int wr, va_rf ((guS se).map (fun q => q.1)), va_rf ((guI pi).map (fun q => q.1))]))] ++ ((lzS cB (guS se) ++ lzI (guI pi)) ++ Q)) := hD
          refine lv_aload_n hx hb d_Receiver_follow_76 rfl (lv_at hl 1 rfl) ?_
          refine lv_iload_n hx hb d_Receiver_follow_77 rfl (lv_at hl 2 rfl) ?_
          refine va_putN (D := D) (ci := 1) (v := .int c) (ty := .int) (C := R_Lane) (T := F_Lane) (N := 8) hx hb hts i_Lane t_Lane t_Lane_ok n_Lane hown hK hP hD hS 2 rfl rfl 2 (by decide) (hts _ wd_249) (fun _ h9 => h9) rfl (by decide +kernel) rfl rfl (Nat.le_of_ble_eq_true rfl) d_Receiver_follow_78 (fun H locs hP hD hS => ?_)
          have hP : va_P D classes ([(rv, .inr (4, [.ref tp, .ref ln, .ref tb, .ref ca, .ref dp])), (ca, .inl (cI, 10, .inl (guC (cup cn 4) se pi))), (la, .inr (1, [.int (nI pid), va_rf nx, .int c, .int tw, .long ck, .int wr, va_rf ((guS se).map (fun q => q.1)), va_rf ((guI pi).map (fun q => q.1))]))] ++ ((lzS cB (guS se) ++ lzI (guI pi)) ++ Q)) H := hP
          have hD : va_D A ([(rv, .inr (4, [.ref tp, .ref ln, .ref tb, .ref ca, .ref dp])), (ca, .inl (cI, 10, .inl (guC (cup cn 4) se pi))), (la, .inr (1, [.int (nI pid), va_rf nx, .int c, .int tw, .long ck, .int wr, va_rf ((guS se).map (fun q => q.1)), va_rf ((guI pi).map (fun q => q.1))]))] ++ ((lzS cB (guS se) ++ lzI (guI pi)) ++ Q)) := hD
          refine lv_aload_n hx hb d_Receiver_follow_81 rfl (lv_at hl 1 rfl) ?_
          refine lv_iconst (v := 0) hx hb d_Receiver_follow_82 (by decide) ?_
          refine va_putN (D := D) (ci := 1) (v := .int 0) (ty := .boolean) (C := R_Lane) (T := F_Lane) (N := 8) hx hb hts i_Lane t_Lane t_Lane_ok n_Lane hown hK hP hD hS 2 rfl rfl 3 (by decide) (hts _ wd_250) (fun _ h9 => h9) rfl (by decide +kernel) rfl rfl (Nat.le_of_ble_eq_true rfl) d_Receiver_follow_83 (fun H locs hP hD hS => ?_)
          have hP : va_P D classes ([(rv, .inr (4, [.ref tp, .ref ln, .ref tb, .ref ca, .ref dp])), (ca, .inl (cI, 10, .inl (guC (cup cn 4) se pi))), (la, .inr (1, [.int (nI pid), va_rf nx, .int c, .int 0, .long ck, .int wr, va_rf ((guS se).map (fun q => q.1)), va_rf ((guI pi).map (fun q => q.1))]))] ++ ((lzS cB (guS se) ++ lzI (guI pi)) ++ Q)) H := hP
          have hD : va_D A ([(rv, .inr (4, [.ref tp, .ref ln, .ref tb, .ref ca, .ref dp])), (ca, .inl (cI, 10, .inl (guC (cup cn 4) se pi))), (la, .inr (1, [.int (nI pid), va_rf nx, .int c, .int 0, .long ck, .int wr, va_rf ((guS se).map (fun q => q.1)), va_rf ((guI pi).map (fun q => q.1))]))] ++ ((lzS cB (guS se) ++ lzI (guI pi)) ++ Q)) := hD
          refine lv_iconst (v := 1) hx hb d_Receiver_follow_86 (by decide) ?_
          have hP : va_P D classes ([(rv, .inr (4, [.ref tp, .ref ln, .ref tb, .ref ca, .ref dp])), (ca, .inl (cI, 10, .inl (guC (cup cn 4) se pi)))] ++ (lzc cB (la, pid, nx, c, 0, ck, wr, guS se, guI pi) ++ Q)) H := hP
          have hD : va_D A ([(rv, .inr (4, [.ref tp, .ref ln, .ref tb, .ref ca, .ref dp])), (ca, .inl (cI, 10, .inl (guC (cup cn 4) se pi)))] ++ (lzc cB (la, pid, nx, c, 0, ck, wr, guS se, guI pi) ++ Q)) := hD
          have hP9 := hP.part (cx := [(rv, .inr (4, [.ref tp, .ref ln, .ref tb, .ref ca, .ref dp])), (ca, .inl (cI, 10, .inl (guC (cup cn 4) se pi)))]) [0, 1] rfl
          have hD9 := hD.part (cx := [(rv, .inr (4, [.ref tp, .ref ln, .ref tb, .ref ca, .ref dp])), (ca, .inl (cI, 10, .inl (guC (cup cn 4) se pi)))]) [0, 1] (by decide) rfl
          have hK9 := hK.sub (tys' := [(cB, .byte), (cI, .int)]) [0, 1] rfl
          exact W.zret (v := 1) hx hb hr rfl (fun t ht hW => ⟨⟨_, (1, c, 0, guC (cup cn 4) se pi, guS se, guI pi), rfl, ⟨by unfold foU; rw [if_neg hnt, if_pos ⟨h41, h54, h58⟩], rfl⟩, ⟨by rw [ht]; exact hP9, va_K.moved hW.alike hK9, hD9⟩⟩, hS.F ht⟩) hS.2.2 d_Receiver_follow_87
  · have h5 : c = ct := by first | exact h5 | exact Classical.not_not.mp h5
    refine lv_iload_n hx hb d_Receiver_follow_8 rfl (lv_at hl 3 rfl) ?_
    refine lv_if_ne (tgt := 36) hx hb d_Receiver_follow_9 rfl (fun h9 => ?_) (fun h9 => ?_)
    · have hnt : ¬ (c = ct ∧ lt = 0 ∧ tw = 0) := fun z => h9 z.2.1
      refine lv_aload_n hx hb d_Receiver_follow_36 rfl (lv_at hl 1 rfl) ?_
      refine va_getN (D := D) (ci := 1) (v := .int ct) (C := R_Lane) (T := F_Lane) (N := 8) hx hb hts i_Lane hown hK hP 2 rfl rfl 2 (by decide) (hts _ wd_249) (fun _ h9 => h9) rfl d_Receiver_follow_37 ?_
      refine lv_iconst (v := (-1)) hx hb d_Receiver_follow_40 (by decide) ?_
      refine lv_icmp_eq (tgt := 76) hx hb d_Receiver_follow_41 rfl (fun h41 => ?_) (fun h41 => ?_)
      · have hng : ¬ (¬ ct = -1 ∧ ¬ c = (ct + 1) &&& 15 ∧ lt = 0) := fun z => z.1 h41
        refine lv_aload_n hx hb d_Receiver_follow_76 rfl (lv_at hl 1 rfl) ?_
        refine lv_iload_n hx hb d_Receiver_follow_77 rfl (lv_at hl 2 rfl) ?_
        refine va_putN (D := D) (ci := 1) (v := .int c) (ty := .int) (C := R_Lane) (T := F_Lane) (N := 8) hx hb hts i_Lane t_Lane t_Lane_ok n_Lane hown hK hP hD hS 2 rfl rfl 2 (by decide) (hts _ wd_249) (fun _ h9 => h9) rfl (by decide +kernel) rfl rfl (Nat.le_of_ble_eq_true rfl) d_Receiver_follow_78 (fun H locs hP hD hS => ?_)
        have hP : va_P D classes ([(rv, .inr (4, [.ref tp, .ref ln, .ref tb, .ref ca, .ref dp])), (ca, .inl (cI, 10, .inl cn)), (la, .inr (1, [.int (nI pid), va_rf nx, .int c, .int tw, .long ck, .int wr, va_rf ((se).map (fun q => q.1)), va_rf ((pi).map (fun q => q.1))]))] ++ ((lzS cB se ++ lzI pi) ++ Q)) H := hP
        have hD : va_D A ([(rv, .inr (4, [.ref tp, .ref ln, .ref tb, .ref ca, .ref dp])), (ca, .inl (cI, 10, .inl cn)), (la, .inr (1, [.int (nI pid), va_rf nx, .int c, .int tw, .long ck, .int wr, va_rf ((se).map (fun q => q.1)), va_rf ((pi).map (fun q => q.1))]))] ++ ((lzS cB se ++ lzI pi) ++ Q)) := hD
        refine lv_aload_n hx hb d_Receiver_follow_81 rfl (lv_at hl 1 rfl) ?_
        refine lv_iconst (v := 0) hx hb d_Receiver_follow_82 (by decide) ?_
        refine va_putN (D := D) (ci := 1) (v := .int 0) (ty := .boolean) (C := R_Lane) (T := F_Lane) (N := 8) hx hb hts i_Lane t_Lane t_Lane_ok n_Lane hown hK hP hD hS 2 rfl rfl 3 (by decide) (hts _ wd_250) (fun _ h9 => h9) rfl (by decide +kernel) rfl rfl (Nat.le_of_ble_eq_true rfl) d_Receiver_follow_83 (fun H locs hP hD hS => ?_)
        have hP : va_P D classes ([(rv, .inr (4, [.ref tp, .ref ln, .ref tb, .ref ca, .ref dp])), (ca, .inl (cI, 10, .inl cn)), (la, .inr (1, [.int (nI pid), va_rf nx, .int c, .int 0, .long ck, .int wr, va_rf ((se).map (fun q => q.1)), va_rf ((pi).map (fun q => q.1))]))] ++ ((lzS cB se ++ lzI pi) ++ Q)) H := hP
        have hD : va_D A ([(rv, .inr (4, [.ref tp, .ref ln, .ref tb, .ref ca, .ref dp])), (ca, .inl (cI, 10, .inl cn)), (la, .inr (1, [.int (nI pid), va_rf nx, .int c, .int 0, .long ck, .int wr, va_rf ((se).map (fun q => q.1)), va_rf ((pi).map (fun q => q.1))]))] ++ ((lzS cB se ++ lzI pi) ++ Q)) := hD
        refine lv_iconst (v := 1) hx hb d_Receiver_follow_86 (by decide) ?_
        have hP : va_P D classes ([(rv, .inr (4, [.ref tp, .ref ln, .ref tb, .ref ca, .ref dp])), (ca, .inl (cI, 10, .inl cn))] ++ (lzc cB (la, pid, nx, c, 0, ck, wr, se, pi) ++ Q)) H := hP
        have hD : va_D A ([(rv, .inr (4, [.ref tp, .ref ln, .ref tb, .ref ca, .ref dp])), (ca, .inl (cI, 10, .inl cn))] ++ (lzc cB (la, pid, nx, c, 0, ck, wr, se, pi) ++ Q)) := hD
        have hP9 := hP.part (cx := [(rv, .inr (4, [.ref tp, .ref ln, .ref tb, .ref ca, .ref dp])), (ca, .inl (cI, 10, .inl cn))]) [0, 1] rfl
        have hD9 := hD.part (cx := [(rv, .inr (4, [.ref tp, .ref ln, .ref tb, .ref ca, .ref dp])), (ca, .inl (cI, 10, .inl cn))]) [0, 1] (by decide) rfl
        have hK9 := hK.sub (tys' := [(cB, .byte), (cI, .int)]) [0, 1] rfl
        exact W.zret (v := 1) hx hb hr rfl (fun t ht hW => ⟨⟨_, (1, c, 0, cn, se, pi), rfl, ⟨by unfold foU; rw [if_neg hnt, if_neg hng], rfl⟩, ⟨by rw [ht]; exact hP9, va_K.moved hW.alike hK9, hD9⟩⟩, hS.F ht⟩) hS.2.2 d_Receiver_follow_87
      · refine lv_iload_n hx hb d_Receiver_follow_44 rfl (lv_at hl 2 rfl) ?_
        refine lv_aload_n hx hb d_Receiver_follow_45 rfl (lv_at hl 1 rfl) ?_
        refine va_getN (D := D) (ci := 1) (v := .int ct) (C := R_Lane) (T := F_Lane) (N := 8) hx hb hts i_Lane hown hK hP 2 rfl rfl 2 (by decide) (hts _ wd_249) (fun _ h9 => h9) rfl d_Receiver_follow_46 ?_
        refine lv_iconst (v := 1) hx hb d_Receiver_follow_49 (by decide) ?_
        refine lv_iadd hx hb d_Receiver_follow_50 ?_
        refine lv_bipush (v := 15) hx hb d_Receiver_follow_51 (by decide) ?_
        refine lv_iand hx hb d_Receiver_follow_53 ?_
        refine lv_icmp_eq (tgt := 76) hx hb d_Receiver_follow_54 rfl (fun h54 => ?_) (fun h54 => ?_)
        · have hng : ¬ (¬ ct = -1 ∧ ¬ c = (ct + 1) &&& 15 ∧ lt = 0) := fun z => z.2.1 h54
          refine lv_aload_n hx hb d_Receiver_follow_76 rfl (lv_at hl 1 rfl) ?_
          refine lv_iload_n hx hb d_Receiver_follow_77 rfl (lv_at hl 2 rfl) ?_
          refine va_putN (D := D) (ci := 1) (v := .int c) (ty := .int) (C := R_Lane) (T := F_Lane) (N := 8) hx hb hts i_Lane t_Lane t_Lane_ok n_Lane hown hK hP hD hS 2 rfl rfl 2 (by decide) (hts _ wd_249) (fun _ h9 => h9) rfl (by decide +kernel) rfl rfl (Nat.le_of_ble_eq_true rfl) d_Receiver_follow_78 (fun H locs hP hD hS => ?_)
          have hP : va_P D classes ([(rv, .inr (4, [.ref tp, .ref ln, .ref tb, .ref ca, .ref dp])), (ca, .inl (cI, 10, .inl cn)), (la, .inr (1, [.int (nI pid), va_rf nx, .int c, .int tw, .long ck, .int wr, va_rf ((se).map (fun q => q.1)), va_rf ((pi).map (fun q => q.1))]))] ++ ((lzS cB se ++ lzI pi) ++ Q)) H := hP
          have hD : va_D A ([(rv, .inr (4, [.ref tp, .ref ln, .ref tb, .ref ca, .ref dp])), (ca, .inl (cI, 10, .inl cn)), (la, .inr (1, [.int (nI pid), va_rf nx, .int c, .int tw, .long ck, .int wr, va_rf ((se).map (fun q => q.1)), va_rf ((pi).map (fun q => q.1))]))] ++ ((lzS cB se ++ lzI pi) ++ Q)) := hD
          refine lv_aload_n hx hb d_Receiver_follow_81 rfl (lv_at hl 1 rfl) ?_
          refine lv_iconst (v := 0) hx hb d_Receiver_follow_82 (by decide) ?_
          refine va_putN (D := D) (ci := 1) (v := .int 0) (ty := .boolean) (C := R_Lane) (T := F_Lane) (N := 8) hx hb hts i_Lane t_Lane t_Lane_ok n_Lane hown hK hP hD hS 2 rfl rfl 3 (by decide) (hts _ wd_250) (fun _ h9 => h9) rfl (by decide +kernel) rfl rfl (Nat.le_of_ble_eq_true rfl) d_Receiver_follow_83 (fun H locs hP hD hS => ?_)
          have hP : va_P D classes ([(rv, .inr (4, [.ref tp, .ref ln, .ref tb, .ref ca, .ref dp])), (ca, .inl (cI, 10, .inl cn)), (la, .inr (1, [.int (nI pid), va_rf nx, .int c, .int 0, .long ck, .int wr, va_rf ((se).map (fun q => q.1)), va_rf ((pi).map (fun q => q.1))]))] ++ ((lzS cB se ++ lzI pi) ++ Q)) H := hP
          have hD : va_D A ([(rv, .inr (4, [.ref tp, .ref ln, .ref tb, .ref ca, .ref dp])), (ca, .inl (cI, 10, .inl cn)), (la, .inr (1, [.int (nI pid), va_rf nx, .int c, .int 0, .long ck, .int wr, va_rf ((se).map (fun q => q.1)), va_rf ((pi).map (fun q => q.1))]))] ++ ((lzS cB se ++ lzI pi) ++ Q)) := hD
          refine lv_iconst (v := 1) hx hb d_Receiver_follow_86 (by decide) ?_
          have hP : va_P D classes ([(rv, .inr (4, [.ref tp, .ref ln, .ref tb, .ref ca, .ref dp])), (ca, .inl (cI, 10, .inl cn))] ++ (lzc cB (la, pid, nx, c, 0, ck, wr, se, pi) ++ Q)) H := hP
          have hD : va_D A ([(rv, .inr (4, [.ref tp, .ref ln, .ref tb, .ref ca, .ref dp])), (ca, .inl (cI, 10, .inl cn))] ++ (lzc cB (la, pid, nx, c, 0, ck, wr, se, pi) ++ Q)) := hD
          have hP9 := hP.part (cx := [(rv, .inr (4, [.ref tp, .ref ln, .ref tb, .ref ca, .ref dp])), (ca, .inl (cI, 10, .inl cn))]) [0, 1] rfl
          have hD9 := hD.part (cx := [(rv, .inr (4, [.ref tp, .ref ln, .ref tb, .ref ca, .ref dp])), (ca, .inl (cI, 10, .inl cn))]) [0, 1] (by decide) rfl
          have hK9 := hK.sub (tys' := [(cB, .byte), (cI, .int)]) [0, 1] rfl
          exact W.zret (v := 1) hx hb hr rfl (fun t ht hW => ⟨⟨_, (1, c, 0, cn, se, pi), rfl, ⟨by unfold foU; rw [if_neg hnt, if_neg hng], rfl⟩, ⟨by rw [ht]; exact hP9, va_K.moved hW.alike hK9, hD9⟩⟩, hS.F ht⟩) hS.2.2 d_Receiver_follow_87
        · refine lv_iload_n hx hb d_Receiver_follow_57 rfl (lv_at hl 3 rfl) ?_
          refine lv_if_ne (tgt := 76) hx hb d_Receiver_follow_58 rfl (fun h58 => ?_) (fun h58 => ?_)
          · have hng : ¬ (¬ ct = -1 ∧ ¬ c = (ct + 1) &&& 15 ∧ lt = 0) := fun z => h58 z.2.2
            refine lv_aload_n hx hb d_Receiver_follow_76 rfl (lv_at hl 1 rfl) ?_
            refine lv_iload_n hx hb d_Receiver_follow_77 rfl (lv_at hl 2 rfl) ?_
            refine va_putN (D := D) (ci := 1) (v := .int c) (ty := .int) (C := R_Lane) (T := F_Lane) (N := 8) hx hb hts i_Lane t_Lane t_Lane_ok n_Lane hown hK hP hD hS 2 rfl rfl 2 (by decide) (hts _ wd_249) (fun _ h9 => h9) rfl (by decide +kernel) rfl rfl (Nat.le_of_ble_eq_true rfl) d_Receiver_follow_78 (fun H locs hP hD hS => ?_)
            have hP : va_P D classes ([(rv, .inr (4, [.ref tp, .ref ln, .ref tb, .ref ca, .ref dp])), (ca, .inl (cI, 10, .inl cn)), (la, .inr (1, [.int (nI pid), va_rf nx, .int c, .int tw, .long ck, .int wr, va_rf ((se).map (fun q => q.1)), va_rf ((pi).map (fun q => q.1))]))] ++ ((lzS cB se ++ lzI pi) ++ Q)) H := hP
            have hD : va_D A ([(rv, .inr (4, [.ref tp, .ref ln, .ref tb, .ref ca, .ref dp])), (ca, .inl (cI, 10, .inl cn)), (la, .inr (1, [.int (nI pid), va_rf nx, .int c, .int tw, .long ck, .int wr, va_rf ((se).map (fun q => q.1)), va_rf ((pi).map (fun q => q.1))]))] ++ ((lzS cB se ++ lzI pi) ++ Q)) := hD
            refine lv_aload_n hx hb d_Receiver_follow_81 rfl (lv_at hl 1 rfl) ?_
            refine lv_iconst (v := 0) hx hb d_Receiver_follow_82 (by decide) ?_
            refine va_putN (D := D) (ci := 1) (v := .int 0) (ty := .boolean) (C := R_Lane) (T := F_Lane) (N := 8) hx hb hts i_Lane t_Lane t_Lane_ok n_Lane hown hK hP hD hS 2 rfl rfl 3 (by decide) (hts _ wd_250) (fun _ h9 => h9) rfl (by decide +kernel) rfl rfl (Nat.le_of_ble_eq_true rfl) d_Receiver_follow_83 (fun H locs hP hD hS => ?_)
            have hP : va_P D classes ([(rv, .inr (4, [.ref tp, .ref ln, .ref tb, .ref ca, .ref dp])), (ca, .inl (cI, 10, .inl cn)), (la, .inr (1, [.int (nI pid), va_rf nx, .int c, .int 0, .long ck, .int wr, va_rf ((se).map (fun q => q.1)), va_rf ((pi).map (fun q => q.1))]))] ++ ((lzS cB se ++ lzI pi) ++ Q)) H := hP
            have hD : va_D A ([(rv, .inr (4, [.ref tp, .ref ln, .ref tb, .ref ca, .ref dp])), (ca, .inl (cI, 10, .inl cn)), (la, .inr (1, [.int (nI pid), va_rf nx, .int c, .int 0, .long ck, .int wr, va_rf ((se).map (fun q => q.1)), va_rf ((pi).map (fun q => q.1))]))] ++ ((lzS cB se ++ lzI pi) ++ Q)) := hD
            refine lv_iconst (v := 1) hx hb d_Receiver_follow_86 (by decide) ?_
            have hP : va_P D classes ([(rv, .inr (4, [.ref tp, .ref ln, .ref tb, .ref ca, .ref dp])), (ca, .inl (cI, 10, .inl cn))] ++ (lzc cB (la, pid, nx, c, 0, ck, wr, se, pi) ++ Q)) H := hP
            have hD : va_D A ([(rv, .inr (4, [.ref tp, .ref ln, .ref tb, .ref ca, .ref dp])), (ca, .inl (cI, 10, .inl cn))] ++ (lzc cB (la, pid, nx, c, 0, ck, wr, se, pi) ++ Q)) := hD
            have hP9 := hP.part (cx := [(rv, .inr (4, [.ref tp, .ref ln, .ref tb, .ref ca, .ref dp])), (ca, .inl (cI, 10, .inl cn))]) [0, 1] rfl
            have hD9 := hD.part (cx := [(rv, .inr (4, [.ref tp, .ref ln, .ref tb, .ref ca, .ref dp])), (ca, .inl (cI, 10, .inl cn))]) [0, 1] (by decide) rfl
            have hK9 := hK.sub (tys' := [(cB, .byte), (cI, .int)]) [0, 1] rfl
            exact W.zret (v := 1) hx hb hr rfl (fun t ht hW => ⟨⟨_, (1, c, 0, cn, se, pi), rfl, ⟨by unfold foU; rw [if_neg hnt, if_neg hng], rfl⟩, ⟨by rw [ht]; exact hP9, va_K.moved hW.alike hK9, hD9⟩⟩, hS.F ht⟩) hS.2.2 d_Receiver_follow_87
          · have h58 : lt = 0 := by first | exact h58 | exact Classical.not_not.mp h58
            refine lv_aload_n hx hb d_Receiver_follow_61 rfl (lv_at hl 0 rfl) ?_
            refine va_get (D := D) (ci := 4) (v := .ref ca) (C := R_Receiver) (T := F_Receiver) (N := 5) hx hb hts i_Receiver hown hK hP 0 rfl rfl 3 (by decide) (hts _ wd_181) (fun _ h9 => h9) rfl d_Receiver_follow_62 ?_
            refine lv_iconst (v := 4) hx hb d_Receiver_follow_65 (by decide) ?_
            refine lv_dup2_11 hx hb d_Receiver_follow_66 rfl rfl ?_
            refine z_iald hx hb hK hP 1 1 rfl rfl 4 rfl (by decide) (by decide) d_Receiver_follow_67 ?_
            refine lv_iconst (v := 1) hx hb d_Receiver_follow_68 (by decide) ?_
            refine lv_iadd hx hb d_Receiver_follow_69 ?_
            refine z_iast hx hb hK hP hD hS 1 1 rfl rfl 4 rfl (by decide) (by decide) d_Receiver_follow_70 (fun H locs hP hD hS => ?_)
            have hP : va_P D classes ([(rv, .inr (4, [.ref tp, .ref ln, .ref tb, .ref ca, .ref dp])), (ca, .inl (cI, 10, .inl (upd cn 4 ((cn 4) + 1)))), (la, .inr (1, [.int (nI pid), va_rf nx, .int ct, .int tw, .long ck, .int wr, va_rf ((se).map (fun q => q.1)), va_rf ((pi).map (fun q => q.1))]))] ++ ((lzS cB se ++ lzI pi) ++ Q)) H := hP
            have hD : va_D A ([(rv, .inr (4, [.ref tp, .ref ln, .ref tb, .ref ca, .ref dp])), (ca, .inl (cI, 10, .inl (upd cn 4 ((cn 4) + 1)))), (la, .inr (1, [.int (nI pid), va_rf nx, .int ct, .int tw, .long ck, .int wr, va_rf ((se).map (fun q => q.1)), va_rf ((pi).map (fun q => q.1))]))] ++ ((lzS cB se ++ lzI pi) ++ Q)) := hD
            rw [show upd cn 4 ((cn 4) + 1) = cup cn 4 from rfl] at hP hD
            have hP : va_P D classes ([(rv, .inr (4, [.ref tp, .ref ln, .ref tb, .ref ca, .ref dp])), (ca, .inl (cI, 10, .inl (cup cn 4))), (la, .inr (1, [.int (nI pid), va_rf nx, .int ct, .int tw, .long ck, .int wr, va_rf ((se).map (fun q => q.1)), va_rf ((pi).map (fun q => q.1))]))] ++ ((lzS cB se ++ lzI pi) ++ Q)) H := hP
            have hD : va_D A ([(rv, .inr (4, [.ref tp, .ref ln, .ref tb, .ref ca, .ref dp])), (ca, .inl (cI, 10, .inl (cup cn 4))), (la, .inr (1, [.int (nI pid), va_rf nx, .int ct, .int tw, .long ck, .int wr, va_rf ((se).map (fun q => q.1)), va_rf ((pi).map (fun q => q.1))]))] ++ ((lzS cB se ++ lzI pi) ++ Q)) := hD
            refine lv_aload_n hx hb d_Receiver_follow_71 rfl (lv_at hl 0 rfl) ?_
            refine lv_aload_n hx hb d_Receiver_follow_72 rfl (lv_at hl 1 rfl) ?_
            have hP : va_P D classes ([(rv, .inr (4, [.ref tp, .ref ln, .ref tb, .ref ca, .ref dp])), (ca, .inl (cI, 10, .inl (cup cn 4)))] ++ (lzc cB (la, pid, nx, ct, tw, ck, wr, se, pi) ++ Q)) H := hP
            have hD : va_D A ([(rv, .inr (4, [.ref tp, .ref ln, .ref tb, .ref ca, .ref dp])), (ca, .inl (cI, 10, .inl (cup cn 4)))] ++ (lzc cB (la, pid, nx, ct, tw, ck, wr, se, pi) ++ Q)) := hD
            have hPc := hP.part (cx := [(rv, .inr (4, [.ref tp, .ref ln, .ref tb, .ref ca, .ref dp])), (ca, .inl (cI, 10, .inl (cup cn 4)))]) [0, 1] rfl
            have hKc := hK.sub (tys' := [(cB, .byte), (cI, .int)]) [0, 1] rfl
            have hDc := hD.part (cx := [(rv, .inr (4, [.ref tp, .ref ln, .ref tb, .ref ca, .ref dp])), (ca, .inl (cI, 10, .inl (cup cn 4)))]) [0, 1] (by decide) rfl
            have hFc := va_freeP (cx := [(rv, .inr (4, [.ref tp, .ref ln, .ref tb, .ref ca, .ref dp])), (ca, .inl (cI, 10, .inl (cup cn 4)))]) hD hS hA [0, 1] rfl
            refine va_callv (va_runV (As := [.ref la]) (rest := []) ⟨hx, hb, hml, hown, hts⟩ (c_Receiver_giveUp l D H.size cB cI rv tp ln tb ca dp (cup cn 4) la pid nx ct tw ck wr se pi Q hse) (z_cV hN wd_289 wd_60 wd_286 hd_Receiver_giveUp rfl rfl ⟨Nat.le_of_ble_eq_true rfl, Nat.le_of_ble_eq_true rfl⟩ wd_288 wd_2) (z_preVm (va_recv (ci := 4) (q0 := 0) hK hP rfl rfl) hPc hKc hN hDc) rfl rfl hl.1 rfl (lv_room (Nat.le_of_ble_eq_true rfl)) d_Receiver_follow_73 ⟨Nat.le_of_ble_eq_true rfl, Nat.le_of_ble_eq_true rfl⟩) hS (fun q _ h => hFc q h) hFc (fun u73 t H locs ht hvm e73 hB hz1 hk1 hS => ?_)
            obtain ⟨hP1, hK1, hD1⟩ := hB
            rw [ht] at hP1
            obtain ⟨hP, hD⟩ := va_joinP (wr := []) (rx := [(rv, .inr (4, [.ref tp, .ref ln, .ref tb, .ref ca, .ref dp])), (ca, .inl (cI, 10, .inl (guC (cup cn 4) se pi)))]) hP hD [0, 1] [] rfl rfl (by decide) (by decide) hk1 hFc hP1 hD1
            clear hk1 hP1 hD1 hFc hPc hDc hz1
            have hP : va_P D classes ([(rv, .inr (4, [.ref tp, .ref ln, .ref tb, .ref ca, .ref dp])), (ca, .inl (cI, 10, .inl (guC (cup cn 4) se pi)))] ++ (lzc cB (la, pid, nx, ct, tw, ck, wr, guS se, guI pi) ++ Q)) H := hP
            have hD : va_D A ([(rv, .inr (4, [.ref tp, .ref ln, .ref tb, .ref ca, .ref dp])), (ca, .inl (cI, 10, .inl (guC (cup cn 4) se pi)))] ++ (lzc cB (la, pid, nx, ct, tw, ck, wr, guS se, guI pi) ++ Q)) := hD
            have hP : va_P D classes ([(rv, .inr (4, [.ref tp, .ref ln, .ref tb, .ref ca, .ref dp])), (ca, .inl (cI, 10, .inl (guC (cup cn 4) se pi))), (la, .inr (1, [.int (nI pid), va_rf nx, .int ct, .int tw, .long ck, .int wr, va_rf ((guS se).map (fun q => q.1)), va_rf ((guI pi).map (fun q => q.1))]))] ++ ((lzS cB (guS se) ++ lzI (guI pi)) ++ Q)) H := hP
            have hD : va_D A ([(rv, .inr (4, [.ref tp, .ref ln, .ref tb, .ref ca, .ref dp])), (ca, .inl (cI, 10, .inl (guC (cup cn 4) se pi))), (la, .inr (1, [.int (nI pid), va_rf nx, .int ct, .int tw, .long ck, .int wr, va_rf ((guS se).map (fun q => q.1)), va_rf ((guI pi).map (fun q => q.1))]))] ++ ((lzS cB (guS se) ++ lzI (guI pi)) ++ Q)) := hD
            refine lv_aload_n hx hb d_Receiver_follow_76 rfl (lv_at hl 1 rfl) ?_
            refine lv_iload_n hx hb d_Receiver_follow_77 rfl (lv_at hl 2 rfl) ?_
            refine va_putN (D := D) (ci := 1) (v := .int c) (ty := .int) (C := R_Lane) (T := F_Lane) (N := 8) hx hb hts i_Lane t_Lane t_Lane_ok n_Lane hown hK hP hD hS 2 rfl rfl 2 (by decide) (hts _ wd_249) (fun _ h9 => h9) rfl (by decide +kernel) rfl rfl (Nat.le_of_ble_eq_true rfl) d_Receiver_follow_78 (fun H locs hP hD hS => ?_)
            have hP : va_P D classes ([(rv, .inr (4, [.ref tp, .ref ln, .ref tb, .ref ca, .ref dp])), (ca, .inl (cI, 10, .inl (guC (cup cn 4) se pi))), (la, .inr (1, [.int (nI pid), va_rf nx, .int c, .int tw, .long ck, .int wr, va_rf ((guS se).map (fun q => q.1)), va_rf ((guI pi).map (fun q => q.1))]))] ++ ((lzS cB (guS se) ++ lzI (guI pi)) ++ Q)) H := hP
            have hD : va_D A ([(rv, .inr (4, [.ref tp, .ref ln, .ref tb, .ref ca, .ref dp])), (ca, .inl (cI, 10, .inl (guC (cup cn 4) se pi))), (la, .inr (1, [.int (nI pid), va_rf nx, .int c, .int tw, .long ck, .int wr, va_rf ((guS se).map (fun q => q.1)), va_rf ((guI pi).map (fun q => q.1))]))] ++ ((lzS cB (guS se) ++ lzI (guI pi)) ++ Q)) := hD
            refine lv_aload_n hx hb d_Receiver_follow_81 rfl (lv_at hl 1 rfl) ?_
            refine lv_iconst (v := 0) hx hb d_Receiver_follow_82 (by decide) ?_
            refine va_putN (D := D) (ci := 1) (v := .int 0) (ty := .boolean) (C := R_Lane) (T := F_Lane) (N := 8) hx hb hts i_Lane t_Lane t_Lane_ok n_Lane hown hK hP hD hS 2 rfl rfl 3 (by decide) (hts _ wd_250) (fun _ h9 => h9) rfl (by decide +kernel) rfl rfl (Nat.le_of_ble_eq_true rfl) d_Receiver_follow_83 (fun H locs hP hD hS => ?_)
            have hP : va_P D classes ([(rv, .inr (4, [.ref tp, .ref ln, .ref tb, .ref ca, .ref dp])), (ca, .inl (cI, 10, .inl (guC (cup cn 4) se pi))), (la, .inr (1, [.int (nI pid), va_rf nx, .int c, .int 0, .long ck, .int wr, va_rf ((guS se).map (fun q => q.1)), va_rf ((guI pi).map (fun q => q.1))]))] ++ ((lzS cB (guS se) ++ lzI (guI pi)) ++ Q)) H := hP
            have hD : va_D A ([(rv, .inr (4, [.ref tp, .ref ln, .ref tb, .ref ca, .ref dp])), (ca, .inl (cI, 10, .inl (guC (cup cn 4) se pi))), (la, .inr (1, [.int (nI pid), va_rf nx, .int c, .int 0, .long ck, .int wr, va_rf ((guS se).map (fun q => q.1)), va_rf ((guI pi).map (fun q => q.1))]))] ++ ((lzS cB (guS se) ++ lzI (guI pi)) ++ Q)) := hD
            refine lv_iconst (v := 1) hx hb d_Receiver_follow_86 (by decide) ?_
            have hP : va_P D classes ([(rv, .inr (4, [.ref tp, .ref ln, .ref tb, .ref ca, .ref dp])), (ca, .inl (cI, 10, .inl (guC (cup cn 4) se pi)))] ++ (lzc cB (la, pid, nx, c, 0, ck, wr, guS se, guI pi) ++ Q)) H := hP
            have hD : va_D A ([(rv, .inr (4, [.ref tp, .ref ln, .ref tb, .ref ca, .ref dp])), (ca, .inl (cI, 10, .inl (guC (cup cn 4) se pi)))] ++ (lzc cB (la, pid, nx, c, 0, ck, wr, guS se, guI pi) ++ Q)) := hD
            have hP9 := hP.part (cx := [(rv, .inr (4, [.ref tp, .ref ln, .ref tb, .ref ca, .ref dp])), (ca, .inl (cI, 10, .inl (guC (cup cn 4) se pi)))]) [0, 1] rfl
            have hD9 := hD.part (cx := [(rv, .inr (4, [.ref tp, .ref ln, .ref tb, .ref ca, .ref dp])), (ca, .inl (cI, 10, .inl (guC (cup cn 4) se pi)))]) [0, 1] (by decide) rfl
            have hK9 := hK.sub (tys' := [(cB, .byte), (cI, .int)]) [0, 1] rfl
            exact W.zret (v := 1) hx hb hr rfl (fun t ht hW => ⟨⟨_, (1, c, 0, guC (cup cn 4) se pi, guS se, guI pi), rfl, ⟨by unfold foU; rw [if_neg hnt, if_pos ⟨h41, h54, h58⟩], rfl⟩, ⟨by rw [ht]; exact hP9, va_K.moved hW.alike hK9, hD9⟩⟩, hS.F ht⟩) hS.2.2 d_Receiver_follow_87
    · have h9 : lt = 0 := by first | exact h9 | exact Classical.not_not.mp h9
      refine lv_aload_n hx hb d_Receiver_follow_12 rfl (lv_at hl 1 rfl) ?_
      refine va_getN (D := D) (ci := 1) (v := .int tw) (C := R_Lane) (T := F_Lane) (N := 8) hx hb hts i_Lane hown hK hP 2 rfl rfl 3 (by decide) (hts _ wd_250) (fun _ h9 => h9) rfl d_Receiver_follow_13 ?_
      refine lv_if_ne (tgt := 36) hx hb d_Receiver_follow_16 rfl (fun h16 => ?_) (fun h16 => ?_)
      · have hnt : ¬ (c = ct ∧ lt = 0 ∧ tw = 0) := fun z => h16 z.2.2
        refine lv_aload_n hx hb d_Receiver_follow_36 rfl (lv_at hl 1 rfl) ?_
        refine va_getN (D := D) (ci := 1) (v := .int ct) (C := R_Lane) (T := F_Lane) (N := 8) hx hb hts i_Lane hown hK hP 2 rfl rfl 2 (by decide) (hts _ wd_249) (fun _ h9 => h9) rfl d_Receiver_follow_37 ?_
        refine lv_iconst (v := (-1)) hx hb d_Receiver_follow_40 (by decide) ?_
        refine lv_icmp_eq (tgt := 76) hx hb d_Receiver_follow_41 rfl (fun h41 => ?_) (fun h41 => ?_)
        · have hng : ¬ (¬ ct = -1 ∧ ¬ c = (ct + 1) &&& 15 ∧ lt = 0) := fun z => z.1 h41
          refine lv_aload_n hx hb d_Receiver_follow_76 rfl (lv_at hl 1 rfl) ?_
          refine lv_iload_n hx hb d_Receiver_follow_77 rfl (lv_at hl 2 rfl) ?_
          refine va_putN (D := D) (ci := 1) (v := .int c) (ty := .int) (C := R_Lane) (T := F_Lane) (N := 8) hx hb hts i_Lane t_Lane t_Lane_ok n_Lane hown hK hP hD hS 2 rfl rfl 2 (by decide) (hts _ wd_249) (fun _ h9 => h9) rfl (by decide +kernel) rfl rfl (Nat.le_of_ble_eq_true rfl) d_Receiver_follow_78 (fun H locs hP hD hS => ?_)
          have hP : va_P D classes ([(rv, .inr (4, [.ref tp, .ref ln, .ref tb, .ref ca, .ref dp])), (ca, .inl (cI, 10, .inl cn)), (la, .inr (1, [.int (nI pid), va_rf nx, .int c, .int tw, .long ck, .int wr, va_rf ((se).map (fun q => q.1)), va_rf ((pi).map (fun q => q.1))]))] ++ ((lzS cB se ++ lzI pi) ++ Q)) H := hP
          have hD : va_D A ([(rv, .inr (4, [.ref tp, .ref ln, .ref tb, .ref ca, .ref dp])), (ca, .inl (cI, 10, .inl cn)), (la, .inr (1, [.int (nI pid), va_rf nx, .int c, .int tw, .long ck, .int wr, va_rf ((se).map (fun q => q.1)), va_rf ((pi).map (fun q => q.1))]))] ++ ((lzS cB se ++ lzI pi) ++ Q)) := hD
          refine lv_aload_n hx hb d_Receiver_follow_81 rfl (lv_at hl 1 rfl) ?_
          refine lv_iconst (v := 0) hx hb d_Receiver_follow_82 (by decide) ?_
          refine va_putN (D := D) (ci := 1) (v := .int 0) (ty := .boolean) (C := R_Lane) (T := F_Lane) (N := 8) hx hb hts i_Lane t_Lane t_Lane_ok n_Lane hown hK hP hD hS 2 rfl rfl 3 (by decide) (hts _ wd_250) (fun _ h9 => h9) rfl (by decide +kernel) rfl rfl (Nat.le_of_ble_eq_true rfl) d_Receiver_follow_83 (fun H locs hP hD hS => ?_)
          have hP : va_P D classes ([(rv, .inr (4, [.ref tp, .ref ln, .ref tb, .ref ca, .ref dp])), (ca, .inl (cI, 10, .inl cn)), (la, .inr (1, [.int (nI pid), va_rf nx, .int c, .int 0, .long ck, .int wr, va_rf ((se).map (fun q => q.1)), va_rf ((pi).map (fun q => q.1))]))] ++ ((lzS cB se ++ lzI pi) ++ Q)) H := hP
          have hD : va_D A ([(rv, .inr (4, [.ref tp, .ref ln, .ref tb, .ref ca, .ref dp])), (ca, .inl (cI, 10, .inl cn)), (la, .inr (1, [.int (nI pid), va_rf nx, .int c, .int 0, .long ck, .int wr, va_rf ((se).map (fun q => q.1)), va_rf ((pi).map (fun q => q.1))]))] ++ ((lzS cB se ++ lzI pi) ++ Q)) := hD
          refine lv_iconst (v := 1) hx hb d_Receiver_follow_86 (by decide) ?_
          have hP : va_P D classes ([(rv, .inr (4, [.ref tp, .ref ln, .ref tb, .ref ca, .ref dp])), (ca, .inl (cI, 10, .inl cn))] ++ (lzc cB (la, pid, nx, c, 0, ck, wr, se, pi) ++ Q)) H := hP
          have hD : va_D A ([(rv, .inr (4, [.ref tp, .ref ln, .ref tb, .ref ca, .ref dp])), (ca, .inl (cI, 10, .inl cn))] ++ (lzc cB (la, pid, nx, c, 0, ck, wr, se, pi) ++ Q)) := hD
          have hP9 := hP.part (cx := [(rv, .inr (4, [.ref tp, .ref ln, .ref tb, .ref ca, .ref dp])), (ca, .inl (cI, 10, .inl cn))]) [0, 1] rfl
          have hD9 := hD.part (cx := [(rv, .inr (4, [.ref tp, .ref ln, .ref tb, .ref ca, .ref dp])), (ca, .inl (cI, 10, .inl cn))]) [0, 1] (by decide) rfl
          have hK9 := hK.sub (tys' := [(cB, .byte), (cI, .int)]) [0, 1] rfl
          exact W.zret (v := 1) hx hb hr rfl (fun t ht hW => ⟨⟨_, (1, c, 0, cn, se, pi), rfl, ⟨by unfold foU; rw [if_neg hnt, if_neg hng], rfl⟩, ⟨by rw [ht]; exact hP9, va_K.moved hW.alike hK9, hD9⟩⟩, hS.F ht⟩) hS.2.2 d_Receiver_follow_87
        · refine lv_iload_n hx hb d_Receiver_follow_44 rfl (lv_at hl 2 rfl) ?_
          refine lv_aload_n hx hb d_Receiver_follow_45 rfl (lv_at hl 1 rfl) ?_
          refine va_getN (D := D) (ci := 1) (v := .int ct) (C := R_Lane) (T := F_Lane) (N := 8) hx hb hts i_Lane hown hK hP 2 rfl rfl 2 (by decide) (hts _ wd_249) (fun _ h9 => h9) rfl d_Receiver_follow_46 ?_
          refine lv_iconst (v := 1) hx hb d_Receiver_follow_49 (by decide) ?_
          refine lv_iadd hx hb d_Receiver_follow_50 ?_
          refine lv_bipush (v := 15) hx hb d_Receiver_follow_51 (by decide) ?_
          refine lv_iand hx hb d_Receiver_follow_53 ?_
          refine lv_icmp_eq (tgt := 76) hx hb d_Receiver_follow_54 rfl (fun h54 => ?_) (fun h54 => ?_)
          · have hng : ¬ (¬ ct = -1 ∧ ¬ c = (ct + 1) &&& 15 ∧ lt = 0) := fun z => z.2.1 h54
            refine lv_aload_n hx hb d_Receiver_follow_76 rfl (lv_at hl 1 rfl) ?_
            refine lv_iload_n hx hb d_Receiver_follow_77 rfl (lv_at hl 2 rfl) ?_
            refine va_putN (D := D) (ci := 1) (v := .int c) (ty := .int) (C := R_Lane) (T := F_Lane) (N := 8) hx hb hts i_Lane t_Lane t_Lane_ok n_Lane hown hK hP hD hS 2 rfl rfl 2 (by decide) (hts _ wd_249) (fun _ h9 => h9) rfl (by decide +kernel) rfl rfl (Nat.le_of_ble_eq_true rfl) d_Receiver_follow_78 (fun H locs hP hD hS => ?_)
            have hP : va_P D classes ([(rv, .inr (4, [.ref tp, .ref ln, .ref tb, .ref ca, .ref dp])), (ca, .inl (cI, 10, .inl cn)), (la, .inr (1, [.int (nI pid), va_rf nx, .int c, .int tw, .long ck, .int wr, va_rf ((se).map (fun q => q.1)), va_rf ((pi).map (fun q => q.1))]))] ++ ((lzS cB se ++ lzI pi) ++ Q)) H := hP
            have hD : va_D A ([(rv, .inr (4, [.ref tp, .ref ln, .ref tb, .ref ca, .ref dp])), (ca, .inl (cI, 10, .inl cn)), (la, .inr (1, [.int (nI pid), va_rf nx, .int c, .int tw, .long ck, .int wr, va_rf ((se).map (fun q => q.1)), va_rf ((pi).map (fun q => q.1))]))] ++ ((lzS cB se ++ lzI pi) ++ Q)) := hD
            refine lv_aload_n hx hb d_Receiver_follow_81 rfl (lv_at hl 1 rfl) ?_
            refine lv_iconst (v := 0) hx hb d_Receiver_follow_82 (by decide) ?_
            refine va_putN (D := D) (ci := 1) (v := .int 0) (ty := .boolean) (C := R_Lane) (T := F_Lane) (N := 8) hx hb hts i_Lane t_Lane t_Lane_ok n_Lane hown hK hP hD hS 2 rfl rfl 3 (by decide) (hts _ wd_250) (fun _ h9 => h9) rfl (by decide +kernel) rfl rfl (Nat.le_of_ble_eq_true rfl) d_Receiver_follow_83 (fun H locs hP hD hS => ?_)
            have hP : va_P D classes ([(rv, .inr (4, [.ref tp, .ref ln, .ref tb, .ref ca, .ref dp])), (ca, .inl (cI, 10, .inl cn)), (la, .inr (1, [.int (nI pid), va_rf nx, .int c, .int 0, .long ck, .int wr, va_rf ((se).map (fun q => q.1)), va_rf ((pi).map (fun q => q.1))]))] ++ ((lzS cB se ++ lzI pi) ++ Q)) H := hP
            have hD : va_D A ([(rv, .inr (4, [.ref tp, .ref ln, .ref tb, .ref ca, .ref dp])), (ca, .inl (cI, 10, .inl cn)), (la, .inr (1, [.int (nI pid), va_rf nx, .int c, .int 0, .long ck, .int wr, va_rf ((se).map (fun q => q.1)), va_rf ((pi).map (fun q => q.1))]))] ++ ((lzS cB se ++ lzI pi) ++ Q)) := hD
            refine lv_iconst (v := 1) hx hb d_Receiver_follow_86 (by decide) ?_
            have hP : va_P D classes ([(rv, .inr (4, [.ref tp, .ref ln, .ref tb, .ref ca, .ref dp])), (ca, .inl (cI, 10, .inl cn))] ++ (lzc cB (la, pid, nx, c, 0, ck, wr, se, pi) ++ Q)) H := hP
            have hD : va_D A ([(rv, .inr (4, [.ref tp, .ref ln, .ref tb, .ref ca, .ref dp])), (ca, .inl (cI, 10, .inl cn))] ++ (lzc cB (la, pid, nx, c, 0, ck, wr, se, pi) ++ Q)) := hD
            have hP9 := hP.part (cx := [(rv, .inr (4, [.ref tp, .ref ln, .ref tb, .ref ca, .ref dp])), (ca, .inl (cI, 10, .inl cn))]) [0, 1] rfl
            have hD9 := hD.part (cx := [(rv, .inr (4, [.ref tp, .ref ln, .ref tb, .ref ca, .ref dp])), (ca, .inl (cI, 10, .inl cn))]) [0, 1] (by decide) rfl
            have hK9 := hK.sub (tys' := [(cB, .byte), (cI, .int)]) [0, 1] rfl
            exact W.zret (v := 1) hx hb hr rfl (fun t ht hW => ⟨⟨_, (1, c, 0, cn, se, pi), rfl, ⟨by unfold foU; rw [if_neg hnt, if_neg hng], rfl⟩, ⟨by rw [ht]; exact hP9, va_K.moved hW.alike hK9, hD9⟩⟩, hS.F ht⟩) hS.2.2 d_Receiver_follow_87
          · refine lv_iload_n hx hb d_Receiver_follow_57 rfl (lv_at hl 3 rfl) ?_
            refine lv_if_ne (tgt := 76) hx hb d_Receiver_follow_58 rfl (fun h58 => ?_) (fun h58 => ?_)
            · have hng : ¬ (¬ ct = -1 ∧ ¬ c = (ct + 1) &&& 15 ∧ lt = 0) := fun z => h58 z.2.2
              refine lv_aload_n hx hb d_Receiver_follow_76 rfl (lv_at hl 1 rfl) ?_
              refine lv_iload_n hx hb d_Receiver_follow_77 rfl (lv_at hl 2 rfl) ?_
              refine va_putN (D := D) (ci := 1) (v := .int c) (ty := .int) (C := R_Lane) (T := F_Lane) (N := 8) hx hb hts i_Lane t_Lane t_Lane_ok n_Lane hown hK hP hD hS 2 rfl rfl 2 (by decide) (hts _ wd_249) (fun _ h9 => h9) rfl (by decide +kernel) rfl rfl (Nat.le_of_ble_eq_true rfl) d_Receiver_follow_78 (fun H locs hP hD hS => ?_)
              have hP : va_P D classes ([(rv, .inr (4, [.ref tp, .ref ln, .ref tb, .ref ca, .ref dp])), (ca, .inl (cI, 10, .inl cn)), (la, .inr (1, [.int (nI pid), va_rf nx, .int c, .int tw, .long ck, .int wr, va_rf ((se).map (fun q => q.1)), va_rf ((pi).map (fun q => q.1))]))] ++ ((lzS cB se ++ lzI pi) ++ Q)) H := hP
              have hD : va_D A ([(rv, .inr (4, [.ref tp, .ref ln, .ref tb, .ref ca, .ref dp])), (ca, .inl (cI, 10, .inl cn)), (la, .inr (1, [.int (nI pid), va_rf nx, .int c, .int tw, .long ck, .int wr, va_rf ((se).map (fun q => q.1)), va_rf ((pi).map (fun q => q.1))]))] ++ ((lzS cB se ++ lzI pi) ++ Q)) := hD
              refine lv_aload_n hx hb d_Receiver_follow_81 rfl (lv_at hl 1 rfl) ?_
              refine lv_iconst (v := 0) hx hb d_Receiver_follow_82 (by decide) ?_
              refine va_putN (D := D) (ci := 1) (v := .int 0) (ty := .boolean) (C := R_Lane) (T := F_Lane) (N := 8) hx hb hts i_Lane t_Lane t_Lane_ok n_Lane hown hK hP hD hS 2 rfl rfl 3 (by decide) (hts _ wd_250) (fun _ h9 => h9) rfl (by decide +kernel) rfl rfl (Nat.le_of_ble_eq_true rfl) d_Receiver_follow_83 (fun H locs hP hD hS => ?_)
              have hP : va_P D classes ([(rv, .inr (4, [.ref tp, .ref ln, .ref tb, .ref ca, .ref dp])), (ca, .inl (cI, 10, .inl cn)), (la, .inr (1, [.int (nI pid), va_rf nx, .int c, .int 0, .long ck, .int wr, va_rf ((se).map (fun q => q.1)), va_rf ((pi).map (fun q => q.1))]))] ++ ((lzS cB se ++ lzI pi) ++ Q)) H := hP
              have hD : va_D A ([(rv, .inr (4, [.ref tp, .ref ln, .ref tb, .ref ca, .ref dp])), (ca, .inl (cI, 10, .inl cn)), (la, .inr (1, [.int (nI pid), va_rf nx, .int c, .int 0, .long ck, .int wr, va_rf ((se).map (fun q => q.1)), va_rf ((pi).map (fun q => q.1))]))] ++ ((lzS cB se ++ lzI pi) ++ Q)) := hD
              refine lv_iconst (v := 1) hx hb d_Receiver_follow_86 (by decide) ?_
              have hP : va_P D classes ([(rv, .inr (4, [.ref tp, .ref ln, .ref tb, .ref ca, .ref dp])), (ca, .inl (cI, 10, .inl cn))] ++ (lzc cB (la, pid, nx, c, 0, ck, wr, se, pi) ++ Q)) H := hP
              have hD : va_D A ([(rv, .inr (4, [.ref tp, .ref ln, .ref tb, .ref ca, .ref dp])), (ca, .inl (cI, 10, .inl cn))] ++ (lzc cB (la, pid, nx, c, 0, ck, wr, se, pi) ++ Q)) := hD
              have hP9 := hP.part (cx := [(rv, .inr (4, [.ref tp, .ref ln, .ref tb, .ref ca, .ref dp])), (ca, .inl (cI, 10, .inl cn))]) [0, 1] rfl
              have hD9 := hD.part (cx := [(rv, .inr (4, [.ref tp, .ref ln, .ref tb, .ref ca, .ref dp])), (ca, .inl (cI, 10, .inl cn))]) [0, 1] (by decide) rfl
              have hK9 := hK.sub (tys' := [(cB, .byte), (cI, .int)]) [0, 1] rfl
              exact W.zret (v := 1) hx hb hr rfl (fun t ht hW => ⟨⟨_, (1, c, 0, cn, se, pi), rfl, ⟨by unfold foU; rw [if_neg hnt, if_neg hng], rfl⟩, ⟨by rw [ht]; exact hP9, va_K.moved hW.alike hK9, hD9⟩⟩, hS.F ht⟩) hS.2.2 d_Receiver_follow_87
            · have h58 : lt = 0 := by first | exact h58 | exact Classical.not_not.mp h58
              refine lv_aload_n hx hb d_Receiver_follow_61 rfl (lv_at hl 0 rfl) ?_
              refine va_get (D := D) (ci := 4) (v := .ref ca) (C := R_Receiver) (T := F_Receiver) (N := 5) hx hb hts i_Receiver hown hK hP 0 rfl rfl 3 (by decide) (hts _ wd_181) (fun _ h9 => h9) rfl d_Receiver_follow_62 ?_
              refine lv_iconst (v := 4) hx hb d_Receiver_follow_65 (by decide) ?_
              refine lv_dup2_11 hx hb d_Receiver_follow_66 rfl rfl ?_
              refine z_iald hx hb hK hP 1 1 rfl rfl 4 rfl (by decide) (by decide) d_Receiver_follow_67 ?_
              refine lv_iconst (v := 1) hx hb d_Receiver_follow_68 (by decide) ?_
              refine lv_iadd hx hb d_Receiver_follow_69 ?_
              refine z_iast hx hb hK hP hD hS 1 1 rfl rfl 4 rfl (by decide) (by decide) d_Receiver_follow_70 (fun H locs hP hD hS => ?_)
              have hP : va_P D classes ([(rv, .inr (4, [.ref tp, .ref ln, .ref tb, .ref ca, .ref dp])), (ca, .inl (cI, 10, .inl (upd cn 4 ((cn 4) + 1)))), (la, .inr (1, [.int (nI pid), va_rf nx, .int ct, .int tw, .long ck, .int wr, va_rf ((se).map (fun q => q.1)), va_rf ((pi).map (fun q => q.1))]))] ++ ((lzS cB se ++ lzI pi) ++ Q)) H := hP
              have hD : va_D A ([(rv, .inr (4, [.ref tp, .ref ln, .ref tb, .ref ca, .ref dp])), (ca, .inl (cI, 10, .inl (upd cn 4 ((cn 4) + 1)))), (la, .inr (1, [.int (nI pid), va_rf nx, .int ct, .int tw, .long ck, .int wr, va_rf ((se).map (fun q => q.1)), va_rf ((pi).map (fun q => q.1))]))] ++ ((lzS cB se ++ lzI pi) ++ Q)) := hD
              rw [show upd cn 4 ((cn 4) + 1) = cup cn 4 from rfl] at hP hD
              have hP : va_P D classes ([(rv, .inr (4, [.ref tp, .ref ln, .ref tb, .ref ca, .ref dp])), (ca, .inl (cI, 10, .inl (cup cn 4))), (la, .inr (1, [.int (nI pid), va_rf nx, .int ct, .int tw, .long ck, .int wr, va_rf ((se).map (fun q => q.1)), va_rf ((pi).map (fun q => q.1))]))] ++ ((lzS cB se ++ lzI pi) ++ Q)) H := hP
              have hD : va_D A ([(rv, .inr (4, [.ref tp, .ref ln, .ref tb, .ref ca, .ref dp])), (ca, .inl (cI, 10, .inl (cup cn 4))), (la, .inr (1, [.int (nI pid), va_rf nx, .int ct, .int tw, .long ck, .int wr, va_rf ((se).map (fun q => q.1)), va_rf ((pi).map (fun q => q.1))]))] ++ ((lzS cB se ++ lzI pi) ++ Q)) := hD
              refine lv_aload_n hx hb d_Receiver_follow_71 rfl (lv_at hl 0 rfl) ?_
              refine lv_aload_n hx hb d_Receiver_follow_72 rfl (lv_at hl 1 rfl) ?_
              have hP : va_P D classes ([(rv, .inr (4, [.ref tp, .ref ln, .ref tb, .ref ca, .ref dp])), (ca, .inl (cI, 10, .inl (cup cn 4)))] ++ (lzc cB (la, pid, nx, ct, tw, ck, wr, se, pi) ++ Q)) H := hP
              have hD : va_D A ([(rv, .inr (4, [.ref tp, .ref ln, .ref tb, .ref ca, .ref dp])), (ca, .inl (cI, 10, .inl (cup cn 4)))] ++ (lzc cB (la, pid, nx, ct, tw, ck, wr, se, pi) ++ Q)) := hD
              have hPc := hP.part (cx := [(rv, .inr (4, [.ref tp, .ref ln, .ref tb, .ref ca, .ref dp])), (ca, .inl (cI, 10, .inl (cup cn 4)))]) [0, 1] rfl
              have hKc := hK.sub (tys' := [(cB, .byte), (cI, .int)]) [0, 1] rfl
              have hDc := hD.part (cx := [(rv, .inr (4, [.ref tp, .ref ln, .ref tb, .ref ca, .ref dp])), (ca, .inl (cI, 10, .inl (cup cn 4)))]) [0, 1] (by decide) rfl
              have hFc := va_freeP (cx := [(rv, .inr (4, [.ref tp, .ref ln, .ref tb, .ref ca, .ref dp])), (ca, .inl (cI, 10, .inl (cup cn 4)))]) hD hS hA [0, 1] rfl
              refine va_callv (va_runV (As := [.ref la]) (rest := []) ⟨hx, hb, hml, hown, hts⟩ (c_Receiver_giveUp l D H.size cB cI rv tp ln tb ca dp (cup cn 4) la pid nx ct tw ck wr se pi Q hse) (z_cV hN wd_289 wd_60 wd_286 hd_Receiver_giveUp rfl rfl ⟨Nat.le_of_ble_eq_true rfl, Nat.le_of_ble_eq_true rfl⟩ wd_288 wd_2) (z_preVm (va_recv (ci := 4) (q0 := 0) hK hP rfl rfl) hPc hKc hN hDc) rfl rfl hl.1 rfl (lv_room (Nat.le_of_ble_eq_true rfl)) d_Receiver_follow_73 ⟨Nat.le_of_ble_eq_true rfl, Nat.le_of_ble_eq_true rfl⟩) hS (fun q _ h => hFc q h) hFc (fun u73 t H locs ht hvm e73 hB hz1 hk1 hS => ?_)
              obtain ⟨hP1, hK1, hD1⟩ := hB
              rw [ht] at hP1
              obtain ⟨hP, hD⟩ := va_joinP (wr := []) (rx := [(rv, .inr (4, [.ref tp, .ref ln, .ref tb, .ref ca, .ref dp])), (ca, .inl (cI, 10, .inl (guC (cup cn 4) se pi)))]) hP hD [0, 1] [] rfl rfl (by decide) (by decide) hk1 hFc hP1 hD1
              clear hk1 hP1 hD1 hFc hPc hDc hz1
              have hP : va_P D classes ([(rv, .inr (4, [.ref tp, .ref ln, .ref tb, .ref ca, .ref dp])), (ca, .inl (cI, 10, .inl (guC (cup cn 4) se pi)))] ++ (lzc cB (la, pid, nx, ct, tw, ck, wr, guS se, guI pi) ++ Q)) H := hP
              have hD : va_D A ([(rv, .inr (4, [.ref tp, .ref ln, .ref tb, .ref ca, .ref dp])), (ca, .inl (cI, 10, .inl (guC (cup cn 4) se pi)))] ++ (lzc cB (la, pid, nx, ct, tw, ck, wr, guS se, guI pi) ++ Q)) := hD
              have hP : va_P D classes ([(rv, .inr (4, [.ref tp, .ref ln, .ref tb, .ref ca, .ref dp])), (ca, .inl (cI, 10, .inl (guC (cup cn 4) se pi))), (la, .inr (1, [.int (nI pid), va_rf nx, .int ct, .int tw, .long ck, .int wr, va_rf ((guS se).map (fun q => q.1)), va_rf ((guI pi).map (fun q => q.1))]))] ++ ((lzS cB (guS se) ++ lzI (guI pi)) ++ Q)) H := hP
              have hD : va_D A ([(rv, .inr (4, [.ref tp, .ref ln, .ref tb, .ref ca, .ref dp])), (ca, .inl (cI, 10, .inl (guC (cup cn 4) se pi))), (la, .inr (1, [.int (nI pid), va_rf nx, .int ct, .int tw, .long ck, .int wr, va_rf ((guS se).map (fun q => q.1)), va_rf ((guI pi).map (fun q => q.1))]))] ++ ((lzS cB (guS se) ++ lzI (guI pi)) ++ Q)) := hD
              refine lv_aload_n hx hb d_Receiver_follow_76 rfl (lv_at hl 1 rfl) ?_
              refine lv_iload_n hx hb d_Receiver_follow_77 rfl (lv_at hl 2 rfl) ?_
              refine va_putN (D := D) (ci := 1) (v := .int c) (ty := .int) (C := R_Lane) (T := F_Lane) (N := 8) hx hb hts i_Lane t_Lane t_Lane_ok n_Lane hown hK hP hD hS 2 rfl rfl 2 (by decide) (hts _ wd_249) (fun _ h9 => h9) rfl (by decide +kernel) rfl rfl (Nat.le_of_ble_eq_true rfl) d_Receiver_follow_78 (fun H locs hP hD hS => ?_)
              have hP : va_P D classes ([(rv, .inr (4, [.ref tp, .ref ln, .ref tb, .ref ca, .ref dp])), (ca, .inl (cI, 10, .inl (guC (cup cn 4) se pi))), (la, .inr (1, [.int (nI pid), va_rf nx, .int c, .int tw, .long ck, .int wr, va_rf ((guS se).map (fun q => q.1)), va_rf ((guI pi).map (fun q => q.1))]))] ++ ((lzS cB (guS se) ++ lzI (guI pi)) ++ Q)) H := hP
              have hD : va_D A ([(rv, .inr (4, [.ref tp, .ref ln, .ref tb, .ref ca, .ref dp])), (ca, .inl (cI, 10, .inl (guC (cup cn 4) se pi))), (la, .inr (1, [.int (nI pid), va_rf nx, .int c, .int tw, .long ck, .int wr, va_rf ((guS se).map (fun q => q.1)), va_rf ((guI pi).map (fun q => q.1))]))] ++ ((lzS cB (guS se) ++ lzI (guI pi)) ++ Q)) := hD
              refine lv_aload_n hx hb d_Receiver_follow_81 rfl (lv_at hl 1 rfl) ?_
              refine lv_iconst (v := 0) hx hb d_Receiver_follow_82 (by decide) ?_
              refine va_putN (D := D) (ci := 1) (v := .int 0) (ty := .boolean) (C := R_Lane) (T := F_Lane) (N := 8) hx hb hts i_Lane t_Lane t_Lane_ok n_Lane hown hK hP hD hS 2 rfl rfl 3 (by decide) (hts _ wd_250) (fun _ h9 => h9) rfl (by decide +kernel) rfl rfl (Nat.le_of_ble_eq_true rfl) d_Receiver_follow_83 (fun H locs hP hD hS => ?_)
              have hP : va_P D classes ([(rv, .inr (4, [.ref tp, .ref ln, .ref tb, .ref ca, .ref dp])), (ca, .inl (cI, 10, .inl (guC (cup cn 4) se pi))), (la, .inr (1, [.int (nI pid), va_rf nx, .int c, .int 0, .long ck, .int wr, va_rf ((guS se).map (fun q => q.1)), va_rf ((guI pi).map (fun q => q.1))]))] ++ ((lzS cB (guS se) ++ lzI (guI pi)) ++ Q)) H := hP
              have hD : va_D A ([(rv, .inr (4, [.ref tp, .ref ln, .ref tb, .ref ca, .ref dp])), (ca, .inl (cI, 10, .inl (guC (cup cn 4) se pi))), (la, .inr (1, [.int (nI pid), va_rf nx, .int c, .int 0, .long ck, .int wr, va_rf ((guS se).map (fun q => q.1)), va_rf ((guI pi).map (fun q => q.1))]))] ++ ((lzS cB (guS se) ++ lzI (guI pi)) ++ Q)) := hD
              refine lv_iconst (v := 1) hx hb d_Receiver_follow_86 (by decide) ?_
              have hP : va_P D classes ([(rv, .inr (4, [.ref tp, .ref ln, .ref tb, .ref ca, .ref dp])), (ca, .inl (cI, 10, .inl (guC (cup cn 4) se pi)))] ++ (lzc cB (la, pid, nx, c, 0, ck, wr, guS se, guI pi) ++ Q)) H := hP
              have hD : va_D A ([(rv, .inr (4, [.ref tp, .ref ln, .ref tb, .ref ca, .ref dp])), (ca, .inl (cI, 10, .inl (guC (cup cn 4) se pi)))] ++ (lzc cB (la, pid, nx, c, 0, ck, wr, guS se, guI pi) ++ Q)) := hD
              have hP9 := hP.part (cx := [(rv, .inr (4, [.ref tp, .ref ln, .ref tb, .ref ca, .ref dp])), (ca, .inl (cI, 10, .inl (guC (cup cn 4) se pi)))]) [0, 1] rfl
              have hD9 := hD.part (cx := [(rv, .inr (4, [.ref tp, .ref ln, .ref tb, .ref ca, .ref dp])), (ca, .inl (cI, 10, .inl (guC (cup cn 4) se pi)))]) [0, 1] (by decide) rfl
              have hK9 := hK.sub (tys' := [(cB, .byte), (cI, .int)]) [0, 1] rfl
              exact W.zret (v := 1) hx hb hr rfl (fun t ht hW => ⟨⟨_, (1, c, 0, guC (cup cn 4) se pi, guS se, guI pi), rfl, ⟨by unfold foU; rw [if_neg hnt, if_pos ⟨h41, h54, h58⟩], rfl⟩, ⟨by rw [ht]; exact hP9, va_K.moved hW.alike hK9, hD9⟩⟩, hS.F ht⟩) hS.2.2 d_Receiver_follow_87
      · have h16 : tw = 0 := by first | exact h16 | exact Classical.not_not.mp h16
        refine lv_aload_n hx hb d_Receiver_follow_19 rfl (lv_at hl 1 rfl) ?_
        refine lv_iconst (v := 1) hx hb d_Receiver_follow_20 (by decide) ?_
        refine va_putN (D := D) (ci := 1) (v := .int 1) (ty := .boolean) (C := R_Lane) (T := F_Lane) (N := 8) hx hb hts i_Lane t_Lane t_Lane_ok n_Lane hown hK hP hD hS 2 rfl rfl 3 (by decide) (hts _ wd_250) (fun _ h9 => h9) rfl (by decide +kernel) rfl rfl (Nat.le_of_ble_eq_true rfl) d_Receiver_follow_21 (fun H locs hP hD hS => ?_)
        have hP : va_P D classes ([(rv, .inr (4, [.ref tp, .ref ln, .ref tb, .ref ca, .ref dp])), (ca, .inl (cI, 10, .inl cn)), (la, .inr (1, [.int (nI pid), va_rf nx, .int ct, .int 1, .long ck, .int wr, va_rf ((se).map (fun q => q.1)), va_rf ((pi).map (fun q => q.1))]))] ++ ((lzS cB se ++ lzI pi) ++ Q)) H := hP
        have hD : va_D A ([(rv, .inr (4, [.ref tp, .ref ln, .ref tb, .ref ca, .ref dp])), (ca, .inl (cI, 10, .inl cn)), (la, .inr (1, [.int (nI pid), va_rf nx, .int ct, .int 1, .long ck, .int wr, va_rf ((se).map (fun q => q.1)), va_rf ((pi).map (fun q => q.1))]))] ++ ((lzS cB se ++ lzI pi) ++ Q)) := hD
        refine lv_aload_n hx hb d_Receiver_follow_24 rfl (lv_at hl 0 rfl) ?_
        refine va_get (D := D) (ci := 4) (v := .ref ca) (C := R_Receiver) (T := F_Receiver) (N := 5) hx hb hts i_Receiver hown hK hP 0 rfl rfl 3 (by decide) (hts _ wd_181) (fun _ h9 => h9) rfl d_Receiver_follow_25 ?_
        refine lv_iconst (v := 3) hx hb d_Receiver_follow_28 (by decide) ?_
        refine lv_dup2_11 hx hb d_Receiver_follow_29 rfl rfl ?_
        refine z_iald hx hb hK hP 1 1 rfl rfl 3 rfl (by decide) (by decide) d_Receiver_follow_30 ?_
        refine lv_iconst (v := 1) hx hb d_Receiver_follow_31 (by decide) ?_
        refine lv_iadd hx hb d_Receiver_follow_32 ?_
        refine z_iast hx hb hK hP hD hS 1 1 rfl rfl 3 rfl (by decide) (by decide) d_Receiver_follow_33 (fun H locs hP hD hS => ?_)
        have hP : va_P D classes ([(rv, .inr (4, [.ref tp, .ref ln, .ref tb, .ref ca, .ref dp])), (ca, .inl (cI, 10, .inl (upd cn 3 ((cn 3) + 1)))), (la, .inr (1, [.int (nI pid), va_rf nx, .int ct, .int 1, .long ck, .int wr, va_rf ((se).map (fun q => q.1)), va_rf ((pi).map (fun q => q.1))]))] ++ ((lzS cB se ++ lzI pi) ++ Q)) H := hP
        have hD : va_D A ([(rv, .inr (4, [.ref tp, .ref ln, .ref tb, .ref ca, .ref dp])), (ca, .inl (cI, 10, .inl (upd cn 3 ((cn 3) + 1)))), (la, .inr (1, [.int (nI pid), va_rf nx, .int ct, .int 1, .long ck, .int wr, va_rf ((se).map (fun q => q.1)), va_rf ((pi).map (fun q => q.1))]))] ++ ((lzS cB se ++ lzI pi) ++ Q)) := hD
        rw [show upd cn 3 ((cn 3) + 1) = cup cn 3 from rfl] at hP hD
        have hP : va_P D classes ([(rv, .inr (4, [.ref tp, .ref ln, .ref tb, .ref ca, .ref dp])), (ca, .inl (cI, 10, .inl (cup cn 3))), (la, .inr (1, [.int (nI pid), va_rf nx, .int ct, .int 1, .long ck, .int wr, va_rf ((se).map (fun q => q.1)), va_rf ((pi).map (fun q => q.1))]))] ++ ((lzS cB se ++ lzI pi) ++ Q)) H := hP
        have hD : va_D A ([(rv, .inr (4, [.ref tp, .ref ln, .ref tb, .ref ca, .ref dp])), (ca, .inl (cI, 10, .inl (cup cn 3))), (la, .inr (1, [.int (nI pid), va_rf nx, .int ct, .int 1, .long ck, .int wr, va_rf ((se).map (fun q => q.1)), va_rf ((pi).map (fun q => q.1))]))] ++ ((lzS cB se ++ lzI pi) ++ Q)) := hD
        refine lv_iconst (v := 0) hx hb d_Receiver_follow_34 (by decide) ?_
        have hP : va_P D classes ([(rv, .inr (4, [.ref tp, .ref ln, .ref tb, .ref ca, .ref dp])), (ca, .inl (cI, 10, .inl (cup cn 3)))] ++ (lzc cB (la, pid, nx, ct, 1, ck, wr, se, pi) ++ Q)) H := hP
        have hD : va_D A ([(rv, .inr (4, [.ref tp, .ref ln, .ref tb, .ref ca, .ref dp])), (ca, .inl (cI, 10, .inl (cup cn 3)))] ++ (lzc cB (la, pid, nx, ct, 1, ck, wr, se, pi) ++ Q)) := hD
        have hP9 := hP.part (cx := [(rv, .inr (4, [.ref tp, .ref ln, .ref tb, .ref ca, .ref dp])), (ca, .inl (cI, 10, .inl (cup cn 3)))]) [0, 1] rfl
        have hD9 := hD.part (cx := [(rv, .inr (4, [.ref tp, .ref ln, .ref tb, .ref ca, .ref dp])), (ca, .inl (cI, 10, .inl (cup cn 3)))]) [0, 1] (by decide) rfl
        have hK9 := hK.sub (tys' := [(cB, .byte), (cI, .int)]) [0, 1] rfl
        exact W.zret (v := 0) hx hb hr rfl (fun t ht hW => ⟨⟨_, (0, ct, 1, cup cn 3, se, pi), rfl, ⟨by unfold foU; rw [if_pos ⟨h5, h9, h16⟩], rfl⟩, ⟨by rw [ht]; exact hP9, va_K.moved hW.alike hK9, hD9⟩⟩, hS.F ht⟩) hS.2.2 d_Receiver_follow_35
set_option maxHeartbeats 4000000 in
set_option maxRecDepth 100000 in
theorem c_Receiver_payloadOf (l : Launch) (D : va_G) (cB : ClassId) (rv tp l9 b9 c9 d9 a n ln : Nat) (f : Nat → Int32) (k : Nat) (hln : ln < 2 ^ 31) : Met l y_Receiver_payloadOf [Cond.code y_Receiver_payloadOf b_Receiver_payloadOf 3 (some .int)] ({ frames := 1, cells := 0, slots := 0, locals := 21 }) (zP [.ref rv, .int (nI k)] D [(rv, .inr (4, [.ref tp, .ref l9, .ref b9, .ref c9, .ref d9])), (tp, .inr (0, [.ref a, .int (nI n)])), (a, .inl (cB, ln, .inl f))] [(cB, .byte)]) (vp_Si (fun r0 => r0 = nI (payN f n ln k))) 0 0 (fun _ => False) := by
  refine Met.ofW (cc := b_Receiver_payloadOf) (maxL := 3) (ret := (some .int)) (by decide) rfl ?_
  intro p e s m args below meth cd s₁ Bd hml hv
  obtain ⟨rfl, hP, hK, hN⟩ := hv
  have hx := Bd.exec
  have hb := Bd.bytes
  have hr := Bd.returns
  have hts := hN.use (a := ([.ref rv, .int (nI k)]).toArray)
  have hown : s.vm.findClass R_Receiver = some m.cls := findClass_of_methodNamed Bd.named
  have hlocks := Bd.notSynchronized
  have hP : va_P D classes [(rv, .inr (4, [.ref tp, .ref l9, .ref b9, .ref c9, .ref d9])), (tp, .inr (0, [.ref a, .int (nI n)])), (a, .inl (cB, ln, .inl f))] s.heap := hP
  have hl := lv_entry ([.ref rv, .int (nI k)]) (n := 3) (Nat.le_of_ble_eq_true rfl)
  rw [lg_entry_eq]
  generalize (lg_sl ([.ref rv, .int (nI k)]) ++ List.replicate (3 - (lg_sl ([.ref rv, .int (nI k)])).length) Slot.unset).toArray = ls at hl ⊢
  have hl : lv_has ls 3 [(0, .ref rv), (1, .int (nI k))] := hl
  refine lv_aload_n hx hb d_Receiver_payloadOf_0 rfl (lv_at hl 0 rfl) ?_
  refine va_get (D := D) (ci := 4) (v := .ref tp) (C := R_Receiver) (T := F_Receiver) (N := 5) hx hb hts i_Receiver hown hK hP 0 rfl rfl 0 (by decide) (hts _ wd_175) (fun _ h9 => h9) rfl d_Receiver_payloadOf_1 ?_
  refine lv_iload_n hx hb d_Receiver_payloadOf_4 rfl (lv_at hl 1 rfl) ?_
  refine lv_iconst (v := 3) hx hb d_Receiver_payloadOf_5 (by decide) ?_
  refine lv_iadd hx hb d_Receiver_payloadOf_6 ?_
  refine z_topi (w := nI (k + 3)) (nI_add _ 3) ?_
  have hPc := hP.sub (ws' := [(tp, .inr (0, [.ref a, .int (nI n)])), (a, .inl (cB, ln, .inl f))]) [1, 2] rfl
  have hKc := hK.sub (tys' := [(cB, .byte)]) [0] rfl
  refine z_ci (va_runV (As := [.int (nI (k + 3))]) (rest := []) ⟨hx, hb, hml, hown, hts⟩ (c_Row_at l D cB tp a n ln f (nI (k + 3)) hln) (z_cV hN wd_212 wd_61 wd_221 hd_Row_at rfl rfl ⟨Nat.le_of_ble_eq_true rfl, Nat.le_of_ble_eq_true rfl⟩ wd_210 wd_211) (z_preV (va_recv (ci := 0) (q0 := 1) hK hP rfl rfl) hPc hKc hN) rfl rfl hl.1 rfl (lv_room (Nat.le_of_ble_eq_true rfl)) d_Receiver_payloadOf_7 ⟨Nat.le_of_ble_eq_true rfl, Nat.le_of_ble_eq_true rfl⟩) (fun r7 e7 => ?_)
  refine z_topi (w := rw_at f n ln (nI (k + 3))) e7 ?_
  refine z_topi (w := nI (rbN f n ln (k + 3))) (rb_eq _ _ _ _) ?_
  refine lv_bipush (v := 32) hx hb d_Receiver_payloadOf_10 (by decide) ?_
  refine lv_iand hx hb d_Receiver_payloadOf_12 ?_
  refine lv_if_eq (tgt := 20) hx hb d_Receiver_payloadOf_13 rfl (fun h13 => ?_) (fun h13 => ?_)
  · have h13 := (and_32 _ (rb_lt _ _ _ _)).mp h13
    refine lv_iconst (v := 0) hx hb d_Receiver_payloadOf_20 (by decide) ?_
    refine lv_istore_n (lv' := [(2, .int 0), (0, .ref rv), (1, .int (nI k))]) hx hb d_Receiver_payloadOf_21 rfl hl (by decide) rfl (fun ls hl => ?_)
    refine lv_iload_n hx hb d_Receiver_payloadOf_22 rfl (lv_at hl 0 rfl) ?_
    refine lv_if_eq (tgt := 43) hx hb d_Receiver_payloadOf_23 rfl (fun h23 => ?_) (fun h9 => absurd h9 (by decide))
    refine lv_iload_n hx hb d_Receiver_payloadOf_43 rfl (lv_at hl 2 rfl) ?_
    refine lv_iconst (v := 4) hx hb d_Receiver_payloadOf_44 (by decide) ?_
    refine lv_iadd hx hb d_Receiver_payloadOf_45 ?_
    refine z_topi (w := nI (k + 4)) (nI_add _ 4) ?_
    exact W.iret (v := (nI (k + 4))) hx hb hr (fun t ht hW => ⟨_, rfl, (by unfold payN; first | rw [if_pos h13] | rw [if_neg h13]), ht⟩) (fun _ h => by cases h) d_Receiver_payloadOf_46
  · have h13 := mt (and_32 _ (rb_lt _ _ _ _)).mpr h13
    refine lv_iconst (v := 1) hx hb d_Receiver_payloadOf_16 (by decide) ?_
    refine lv_goto (tgt := 21) hx hb d_Receiver_payloadOf_17 rfl ?_
    refine lv_istore_n (lv' := [(2, .int 1), (0, .ref rv), (1, .int (nI k))]) hx hb d_Receiver_payloadOf_21 rfl hl (by decide) rfl (fun ls hl => ?_)
    refine lv_iload_n hx hb d_Receiver_payloadOf_22 rfl (lv_at hl 0 rfl) ?_
    refine lv_if_eq (tgt := 43) hx hb d_Receiver_payloadOf_23 rfl (fun h9 => absurd h9 (by decide)) (fun h23 => ?_)
    refine lv_iload_n hx hb d_Receiver_payloadOf_26 rfl (lv_at hl 2 rfl) ?_
    refine lv_iconst (v := 5) hx hb d_Receiver_payloadOf_27 (by decide) ?_
    refine lv_iadd hx hb d_Receiver_payloadOf_28 ?_
    refine z_topi (w := nI (k + 5)) (nI_add _ 5) ?_
    refine lv_aload_n hx hb d_Receiver_payloadOf_29 rfl (lv_at hl 1 rfl) ?_
    refine va_get (D := D) (ci := 4) (v := .ref tp) (C := R_Receiver) (T := F_Receiver) (N := 5) hx hb hts i_Receiver hown hK hP 0 rfl rfl 0 (by decide) (hts _ wd_175) (fun _ h9 => h9) rfl d_Receiver_payloadOf_30 ?_
    refine lv_iload_n hx hb d_Receiver_payloadOf_33 rfl (lv_at hl 2 rfl) ?_
    refine lv_iconst (v := 4) hx hb d_Receiver_payloadOf_34 (by decide) ?_
    refine lv_iadd hx hb d_Receiver_payloadOf_35 ?_
    refine z_topi (w := nI (k + 4)) (nI_add _ 4) ?_
    have hPc := hP.sub (ws' := [(tp, .inr (0, [.ref a, .int (nI n)])), (a, .inl (cB, ln, .inl f))]) [1, 2] rfl
    have hKc := hK.sub (tys' := [(cB, .byte)]) [0] rfl
    refine z_ci (va_runV (As := [.int (nI (k + 4))]) (rest := [.int (nI (k + 5))]) ⟨hx, hb, hml, hown, hts⟩ (c_Row_at l D cB tp a n ln f (nI (k + 4)) hln) (z_cV hN wd_212 wd_61 wd_221 hd_Row_at rfl rfl ⟨Nat.le_of_ble_eq_true rfl, Nat.le_of_ble_eq_true rfl⟩ wd_210 wd_211) (z_preV (va_recv (ci := 0) (q0 := 1) hK hP rfl rfl) hPc hKc hN) rfl rfl hl.1 rfl (lv_room (Nat.le_of_ble_eq_true rfl)) d_Receiver_payloadOf_36 ⟨Nat.le_of_ble_eq_true rfl, Nat.le_of_ble_eq_true rfl⟩) (fun r36 e36 => ?_)
    refine z_topi (w := rw_at f n ln (nI (k + 4))) e36 ?_
    refine z_topi (w := nI (rbN f n ln (k + 4))) (rb_eq _ _ _ _) ?_
    refine lv_iadd hx hb d_Receiver_payloadOf_39 ?_
    refine z_topi (w := nI (k + 5 + rbN f n ln (k + 4))) (nI_add _ _) ?_
    refine lv_goto (tgt := 46) hx hb d_Receiver_payloadOf_40 rfl ?_
    exact W.iret (v := (nI (k + 5 + rbN f n ln (k + 4)))) hx hb hr (fun t ht hW => ⟨_, rfl, (by unfold payN; first | rw [if_pos h13] | rw [if_neg h13]), ht⟩) (fun _ h => by cases h) d_Receiver_payloadOf_46
