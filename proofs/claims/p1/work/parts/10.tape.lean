theorem wd_71 : (Jvm.Cond.initialized "java/lang/IllegalArgumentException") ∈ lw_ok := List.mem_filter.mpr ⟨List.mem_of_getElem? (i := 71) (by decide +kernel), rfl⟩
theorem wd_109 : (Jvm.Cond.fieldLinkNest "StreamSplitter" (34 : Nat) "StreamSplitter$Row" "size" "I" "StreamSplitter") ∈ lw_ok := List.mem_filter.mpr ⟨List.mem_of_getElem? (i := 109) (by decide +kernel), rfl⟩
theorem wd_176 : (Jvm.Cond.fieldLinkNest "StreamSplitter" (30 : Nat) "StreamSplitter$Receiver" "tape" "LStreamSplitter$Row;" "StreamSplitter") ∈ lw_ok := List.mem_filter.mpr ⟨List.mem_of_getElem? (i := 176) (by decide +kernel), rfl⟩
theorem wd_198 : (Jvm.Cond.fieldLink "StreamSplitter" (12 : Nat) "StreamSplitter" "receiver" "LStreamSplitter$Receiver;") ∈ lw_ok := List.mem_filter.mpr ⟨List.mem_of_getElem? (i := 198) (by decide +kernel), rfl⟩
theorem wd_536 : (Jvm.Cond.instanceMethod ({ cls := "StreamSplitter$Row", name := "add", desc := "(I)V" } : Jvm.MethodName)) ∈ lw_ok := List.mem_filter.mpr ⟨List.mem_of_getElem? (i := 536) (by decide +kernel), rfl⟩
theorem wd_537 : (Jvm.Cond.selects "StreamSplitter$Row" ({ cls := "StreamSplitter$Row", name := "add", desc := "(I)V" } : Jvm.MethodName) ({ cls := "StreamSplitter$Row", name := "add", desc := "(I)V" } : Jvm.MethodName)) ∈ lw_ok := List.mem_filter.mpr ⟨List.mem_of_getElem? (i := 537) (by decide +kernel), rfl⟩
set_option maxRecDepth 100000 in
theorem wd_538 : (Jvm.Cond.code ({ cls := "StreamSplitter$Row", name := "add", desc := "(I)V" } : Jvm.MethodName) prog_9_method_4_code (2 : Nat) (Option.none : Option Jvm.ClassFile.FieldType)) ∈ lw_ok := List.mem_filter.mpr ⟨List.mem_of_getElem? (i := 538) (by rfl), rfl⟩
theorem wd_700 : (Jvm.Cond.classLink "StreamSplitter" (23 : Nat) "java/lang/IllegalArgumentException") ∈ lw_ok := List.mem_filter.mpr ⟨List.mem_of_getElem? (i := 700) (by decide +kernel), rfl⟩
theorem wd_701 : (Jvm.Cond.instantiable "java/lang/IllegalArgumentException" (6 : Nat)) ∈ lw_ok := List.mem_filter.mpr ⟨List.mem_of_getElem? (i := 701) (by decide +kernel), rfl⟩
theorem wd_766 : (Jvm.Cond.methodLink "StreamSplitter" (40 : Nat) ({ cls := "StreamSplitter$Row", name := "add", desc := "(I)V" } : Jvm.MethodName)) ∈ lw_ok := List.mem_filter.mpr ⟨List.mem_of_getElem? (i := 766) (by decide +kernel), rfl⟩
theorem hd_Row_add : y_Row_add.cls ≠ "java/lang/invoke/MethodHandle" ∧ y_Row_add.cls ≠ "java/lang/invoke/VarHandle" ∧ (parseMethodDescriptor y_Row_add.desc).map (fun d => d.parameters.length) = some 1 := by decide +kernel
theorem d_SS_feed_0 : decode b_SS_feed 0 = .ok (.iload_n 1, 1) := by decide +kernel
theorem d_SS_feed_1 : decode b_SS_feed 1 = .ok (.iconst 1, 1) := by decide +kernel
theorem d_SS_feed_2 : decode b_SS_feed 2 = .ok (.if_icmp .lt 9, 3) := by decide +kernel
theorem d_SS_feed_5 : decode b_SS_feed 5 = .ok (.iload_n 1, 1) := by decide +kernel
theorem d_SS_feed_6 : decode b_SS_feed 6 = .ok (.bipush 8, 2) := by decide +kernel
theorem d_SS_feed_8 : decode b_SS_feed 8 = .ok (.if_icmp .le 13, 3) := by decide +kernel
theorem d_SS_feed_11 : decode b_SS_feed 11 = .ok (.new 23, 3) := by decide +kernel
theorem d_SS_feed_14 : decode b_SS_feed 14 = .ok (.dup, 1) := by decide +kernel
theorem d_SS_feed_15 : decode b_SS_feed 15 = .ok (.ldc 25, 2) := by decide +kernel
theorem d_SS_feed_17 : decode b_SS_feed 17 = .ok (.invokespecial 27, 3) := by decide +kernel
theorem d_SS_feed_20 : decode b_SS_feed 20 = .ok (.athrow, 1) := by decide +kernel
theorem d_SS_feed_21 : decode b_SS_feed 21 = .ok (.aload_n 0, 1) := by decide +kernel
theorem d_SS_feed_22 : decode b_SS_feed 22 = .ok (.getfield 12, 3) := by decide +kernel
theorem d_SS_feed_25 : decode b_SS_feed 25 = .ok (.getfield 30, 3) := by decide +kernel
theorem d_SS_feed_28 : decode b_SS_feed 28 = .ok (.astore 4, 2) := by decide +kernel
theorem d_SS_feed_30 : decode b_SS_feed 30 = .ok (.aload 4, 2) := by decide +kernel
theorem d_SS_feed_32 : decode b_SS_feed 32 = .ok (.getfield 34, 3) := by decide +kernel
theorem d_SS_feed_35 : decode b_SS_feed 35 = .ok (.iload_n 1, 1) := by decide +kernel
theorem d_SS_feed_36 : decode b_SS_feed 36 = .ok (.iadd, 1) := by decide +kernel
theorem d_SS_feed_37 : decode b_SS_feed 37 = .ok (.sipush 9400, 3) := by decide +kernel
theorem d_SS_feed_40 : decode b_SS_feed 40 = .ok (.if_icmp .le 5, 3) := by decide +kernel
theorem d_SS_feed_43 : decode b_SS_feed 43 = .ok (.iconst (-1), 1) := by decide +kernel
theorem d_SS_feed_44 : decode b_SS_feed 44 = .ok (.ireturn, 1) := by decide +kernel
theorem d_SS_feed_45 : decode b_SS_feed 45 = .ok (.iconst 0, 1) := by decide +kernel
theorem d_SS_feed_46 : decode b_SS_feed 46 = .ok (.istore 5, 2) := by decide +kernel
theorem d_SS_feed_48 : decode b_SS_feed 48 = .ok (.iload 5, 2) := by decide +kernel
theorem d_SS_feed_50 : decode b_SS_feed 50 = .ok (.iload_n 1, 1) := by decide +kernel
theorem d_SS_feed_51 : decode b_SS_feed 51 = .ok (.if_icmp .ge 22, 3) := by decide +kernel
theorem d_SS_feed_54 : decode b_SS_feed 54 = .ok (.aload 4, 2) := by decide +kernel
theorem d_SS_feed_56 : decode b_SS_feed 56 = .ok (.lload_n 2, 1) := by decide +kernel
theorem d_SS_feed_57 : decode b_SS_feed 57 = .ok (.bipush 8, 2) := by decide +kernel
theorem d_SS_feed_59 : decode b_SS_feed 59 = .ok (.iload 5, 2) := by decide +kernel
theorem d_SS_feed_61 : decode b_SS_feed 61 = .ok (.imul, 1) := by decide +kernel
theorem d_SS_feed_62 : decode b_SS_feed 62 = .ok (.lushr, 1) := by decide +kernel
theorem d_SS_feed_63 : decode b_SS_feed 63 = .ok (.l2i, 1) := by decide +kernel
theorem d_SS_feed_64 : decode b_SS_feed 64 = .ok (.invokevirtual 40, 3) := by decide +kernel
theorem d_SS_feed_67 : decode b_SS_feed 67 = .ok (.iinc 5 1, 3) := by decide +kernel
theorem d_SS_feed_70 : decode b_SS_feed 70 = .ok (.goto (-22), 3) := by decide +kernel
theorem d_SS_feed_73 : decode b_SS_feed 73 = .ok (.aload 4, 2) := by decide +kernel
theorem d_SS_feed_75 : decode b_SS_feed 75 = .ok (.getfield 34, 3) := by decide +kernel
theorem d_SS_feed_78 : decode b_SS_feed 78 = .ok (.ireturn, 1) := by decide +kernel
theorem d_SS_hasNoRoom_0 : decode b_SS_hasNoRoom 0 = .ok (.aload_n 0, 1) := by decide +kernel
theorem d_SS_hasNoRoom_1 : decode b_SS_hasNoRoom 1 = .ok (.getfield 12, 3) := by decide +kernel
theorem d_SS_hasNoRoom_4 : decode b_SS_hasNoRoom 4 = .ok (.getfield 30, 3) := by decide +kernel
theorem d_SS_hasNoRoom_7 : decode b_SS_hasNoRoom 7 = .ok (.getfield 34, 3) := by decide +kernel
theorem d_SS_hasNoRoom_10 : decode b_SS_hasNoRoom 10 = .ok (.sipush 188, 3) := by decide +kernel
theorem d_SS_hasNoRoom_13 : decode b_SS_hasNoRoom 13 = .ok (.iload_n 1, 1) := by decide +kernel
theorem d_SS_hasNoRoom_14 : decode b_SS_hasNoRoom 14 = .ok (.imul, 1) := by decide +kernel
theorem d_SS_hasNoRoom_15 : decode b_SS_hasNoRoom 15 = .ok (.iadd, 1) := by decide +kernel
theorem d_SS_hasNoRoom_16 : decode b_SS_hasNoRoom 16 = .ok (.sipush 9400, 3) := by decide +kernel
theorem d_SS_hasNoRoom_19 : decode b_SS_hasNoRoom 19 = .ok (.if_icmp .le 7, 3) := by decide +kernel
theorem d_SS_hasNoRoom_22 : decode b_SS_hasNoRoom 22 = .ok (.iconst 1, 1) := by decide +kernel
theorem d_SS_hasNoRoom_23 : decode b_SS_hasNoRoom 23 = .ok (.goto 4, 3) := by decide +kernel
theorem d_SS_hasNoRoom_26 : decode b_SS_hasNoRoom 26 = .ok (.iconst 0, 1) := by decide +kernel
theorem d_SS_hasNoRoom_27 : decode b_SS_hasNoRoom 27 = .ok (.ireturn, 1) := by decide +kernel
theorem d_SS_isNoPid_0 : decode b_SS_isNoPid 0 = .ok (.iload_n 0, 1) := by decide +kernel
theorem d_SS_isNoPid_1 : decode b_SS_isNoPid 1 = .ok (.ifCond .lt 10, 3) := by decide +kernel
theorem d_SS_isNoPid_4 : decode b_SS_isNoPid 4 = .ok (.iload_n 0, 1) := by decide +kernel
theorem d_SS_isNoPid_5 : decode b_SS_isNoPid 5 = .ok (.sipush 8191, 3) := by decide +kernel
theorem d_SS_isNoPid_8 : decode b_SS_isNoPid 8 = .ok (.if_icmp .le 7, 3) := by decide +kernel
theorem d_SS_isNoPid_11 : decode b_SS_isNoPid 11 = .ok (.iconst 1, 1) := by decide +kernel
theorem d_SS_isNoPid_12 : decode b_SS_isNoPid 12 = .ok (.goto 4, 3) := by decide +kernel
theorem d_SS_isNoPid_15 : decode b_SS_isNoPid 15 = .ok (.iconst 0, 1) := by decide +kernel
theorem d_SS_isNoPid_16 : decode b_SS_isNoPid 16 = .ok (.ireturn, 1) := by decide +kernel
/-- what feed puts behind the tape -/
def fd_b (b : Int64) (j : Nat) : Int32 := (b.toUInt64 >>> ((8 * nI j : Int32).toInt64.toUInt64 &&& Int64.toUInt64 63)).toInt64.toInt32
def fd_f (f : Nat → Int32) (n : Nat) (b : Int64) : Nat → Nat → Int32
  | 0 => f
  | j + 1 => upd (fd_f f n b j) (n + j) (by8 (fd_b b j))
theorem z_n1 {c : Int32} (h : ¬ c < 1) : ¬ c < 0 := fun q => h (Int32.lt_trans q (by decide))
def tp_l (f : Nat → Int32) (n : Nat) (i : Int32) : Nat → Int64
  | 0 => 0
  | j + 1 => tp_l f n i j ||| ((rw_at f n 9400 (i + nI j)).toInt64 <<< ((8 * nI j : Int32).toInt64 &&& 63))
def sl_b (x : Int32) (j : Nat) : Int32 := (x.toUInt32 >>> ((24 - 8 * nI j : Int32).toUInt32 &&& Int32.toUInt32 31)).toInt32
def sl_f (f : Nat → Int32) (at0 : Nat) (x : Int32) : Nat → Nat → Int32
  | 0 => f
  | j + 1 => upd (sl_f f at0 x j) (at0 + j) (by8 (sl_b x j))
theorem z_in {i : Int32} {n : Nat} (h : ¬ i < 0) (h2 : i < nI n) (hn : n < 2 ^ 31) : ∃ k : Nat, k < n ∧ i = nI k := by
  obtain ⟨j, hj, rfl⟩ := nI_of h
  exact ⟨j, (nI_ltI hj hn).mp h2, rfl⟩
theorem z_subT {n : Nat} {i : Int32} (hn : n < 2 ^ 30) (h : ¬ i < 0) : (nI n - i).toInt = (n : Int) - i.toInt := by
  obtain ⟨j, hj, rfl⟩ := nI_of h
  have h1 : (nI n).toInt = (n : Int) := nI_toInt (by omega)
  have h2 : (nI j).toInt = (j : Int) := nI_toInt hj
  rw [Int32.toInt_sub, h1, h2]
  exact Int.bmod_eq_of_le (by omega) (by omega)
theorem z_drop {i c : Int32} {n : Nat} (hn : n ≤ 9400) (h1 : ¬ i < 0) (h2 : ¬ c < 0) (h3 : c ≤ nI n - i) : ∃ k q : Nat, k + q ≤ n ∧ i = nI k ∧ c = nI q := by
  have h4 := z_subT (n := n) (by omega) h1
  obtain ⟨j, hj, rfl⟩ := nI_of h1
  obtain ⟨q, hq, rfl⟩ := nI_of h2
  have h5 := Int32.le_iff_toInt_le.mp h3
  rw [h4, nI_toInt hj, nI_toInt hq] at h5
  exact ⟨j, q, by omega, rfl, rfl⟩
theorem z_seal {i c : Int32} {n : Nat} (hn : n ≤ 9400) (h1 : ¬ i < 0) (h2 : ¬ c < i) (h3 : c ≤ nI n - 4) : ∃ k q : Nat, k + q + 4 ≤ n ∧ i = nI k ∧ c = nI (k + q) := by
  have h4 := z_subT (n := n) (i := 4) (by omega) (by decide)
  obtain ⟨j, hj, rfl⟩ := nI_of h1
  have hc0 : ¬ c < 0 := fun z => h2 (Int32.lt_of_lt_of_le z (Int32.not_lt.mp h1))
  obtain ⟨q, hq, rfl⟩ := nI_of hc0
  have h5 := Int32.le_iff_toInt_le.mp h3
  rw [h4, nI_toInt hq] at h5
  have h6 : ¬ q < j := fun z => h2 ((nI_ltI hq hj).mpr z)
  have h7 : (4 : Int32).toInt = 4 := by decide
  rw [h7] at h5
  refine ⟨j, q - j, by omega, rfl, ?_⟩
  congr 1
  omega

set_option maxHeartbeats 4000000 in
set_option maxRecDepth 100000 in
theorem c_SS_isNoPid (l : Launch) (D : va_G) (v : Int32)  : Met l y_SS_isNoPid [Cond.code y_SS_isNoPid b_SS_isNoPid 1 (some .boolean)] ({ frames := 0, cells := 0, slots := 0, locals := 0 }) (zP [.int v] D [] []) (vp_Si (fun r => r = if v < 0 ∨ 8191 < v then 1 else 0)) 0 0 (fun _ => False) := by
  refine Met.ofW (cc := b_SS_isNoPid) (maxL := 1) (ret := (some .boolean)) (by decide) rfl ?_
  intro p e s m args below meth cd s₁ Bd hml hv
  obtain ⟨rfl, hP, hK, hN⟩ := hv
  have hx := Bd.exec
  have hb := Bd.bytes
  have hr := Bd.returns
  have hts := hN.use (a := ([.int v]).toArray)
  have hown : s.vm.findClass R_SS = some m.cls := findClass_of_methodNamed Bd.named
  have hlocks := Bd.notSynchronized
  have hP : va_P D classes [] s.heap := hP
  have hl := lv_entry ([.int v]) (n := 1) (Nat.le_of_ble_eq_true rfl)
  rw [lg_entry_eq]
  generalize (lg_sl ([.int v]) ++ List.replicate (1 - (lg_sl ([.int v])).length) Slot.unset).toArray = ls at hl ⊢
  have hl : lv_has ls 1 [(0, .int v)] := hl
  refine lv_iload_n hx hb d_SS_isNoPid_0 rfl (lv_at hl 0 rfl) ?_
  refine lv_if_lt (tgt := 11) hx hb d_SS_isNoPid_1 rfl (fun h1 => ?_) (fun h1 => ?_)
  · refine lv_iconst (v := 1) hx hb d_SS_isNoPid_11 (by decide) ?_
    refine lv_goto (tgt := 16) hx hb d_SS_isNoPid_12 rfl ?_
    exact W.zret (v := 1) hx hb hr rfl (fun t ht hW => ⟨_, rfl, by first | rw [if_pos (Or.inl h1)] | rw [if_pos (Or.inr (Int32.not_le.mp h8))] | rw [if_neg (fun z => z.elim h1 (fun q => Int32.not_lt.mpr h8 q))], ht⟩) (fun _ h => by cases h) d_SS_isNoPid_16
  · refine lv_iload_n hx hb d_SS_isNoPid_4 rfl (lv_at hl 0 rfl) ?_
    refine lv_sipush (v := 8191) hx hb d_SS_isNoPid_5 (by decide) ?_
    refine lv_icmp_le (tgt := 15) hx hb d_SS_isNoPid_8 rfl (fun h8 => ?_) (fun h8 => ?_)
    · refine lv_iconst (v := 0) hx hb d_SS_isNoPid_15 (by decide) ?_
      exact W.zret (v := 0) hx hb hr rfl (fun t ht hW => ⟨_, rfl, by first | rw [if_pos (Or.inl h1)] | rw [if_pos (Or.inr (Int32.not_le.mp h8))] | rw [if_neg (fun z => z.elim h1 (fun q => Int32.not_lt.mpr h8 q))], ht⟩) (fun _ h => by cases h) d_SS_isNoPid_16
    · refine lv_iconst (v := 1) hx hb d_SS_isNoPid_11 (by decide) ?_
      refine lv_goto (tgt := 16) hx hb d_SS_isNoPid_12 rfl ?_
      exact W.zret (v := 1) hx hb hr rfl (fun t ht hW => ⟨_, rfl, by first | rw [if_pos (Or.inl h1)] | rw [if_pos (Or.inr (Int32.not_le.mp h8))] | rw [if_neg (fun z => z.elim h1 (fun q => Int32.not_lt.mpr h8 q))], ht⟩) (fun _ h => by cases h) d_SS_isNoPid_16
set_option maxHeartbeats 4000000 in
set_option maxRecDepth 100000 in
theorem c_SS_hasNoRoom (l : Launch) (D : va_G) (cB : ClassId) (h d rc ln tb ct dp tp : Nat) (a n : Nat) (f : Nat → Int32) (k : Nat) (hn : n ≤ 9400) (hk : k ≤ 100) : Met l y_SS_hasNoRoom [Cond.code y_SS_hasNoRoom b_SS_hasNoRoom 2 (some .boolean)] ({ frames := 0, cells := 0, slots := 0, locals := 0 }) (zP [.ref h, .int (nI k)] D [(h, .inr (11, [.ref rc, .ref d])), (rc, .inr (4, [.ref tp, .ref ln, .ref tb, .ref ct, .ref dp])), (tp, .inr (0, [.ref a, .int (nI n)])), (a, .inl (cB, 9400, .inl f))] [(cB, .byte)]) (vp_Si (fun r => r = if 9400 < n + 188 * k then 1 else 0)) 0 0 (fun _ => False) := by
  refine Met.ofW (cc := b_SS_hasNoRoom) (maxL := 2) (ret := (some .boolean)) (by decide) rfl ?_
  intro p e s m args below meth cd s₁ Bd hml hv
  obtain ⟨rfl, hP, hK, hN⟩ := hv
  have hx := Bd.exec
  have hb := Bd.bytes
  have hr := Bd.returns
  have hts := hN.use (a := ([.ref h, .int (nI k)]).toArray)
  have hown : s.vm.findClass R_SS = some m.cls := findClass_of_methodNamed Bd.named
  have hlocks := Bd.notSynchronized
  have hP : va_P D classes [(h, .inr (11, [.ref rc, .ref d])), (rc, .inr (4, [.ref tp, .ref ln, .ref tb, .ref ct, .ref dp])), (tp, .inr (0, [.ref a, .int (nI n)])), (a, .inl (cB, 9400, .inl f))] s.heap := hP
  have hl := lv_entry ([.ref h, .int (nI k)]) (n := 2) (Nat.le_of_ble_eq_true rfl)
  rw [lg_entry_eq]
  generalize (lg_sl ([.ref h, .int (nI k)]) ++ List.replicate (2 - (lg_sl ([.ref h, .int (nI k)])).length) Slot.unset).toArray = ls at hl ⊢
  have hl : lv_has ls 2 [(0, .ref h), (1, .int (nI k))] := hl
  refine lv_aload_n hx hb d_SS_hasNoRoom_0 rfl (lv_at hl 0 rfl) ?_
  refine va_get (D := D) (ci := 11) (v := .ref rc) (C := R_SS) (T := F_SS) (N := 2) hx hb hts i_SS hown hK hP 0 rfl rfl 0 (by decide) (hts _ wd_198) (fun _ h9 => h9) rfl d_SS_hasNoRoom_1 ?_
  refine va_getN (D := D) (ci := 4) (v := .ref tp) (C := R_Receiver) (T := F_Receiver) (N := 5) hx hb hts i_Receiver hown hK hP 1 rfl rfl 0 (by decide) (hts _ wd_176) (fun _ h9 => h9) rfl d_SS_hasNoRoom_4 ?_
  refine va_getN (D := D) (ci := 0) (v := .int (nI n)) (C := R_Row) (T := F_Row) (N := 2) hx hb hts i_Row hown hK hP 2 rfl rfl 1 (by decide) (hts _ wd_109) (fun _ h9 => h9) rfl d_SS_hasNoRoom_7 ?_
  refine lv_sipush (v := 188) hx hb d_SS_hasNoRoom_10 (by decide) ?_
  refine lv_iload_n hx hb d_SS_hasNoRoom_13 rfl (lv_at hl 1 rfl) ?_
  refine lv_imul hx hb d_SS_hasNoRoom_14 ?_
  refine z_topi (w := nI (188 * k)) (pk_mul 188 k) ?_
  refine lv_iadd hx hb d_SS_hasNoRoom_15 ?_
  refine z_topi (w := nI (n + 188 * k)) (nI_add _ _) ?_
  refine lv_sipush (v := 9400) hx hb d_SS_hasNoRoom_16 (by decide) ?_
  refine lv_icmp_le (tgt := 26) hx hb d_SS_hasNoRoom_19 rfl (fun h19 => ?_) (fun h19 => ?_)
  · have h19 : n + 188 * k ≤ 9400 := (nI_leI (b := 9400) (by omega) (by omega)).mp h19
    refine lv_iconst (v := 0) hx hb d_SS_hasNoRoom_26 (by decide) ?_
    exact W.zret (v := 0) hx hb hr rfl (fun t ht hW => ⟨_, rfl, (by first | rw [if_pos (by omega)] | rw [if_neg (by omega)]), ht⟩) (fun _ h => by cases h) d_SS_hasNoRoom_27
  · have h19 : ¬ n + 188 * k ≤ 9400 := mt (nI_leI (b := 9400) (by omega) (by omega)).mpr h19
    refine lv_iconst (v := 1) hx hb d_SS_hasNoRoom_22 (by decide) ?_
    refine lv_goto (tgt := 27) hx hb d_SS_hasNoRoom_23 rfl ?_
    exact W.zret (v := 1) hx hb hr rfl (fun t ht hW => ⟨_, rfl, (by first | rw [if_pos (by omega)] | rw [if_neg (by omega)]), ht⟩) (fun _ h => by cases h) d_SS_hasNoRoom_27
set_option maxHeartbeats 4000000 in
set_option maxRecDepth 100000 in
theorem c_SS_feed (l : Launch) (D : va_G) (hfl : l.stackTraces = false) (B0 : State) (hG : zG B0) (sz : Nat) (cB : ClassId) (h d rc ln tb ct dp tp : Nat) (a n : Nat) (f : Nat → Int32) (c : Int32) (b : Int64) (hn : n ≤ 9400) : MetT l y_SS_feed [Cond.code y_SS_feed b_SS_feed 6 (some .int)] ({ frames := 6, cells := 1, slots := 6, locals := 82 }) (zMo [.ref h, .int c, .long b] D [(h, .inr (11, [.ref rc, .ref d])), (rc, .inr (4, [.ref tp, .ref ln, .ref tb, .ref ct, .ref dp])), (tp, .inr (0, [.ref a, .int (nI n)])), (a, .inl (cB, 9400, .inl f))] [(cB, .byte)] sz B0) (zQi (fun r (u : Nat) => ¬ c < 1 ∧ ¬ 8 < c ∧ (if n + c.toNatClampNeg ≤ 9400 then u = c.toNatClampNeg ∧ r = nI (n + u) else u = 0 ∧ r = -1)) (fun (u : Nat) t => zW D (va_A [(h, .inr (11, [.ref rc, .ref d])), (rc, .inr (4, [.ref tp, .ref ln, .ref tb, .ref ct, .ref dp])), (tp, .inr (0, [.ref a, .int (nI n)])), (a, .inl (cB, 9400, .inl f))] sz) [(h, .inr (11, [.ref rc, .ref d])), (rc, .inr (4, [.ref tp, .ref ln, .ref tb, .ref ct, .ref dp])), (tp, .inr (0, [.ref a, .int (nI (n + u))])), (a, .inl (cB, 9400, .inl (fd_f f n b u)))] [(cB, .byte)] t) (va_A [(h, .inr (11, [.ref rc, .ref d])), (rc, .inr (4, [.ref tp, .ref ln, .ref tb, .ref ct, .ref dp])), (tp, .inr (0, [.ref a, .int (nI n)])), (a, .inl (cB, 9400, .inl f))] sz) (fun X => X = xA ∧ (c < 1 ∨ 8 < c))) 1 6 (va_A [(h, .inr (11, [.ref rc, .ref d])), (rc, .inr (4, [.ref tp, .ref ln, .ref tb, .ref ct, .ref dp])), (tp, .inr (0, [.ref a, .int (nI n)])), (a, .inl (cB, 9400, .inl f))] sz) := by
  refine MetT.ofW (cc := b_SS_feed) (maxL := 6) (ret := (some .int)) (by decide) rfl ?_
  intro p e s m args below meth cd s₁ Bd hml hem hv
  obtain ⟨rfl, hsz, hP, hK, hN, hD0, hO⟩ := hv
  have hx := Bd.exec
  have hb := Bd.bytes
  have hr := Bd.returns
  have hts := hN.use (a := ([.ref h, .int c, .long b]).toArray)
  have hown : s.vm.findClass R_SS = some m.cls := findClass_of_methodNamed Bd.named
  have hlocks := Bd.notSynchronized
  subst hsz
  have hD := hD0.self (sz := s.heap.size)
  have hAO := z_AO hD0 hO
  clear hD0
  have hA : ∀ q : Nat, s.heap.size ≤ q → va_A [(h, .inr (11, [.ref rc, .ref d])), (rc, .inr (4, [.ref tp, .ref ln, .ref tb, .ref ct, .ref dp])), (tp, .inr (0, [.ref a, .int (nI n)])), (a, .inl (cB, 9400, .inl f))] s.heap.size q := fun q h => Or.inr h
  have hS : va_S (va_A [(h, .inr (11, [.ref rc, .ref d])), (rc, .inr (4, [.ref tp, .ref ln, .ref tb, .ref ct, .ref dp])), (tp, .inr (0, [.ref a, .int (nI n)])), (a, .inl (cB, 9400, .inl f))] s.heap.size) s.heap s.heap [] := va_S.rf
  generalize hAe : va_A [(h, .inr (11, [.ref rc, .ref d])), (rc, .inr (4, [.ref tp, .ref ln, .ref tb, .ref ct, .ref dp])), (tp, .inr (0, [.ref a, .int (nI n)])), (a, .inl (cB, 9400, .inl f))] s.heap.size = A at hD hA hS hAO ⊢
  have hP : va_P D classes [(h, .inr (11, [.ref rc, .ref d])), (rc, .inr (4, [.ref tp, .ref ln, .ref tb, .ref ct, .ref dp])), (tp, .inr (0, [.ref a, .int (nI n)])), (a, .inl (cB, 9400, .inl f))] s.heap := hP
  have hl := lv_entry ([.ref h, .int c, .long b]) (n := 6) (Nat.le_of_ble_eq_true rfl)
  rw [lg_entry_eq]
  generalize (lg_sl ([.ref h, .int c, .long b]) ++ List.replicate (6 - (lg_sl ([.ref h, .int c, .long b])).length) Slot.unset).toArray = ls at hl ⊢
  have hl : lv_has ls 6 [(0, .ref h), (1, .int c), (2, .long b)] := hl
  refine lv_iload_n hx hb d_SS_feed_0 rfl (lv_at hl 1 rfl) ?_
  refine lv_iconst (v := 1) hx hb d_SS_feed_1 (by decide) ?_
  refine lv_icmp_lt (tgt := 11) hx hb d_SS_feed_2 rfl (fun h2 => ?_) (fun h2 => ?_)
  · refine W.newc hx hb hown (hts _ wd_700) (hts _ wd_701) (hts _ wd_71) rfl d_SS_feed_11 (by show 0 + 1 ≤ 1; omega) (by show 0 + 6 ≤ 6; omega) (fun cX kX hfX hkX _ _ => ?_)
    refine W.eq (g2 := F0 m 14 ls [.ref s.heap.size]) rfl ?_
    refine W.widen (k := 1) (n := 6) (by omega) (by omega) ?_
    refine lv_dup hx hb d_SS_feed_14 rfl ?_
    refine z_ldcs hx hb hown (z_str hG hO (List.mem_of_getElem? (i := 740) (by decide +kernel) : (Jvm.Cond.stringRef "StreamSplitter" (25 : Nat) "n is not 1 .. 8") ∈ lw_tbl)) d_SS_feed_15 (fun msg => ?_)
    exact z_throw (X := xA) (names := ["java/lang/RuntimeException", "java/lang/Exception"]) hx hb hfl hown (by decide) z_fits (fun a ha => z_oa hG hO (z_oaA a ha)) hem (by rw [hml]; exact hl.1) hfX hkX z_pushAt (Nat.le_refl _) d_SS_feed_17 d_SS_feed_20 (Nat.le_of_ble_eq_true rfl) (Nat.le_of_ble_eq_true rfl) hlocks (fun t ht hW => Or.inr ⟨xA, _, (⟨rfl, by first | exact Or.inl h2 | exact Or.inr (Int32.not_le.mp h8)⟩), rfl, ht⟩)
  · refine lv_iload_n hx hb d_SS_feed_5 rfl (lv_at hl 1 rfl) ?_
    refine lv_bipush (v := 8) hx hb d_SS_feed_6 (by decide) ?_
    refine lv_icmp_le (tgt := 21) hx hb d_SS_feed_8 rfl (fun h8 => ?_) (fun h8 => ?_)
    · obtain ⟨k, hk, rfl⟩ := nI_of2 (x := c) (M := 8) (n := 8) (by decide) (z_n1 h2) h8
      have h2 : ¬ k < 1 := mt (nI_ltI (b := 1) (by omega) (by omega)).mpr h2
      have hkc : (nI k).toNatClampNeg = k := nI_clamp (by omega)
      refine lv_aload_n hx hb d_SS_feed_21 rfl (lv_at hl 0 rfl) ?_
      refine va_get (D := D) (ci := 11) (v := .ref rc) (C := R_SS) (T := F_SS) (N := 2) hx hb hts i_SS hown hK hP 0 rfl rfl 0 (by decide) (hts _ wd_198) (fun _ h9 => h9) rfl d_SS_feed_22 ?_
      refine va_getN (D := D) (ci := 4) (v := .ref tp) (C := R_Receiver) (T := F_Receiver) (N := 5) hx hb hts i_Receiver hown hK hP 1 rfl rfl 0 (by decide) (hts _ wd_176) (fun _ h9 => h9) rfl d_SS_feed_25 ?_
      refine lv_astore (lv' := [(4, .ref tp), (0, .ref h), (1, .int (nI k)), (2, .long b)]) hx hb d_SS_feed_28 hl (by decide) rfl (fun ls hl => ?_)
      refine lv_aload hx hb d_SS_feed_30 (lv_at hl 0 rfl) ?_
      refine va_getN (D := D) (ci := 0) (v := .int (nI n)) (C := R_Row) (T := F_Row) (N := 2) hx hb hts i_Row hown hK hP 2 rfl rfl 1 (by decide) (hts _ wd_109) (fun _ h9 => h9) rfl d_SS_feed_32 ?_
      refine lv_iload_n hx hb d_SS_feed_35 rfl (lv_at hl 2 rfl) ?_
      refine lv_iadd hx hb d_SS_feed_36 ?_
      refine z_topi (w := nI (n + k)) (nI_add _ _) ?_
      refine lv_sipush (v := 9400) hx hb d_SS_feed_37 (by decide) ?_
      refine lv_icmp_le (tgt := 45) hx hb d_SS_feed_40 rfl (fun h40 => ?_) (fun h40 => ?_)
      · have h40 : n + k ≤ 9400 := (nI_leI (b := 9400) (by omega) (by omega)).mp h40
        refine lv_iconst (v := 0) hx hb d_SS_feed_45 (by decide) ?_
        refine lv_istore (lv' := [(5, .int 0), (4, .ref tp), (0, .ref h), (1, .int (nI k)), (2, .long b)]) hx hb d_SS_feed_46 hl (by decide) rfl (fun ls hl => ?_)
        have loop48 : ∀ (N : Nat) (j : Nat) (H : Heap) (locs : List Loc) (ls : Array Slot) (hm : k - j < N) (hj : j ≤ k) (hl : lv_has ls 6 [(0, .ref h), (1, .int (nI k)), (2, .long b), (4, .ref tp), (5, .int (nI j))]) (hP : va_P D classes [(h, .inr (11, [.ref rc, .ref d])), (rc, .inr (4, [.ref tp, .ref ln, .ref tb, .ref ct, .ref dp])), (tp, .inr (0, [.ref a, .int (nI (n + j))])), (a, .inl (cB, 9400, .inl (fd_f f n b j)))] H) (hD : va_D A [(h, .inr (11, [.ref rc, .ref d])), (rc, .inr (4, [.ref tp, .ref ln, .ref tb, .ref ct, .ref dp])), (tp, .inr (0, [.ref a, .int (nI (n + j))])), (a, .inl (cB, 9400, .inl (fd_f f n b j)))]) (hS : va_S A s.heap H locs), W p l e ({ frames := 6, cells := 1, slots := 6, locals := 82 }) s m ([.ref h, .int (nI k), .long b]).toArray below meth cd H locs 0 0 (MQT below (zQi (fun r (u : Nat) => ¬ (nI k) < 1 ∧ ¬ 8 < (nI k) ∧ (if n + (nI k).toNatClampNeg ≤ 9400 then u = (nI k).toNatClampNeg ∧ r = nI (n + u) else u = 0 ∧ r = -1)) (fun (u : Nat) t => zW D (A) [(h, .inr (11, [.ref rc, .ref d])), (rc, .inr (4, [.ref tp, .ref ln, .ref tb, .ref ct, .ref dp])), (tp, .inr (0, [.ref a, .int (nI (n + u))])), (a, .inl (cB, 9400, .inl (fd_f f n b u)))] [(cB, .byte)] t) (A) (fun X => X = xA ∧ ((nI k) < 1 ∨ 8 < (nI k)))) ([.ref h, .int (nI k), .long b]).toArray s 1 6 (A)) (F0 m 48 ls []) := by
          intro N48
          induction N48 with
          | zero => intro j H locs ls hm hj hl hP hD hS; exact absurd hm (Nat.not_lt_zero _)
          | succ N48 ih48 =>
            intro j H locs ls hm hj hl hP hD hS
            refine lv_iload hx hb d_SS_feed_48 (lv_at hl 4 rfl) ?_
            refine lv_iload_n hx hb d_SS_feed_50 rfl (lv_at hl 1 rfl) ?_
            refine lv_icmp_ge (tgt := 73) hx hb d_SS_feed_51 rfl (fun h51 => ?_) (fun h51 => ?_)
            · have h51 := (nI_leI (by omega) (by omega)).mp h51
              obtain rfl : j = k := by omega
              refine lv_aload hx hb d_SS_feed_73 (lv_at hl 3 rfl) ?_
              refine va_getN (D := D) (ci := 0) (v := .int (nI (n + j))) (C := R_Row) (T := F_Row) (N := 2) hx hb hts i_Row hown hK hP 2 rfl rfl 1 (by decide) (hts _ wd_109) (fun _ h9 => h9) rfl d_SS_feed_75 ?_
              have hP9 := hP.sub (ws' := [(h, .inr (11, [.ref rc, .ref d])), (rc, .inr (4, [.ref tp, .ref ln, .ref tb, .ref ct, .ref dp])), (tp, .inr (0, [.ref a, .int (nI (n + j))])), (a, .inl (cB, 9400, .inl (fd_f f n b j)))]) [0, 1, 2, 3] rfl
              have hD9 := hD.sub (ws' := [(h, .inr (11, [.ref rc, .ref d])), (rc, .inr (4, [.ref tp, .ref ln, .ref tb, .ref ct, .ref dp])), (tp, .inr (0, [.ref a, .int (nI (n + j))])), (a, .inl (cB, 9400, .inl (fd_f f n b j)))]) [0, 1, 2, 3] (by decide) rfl
              have hK9 := hK.sub (tys' := [(cB, .byte)]) [0] rfl
              refine W.widen (k := 1) (n := 6) (by omega) (by omega) ?_
              exact W.mono MQ.toT (W.iret (v := (nI (n + j))) hx hb hr (fun t ht hW => Or.inl ⟨_, j, rfl, ⟨by assumption, Int32.not_lt.mpr h8, by rw [hkc, if_pos h40]; exact ⟨rfl, rfl⟩⟩, ⟨by rw [ht]; exact hP9, va_K.moved hW.alike hK9, hD9⟩, hS.F ht⟩) hS.2.2 d_SS_feed_78)
            · have h51 := mt (nI_leI (by omega) (by omega)).mpr h51
              refine lv_aload hx hb d_SS_feed_54 (lv_at hl 3 rfl) ?_
              refine lv_lload_n hx hb d_SS_feed_56 rfl (lv_at hl 2 rfl) ?_
              refine lv_bipush (v := 8) hx hb d_SS_feed_57 (by decide) ?_
              refine lv_iload hx hb d_SS_feed_59 (lv_at hl 4 rfl) ?_
              refine lv_imul hx hb d_SS_feed_61 ?_
              refine lv_lushr (v := (b.toUInt64 >>> ((8 * (nI j)).toInt64.toUInt64 &&& Int64.toUInt64 63)).toInt64) hx hb d_SS_feed_62 rfl ?_
              refine lv_l2i (v := ((b.toUInt64 >>> ((8 * (nI j)).toInt64.toUInt64 &&& Int64.toUInt64 63)).toInt64).toInt32) hx hb d_SS_feed_63 rfl ?_
              refine z_topi (w := fd_b b j) rfl ?_
              have hPc := hP.sub (ws' := [(tp, .inr (0, [.ref a, .int (nI (n + j))])), (a, .inl (cB, 9400, .inl (fd_f f n b j)))]) [2, 3] rfl
              have hKc := hK.sub (tys' := [(cB, .byte)]) [0] rfl
              have hDc := hD.sub (ws' := [(tp, .inr (0, [.ref a, .int (nI (n + j))])), (a, .inl (cB, 9400, .inl (fd_f f n b j)))]) [2, 3] (by decide) rfl
              have hFc := va_free (wc := [(tp, .inr (0, [.ref a, .int (nI (n + j))])), (a, .inl (cB, 9400, .inl (fd_f f n b j)))]) hD hS hA [2, 3] rfl
              refine va_callv (va_runV (As := [.int (fd_b b j)]) (rest := []) ⟨hx, hb, hml, hown, hts⟩ (c_Row_add l D H.size cB tp a (n + j) 9400 (fd_f f n b j) (fd_b b j) (by omega) (by omega)) (z_cV hN wd_538 wd_61 wd_766 hd_Row_add rfl rfl ⟨Nat.le_of_ble_eq_true rfl, Nat.le_of_ble_eq_true rfl⟩ wd_536 wd_537) (z_preVm (va_recv (ci := 0) (q0 := 2) hK hP rfl rfl) hPc hKc hN hDc) rfl rfl hl.1 rfl (lv_room (Nat.le_of_ble_eq_true rfl)) d_SS_feed_64 ⟨Nat.le_of_ble_eq_true rfl, Nat.le_of_ble_eq_true rfl⟩) hS (fun q _ h => hFc q h) hFc (fun u64 t H locs ht hvm e64 hB hz1 hk1 hS => ?_)
              obtain ⟨hP1, hK1, hD1⟩ := hB
              rw [ht] at hP1
              obtain ⟨hP, hD⟩ := va_join (wr := [(h, .inr (11, [.ref rc, .ref d])), (rc, .inr (4, [.ref tp, .ref ln, .ref tb, .ref ct, .ref dp]))]) (w1 := [(tp, .inr (0, [.ref a, .int (nI ((n + j) + 1))])), (a, .inl (cB, 9400, .inl (upd (fd_f f n b j) (n + j) (by8 (fd_b b j)))))]) hP hD [2, 3] [0, 1] rfl rfl (by decide) (by decide) hk1 hFc hP1 hD1
              clear hk1 hP1 hD1 hFc hPc hDc hz1
              have hP : va_P D classes [(h, .inr (11, [.ref rc, .ref d])), (rc, .inr (4, [.ref tp, .ref ln, .ref tb, .ref ct, .ref dp])), (tp, .inr (0, [.ref a, .int (nI ((n + j) + 1))])), (a, .inl (cB, 9400, .inl (upd (fd_f f n b j) (n + j) (by8 (fd_b b j)))))] H := hP
              have hD : va_D A [(h, .inr (11, [.ref rc, .ref d])), (rc, .inr (4, [.ref tp, .ref ln, .ref tb, .ref ct, .ref dp])), (tp, .inr (0, [.ref a, .int (nI ((n + j) + 1))])), (a, .inl (cB, 9400, .inl (upd (fd_f f n b j) (n + j) (by8 (fd_b b j)))))] := hD
              refine lv_iinc (k := 4) (v := nI (j + 1)) (lv' := [(5, .int (nI (j + 1))), (0, .ref h), (1, .int (nI k)), (2, .long b), (4, .ref tp)]) hx hb d_SS_feed_67 hl rfl (nI_1 j) (by decide) rfl (fun ls hl => ?_)
              refine lv_goto (tgt := 48) hx hb d_SS_feed_70 rfl ?_
              exact ih48 (j + 1) H locs ls (by omega) (by omega) (lv_sub hl [1, 2, 3, 4, 0] rfl) hP hD hS
        exact loop48 _ 0 s.heap [] ls (Nat.lt_succ_self _) (Nat.zero_le _) (lv_sub hl [2, 3, 4, 1, 0] rfl) hP hD hS
      · have h40 : ¬ n + k ≤ 9400 := mt (nI_leI (b := 9400) (by omega) (by omega)).mpr h40
        refine lv_iconst (v := (-1)) hx hb d_SS_feed_43 (by decide) ?_
        have hP9 := hP.sub (ws' := [(h, .inr (11, [.ref rc, .ref d])), (rc, .inr (4, [.ref tp, .ref ln, .ref tb, .ref ct, .ref dp])), (tp, .inr (0, [.ref a, .int (nI n)])), (a, .inl (cB, 9400, .inl f))]) [0, 1, 2, 3] rfl
        have hD9 := hD.sub (ws' := [(h, .inr (11, [.ref rc, .ref d])), (rc, .inr (4, [.ref tp, .ref ln, .ref tb, .ref ct, .ref dp])), (tp, .inr (0, [.ref a, .int (nI n)])), (a, .inl (cB, 9400, .inl f))]) [0, 1, 2, 3] (by decide) rfl
        have hK9 := hK.sub (tys' := [(cB, .byte)]) [0] rfl
        refine W.widen (k := 1) (n := 6) (by omega) (by omega) ?_
        exact W.mono MQ.toT (W.iret (v := (-1)) hx hb hr (fun t ht hW => Or.inl ⟨_, 0, rfl, ⟨by assumption, Int32.not_lt.mpr h8, by rw [hkc, if_neg h40]; exact ⟨rfl, rfl⟩⟩, ⟨by rw [ht]; exact hP9, va_K.moved hW.alike hK9, hD9⟩, hS.F ht⟩) hS.2.2 d_SS_feed_44)
    · refine W.newc hx hb hown (hts _ wd_700) (hts _ wd_701) (hts _ wd_71) rfl d_SS_feed_11 (by show 0 + 1 ≤ 1; omega) (by show 0 + 6 ≤ 6; omega) (fun cX kX hfX hkX _ _ => ?_)
      refine W.eq (g2 := F0 m 14 ls [.ref s.heap.size]) rfl ?_
      refine W.widen (k := 1) (n := 6) (by omega) (by omega) ?_
      refine lv_dup hx hb d_SS_feed_14 rfl ?_
      refine z_ldcs hx hb hown (z_str hG hO (List.mem_of_getElem? (i := 740) (by decide +kernel) : (Jvm.Cond.stringRef "StreamSplitter" (25 : Nat) "n is not 1 .. 8") ∈ lw_tbl)) d_SS_feed_15 (fun msg => ?_)
      exact z_throw (X := xA) (names := ["java/lang/RuntimeException", "java/lang/Exception"]) hx hb hfl hown (by decide) z_fits (fun a ha => z_oa hG hO (z_oaA a ha)) hem (by rw [hml]; exact hl.1) hfX hkX z_pushAt (Nat.le_refl _) d_SS_feed_17 d_SS_feed_20 (Nat.le_of_ble_eq_true rfl) (Nat.le_of_ble_eq_true rfl) hlocks (fun t ht hW => Or.inr ⟨xA, _, (⟨rfl, by first | exact Or.inl h2 | exact Or.inr (Int32.not_le.mp h8)⟩), rfl, ht⟩)
