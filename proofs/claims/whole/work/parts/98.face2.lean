theorem wd_577 : (Jvm.Cond.fieldLinkNest "StreamSplitter" (116 : Nat) "StreamSplitter$Programme" "number" "I" "StreamSplitter") ∈ lw_ok := List.mem_filter.mpr ⟨List.mem_of_getElem? (i := 577) (by decide +kernel), rfl⟩
theorem wd_580 : (Jvm.Cond.fieldLinkNest "StreamSplitter" (121 : Nat) "StreamSplitter$Programme" "pid" "I" "StreamSplitter") ∈ lw_ok := List.mem_filter.mpr ⟨List.mem_of_getElem? (i := 580) (by decide +kernel), rfl⟩
theorem wd_583 : (Jvm.Cond.fieldLinkNest "StreamSplitter" (122 : Nat) "StreamSplitter$Programme" "version" "I" "StreamSplitter") ∈ lw_ok := List.mem_filter.mpr ⟨List.mem_of_getElem? (i := 583) (by decide +kernel), rfl⟩
theorem wd_586 : (Jvm.Cond.fieldLinkNest "StreamSplitter" (125 : Nat) "StreamSplitter$Programme" "clockPid" "I" "StreamSplitter") ∈ lw_ok := List.mem_filter.mpr ⟨List.mem_of_getElem? (i := 586) (by decide +kernel), rfl⟩
theorem wd_589 : (Jvm.Cond.fieldLinkNest "StreamSplitter" (128 : Nat) "StreamSplitter$Programme" "streams" "Ljava/util/ArrayList;" "StreamSplitter") ∈ lw_ok := List.mem_filter.mpr ⟨List.mem_of_getElem? (i := 589) (by decide +kernel), rfl⟩
theorem wd_591 : (Jvm.Cond.fieldLinkNest "StreamSplitter" (131 : Nat) "StreamSplitter$Programme" "away" "Z" "StreamSplitter") ∈ lw_ok := List.mem_filter.mpr ⟨List.mem_of_getElem? (i := 591) (by decide +kernel), rfl⟩
theorem wd_593 : (Jvm.Cond.fieldLinkNest "StreamSplitter" (149 : Nat) "StreamSplitter$Programme" "now" "J" "StreamSplitter") ∈ lw_ok := List.mem_filter.mpr ⟨List.mem_of_getElem? (i := 593) (by decide +kernel), rfl⟩
theorem wd_596 : (Jvm.Cond.fieldLinkNest "StreamSplitter" (135 : Nat) "StreamSplitter$Programme" "waiting" "Ljava/util/ArrayList;" "StreamSplitter") ∈ lw_ok := List.mem_filter.mpr ⟨List.mem_of_getElem? (i := 596) (by decide +kernel), rfl⟩
theorem wd_637 : (Jvm.Cond.fieldLinkNest "StreamSplitter" (144 : Nat) "StreamSplitter$Stream" "type" "I" "StreamSplitter") ∈ lw_ok := List.mem_filter.mpr ⟨List.mem_of_getElem? (i := 637) (by decide +kernel), rfl⟩
theorem wd_641 : (Jvm.Cond.fieldLinkNest "StreamSplitter" (148 : Nat) "StreamSplitter$Stream" "pid" "I" "StreamSplitter") ∈ lw_ok := List.mem_filter.mpr ⟨List.mem_of_getElem? (i := 641) (by decide +kernel), rfl⟩
theorem wd_841 : (Jvm.Cond.methodLink "StreamSplitter" (138 : Nat) ({ cls := "java/util/ArrayList", name := "get", desc := "(I)Ljava/lang/Object;" } : Jvm.MethodName)) ∈ lw_ok := List.mem_filter.mpr ⟨List.mem_of_getElem? (i := 841) (by decide +kernel), rfl⟩
theorem wd_842 : (Jvm.Cond.classLink "StreamSplitter" (142 : Nat) "StreamSplitter$Stream") ∈ lw_ok := List.mem_filter.mpr ⟨List.mem_of_getElem? (i := 842) (by decide +kernel), rfl⟩
theorem wd_843 : (Jvm.Cond.constant "StreamSplitter" (147 : Nat) (65536 : Int32)) ∈ lw_ok := List.mem_filter.mpr ⟨List.mem_of_getElem? (i := 843) (by decide +kernel), rfl⟩
theorem d_SS_now_26 : decode b_SS_now 26 = .ok (.aload_n 2, 1) := by decide +kernel
theorem d_SS_now_27 : decode b_SS_now 27 = .ok (.getfield 149, 3) := by decide +kernel
theorem d_SS_now_30 : decode b_SS_now 30 = .ok (.lreturn, 1) := by decide +kernel
theorem d_SS_programme_46 : decode b_SS_programme 46 = .ok (.iload_n 2, 1) := by decide +kernel
theorem d_SS_programme_47 : decode b_SS_programme 47 = .ok (.tableswitch 78 0 5 #[37, 42, 47, 52, 57, 65], 37) := by decide +kernel
theorem d_SS_programme_84 : decode b_SS_programme 84 = .ok (.aload_n 3, 1) := by decide +kernel
theorem d_SS_programme_85 : decode b_SS_programme 85 = .ok (.getfield 116, 3) := by decide +kernel
theorem d_SS_programme_88 : decode b_SS_programme 88 = .ok (.ireturn, 1) := by decide +kernel
theorem d_SS_programme_89 : decode b_SS_programme 89 = .ok (.aload_n 3, 1) := by decide +kernel
theorem d_SS_programme_90 : decode b_SS_programme 90 = .ok (.getfield 121, 3) := by decide +kernel
theorem d_SS_programme_93 : decode b_SS_programme 93 = .ok (.ireturn, 1) := by decide +kernel
theorem d_SS_programme_94 : decode b_SS_programme 94 = .ok (.aload_n 3, 1) := by decide +kernel
theorem d_SS_programme_95 : decode b_SS_programme 95 = .ok (.getfield 122, 3) := by decide +kernel
theorem d_SS_programme_98 : decode b_SS_programme 98 = .ok (.ireturn, 1) := by decide +kernel
theorem d_SS_programme_99 : decode b_SS_programme 99 = .ok (.aload_n 3, 1) := by decide +kernel
theorem d_SS_programme_100 : decode b_SS_programme 100 = .ok (.getfield 125, 3) := by decide +kernel
theorem d_SS_programme_103 : decode b_SS_programme 103 = .ok (.ireturn, 1) := by decide +kernel
theorem d_SS_programme_104 : decode b_SS_programme 104 = .ok (.aload_n 3, 1) := by decide +kernel
theorem d_SS_programme_105 : decode b_SS_programme 105 = .ok (.getfield 128, 3) := by decide +kernel
theorem d_SS_programme_108 : decode b_SS_programme 108 = .ok (.invokevirtual 105, 3) := by decide +kernel
theorem d_SS_programme_111 : decode b_SS_programme 111 = .ok (.ireturn, 1) := by decide +kernel
theorem d_SS_programme_112 : decode b_SS_programme 112 = .ok (.aload_n 3, 1) := by decide +kernel
theorem d_SS_programme_113 : decode b_SS_programme 113 = .ok (.getfield 131, 3) := by decide +kernel
theorem d_SS_programme_116 : decode b_SS_programme 116 = .ok (.ifCond .eq 7, 3) := by decide +kernel
theorem d_SS_programme_119 : decode b_SS_programme 119 = .ok (.iconst 1, 1) := by decide +kernel
theorem d_SS_programme_120 : decode b_SS_programme 120 = .ok (.goto 4, 3) := by decide +kernel
theorem d_SS_programme_123 : decode b_SS_programme 123 = .ok (.iconst 0, 1) := by decide +kernel
theorem d_SS_programme_124 : decode b_SS_programme 124 = .ok (.ireturn, 1) := by decide +kernel
theorem d_SS_programme_125 : decode b_SS_programme 125 = .ok (.aload_n 3, 1) := by decide +kernel
theorem d_SS_programme_126 : decode b_SS_programme 126 = .ok (.getfield 135, 3) := by decide +kernel
theorem d_SS_programme_129 : decode b_SS_programme 129 = .ok (.invokevirtual 105, 3) := by decide +kernel
theorem d_SS_programme_132 : decode b_SS_programme 132 = .ok (.ireturn, 1) := by decide +kernel
theorem d_SS_stream_26 : decode b_SS_stream 26 = .ok (.iload_n 2, 1) := by decide +kernel
theorem d_SS_stream_27 : decode b_SS_stream 27 = .ok (.ifCond .lt 14, 3) := by decide +kernel
theorem d_SS_stream_30 : decode b_SS_stream 30 = .ok (.iload_n 2, 1) := by decide +kernel
theorem d_SS_stream_31 : decode b_SS_stream 31 = .ok (.aload_n 3, 1) := by decide +kernel
theorem d_SS_stream_32 : decode b_SS_stream 32 = .ok (.getfield 128, 3) := by decide +kernel
theorem d_SS_stream_35 : decode b_SS_stream 35 = .ok (.invokevirtual 105, 3) := by decide +kernel
theorem d_SS_stream_38 : decode b_SS_stream 38 = .ok (.if_icmp .lt 5, 3) := by decide +kernel
theorem d_SS_stream_41 : decode b_SS_stream 41 = .ok (.iconst (-1), 1) := by decide +kernel
theorem d_SS_stream_42 : decode b_SS_stream 42 = .ok (.ireturn, 1) := by decide +kernel
theorem d_SS_stream_43 : decode b_SS_stream 43 = .ok (.aload_n 3, 1) := by decide +kernel
theorem d_SS_stream_44 : decode b_SS_stream 44 = .ok (.getfield 128, 3) := by decide +kernel
theorem d_SS_stream_47 : decode b_SS_stream 47 = .ok (.iload_n 2, 1) := by decide +kernel
theorem d_SS_stream_48 : decode b_SS_stream 48 = .ok (.invokevirtual 138, 3) := by decide +kernel
theorem d_SS_stream_51 : decode b_SS_stream 51 = .ok (.checkcast 142, 3) := by decide +kernel
theorem d_SS_stream_54 : decode b_SS_stream 54 = .ok (.astore 4, 2) := by decide +kernel
theorem d_SS_stream_56 : decode b_SS_stream 56 = .ok (.aload 4, 2) := by decide +kernel
theorem d_SS_stream_58 : decode b_SS_stream 58 = .ok (.getfield 144, 3) := by decide +kernel
theorem d_SS_stream_61 : decode b_SS_stream 61 = .ok (.ldc 147, 2) := by decide +kernel
theorem d_SS_stream_63 : decode b_SS_stream 63 = .ok (.imul, 1) := by decide +kernel
theorem d_SS_stream_64 : decode b_SS_stream 64 = .ok (.aload 4, 2) := by decide +kernel
theorem d_SS_stream_66 : decode b_SS_stream 66 = .ok (.getfield 148, 3) := by decide +kernel
theorem d_SS_stream_69 : decode b_SS_stream 69 = .ok (.iadd, 1) := by decide +kernel
theorem d_SS_stream_70 : decode b_SS_stream 70 = .ok (.ireturn, 1) := by decide +kernel
/-! What is told of a programme -/
theorem tp_memP {cO : ClassId} {e0 tb pr n : Nat} {lv pmo : Int32} {pst : Option (Nat × (Nat → Option Nat))} {P : List PR9} {X Q : va_W} {x : PR9} (h : x ∈ P) {u : Nat × va_E} (hu : u ∈ pgc cO e0 x) : u ∈ X ++ (tplr cO e0 tb lv pr n pmo pst P ++ Q) := List.mem_append_right _ (List.mem_append_left _ (List.mem_cons_of_mem _ (List.mem_append_right _ (List.mem_flatMap.mpr ⟨x, h, hu⟩))))
theorem wl_mem (cO : ClassId) (e0 wa n : Nat) (mo : Int32) (wst : Option (Nat × (Nat → Option Nat))) : ∃ b, (wa, alE b n mo) ∈ wlc cO e0 wa n mo wst := by
  cases wst with
  | none => exact ⟨e0, List.mem_cons_self⟩
  | some q => exact ⟨q.1, List.mem_cons_self⟩
def pvV (x : PR9) (w : Nat) : Int32 := if w = 0 then x.1.2.1 else if w = 1 then nI x.1.2.2.1 else if w = 2 then x.1.2.2.2.1 else if w = 3 then x.1.2.2.2.2.1 else if w = 4 then nI x.2.1.length else if w = 5 then (if x.1.2.2.2.2.2.2.1 = 0 then 0 else 1) else nI x.2.2.1.length

set_option maxHeartbeats 4000000 in
set_option maxRecDepth 100000 in
theorem c_SS_programme_ok (l : Launch) (D : va_G) (hfl : l.stackTraces = false) (B0 : State) (hG : zG B0) (sz : Nat) (h rc d tp ln ct dp : Nat) (cO : ClassId) (e0 tb pr : Nat) (lv pmo : Int32) (pst : Option (Nat × (Nat → Option Nat))) (P : List PR9) (Q : va_W) (k w : Nat) (htk : tok Q cO pst P) (hk : k < P.length) (hw : w ≤ 6) : MetT l y_SS_programme [Cond.code y_SS_programme b_SS_programme 4 (some .int)] ({ frames := 4, cells := 1, slots := 6, locals := 85 }) (zMo [.ref h, .int (nI k), .int (nI w)] D ([(h, .inr (11, [.ref rc, .ref d])), (rc, .inr (4, [.ref tp, .ref ln, .ref tb, .ref ct, .ref dp]))] ++ (tplr cO e0 tb lv pr P.length pmo pst P ++ Q)) [(cO, .object "java/lang/Object")] sz B0) (zQi (fun r0 (_ : Unit) => r0 = pvV (P.getD k pr9) w) (fun (_u : Unit) t => zW D (va_A ([(h, .inr (11, [.ref rc, .ref d])), (rc, .inr (4, [.ref tp, .ref ln, .ref tb, .ref ct, .ref dp]))] ++ (tplr cO e0 tb lv pr P.length pmo pst P ++ Q)) sz) ([(h, .inr (11, [.ref rc, .ref d])), (rc, .inr (4, [.ref tp, .ref ln, .ref tb, .ref ct, .ref dp]))] ++ (tplr cO e0 tb lv pr P.length pmo pst P ++ Q)) [(cO, .object "java/lang/Object")] t) (va_A ([(h, .inr (11, [.ref rc, .ref d])), (rc, .inr (4, [.ref tp, .ref ln, .ref tb, .ref ct, .ref dp]))] ++ (tplr cO e0 tb lv pr P.length pmo pst P ++ Q)) sz) (fun _ => False)) 1 6 (va_A ([(h, .inr (11, [.ref rc, .ref d])), (rc, .inr (4, [.ref tp, .ref ln, .ref tb, .ref ct, .ref dp]))] ++ (tplr cO e0 tb lv pr P.length pmo pst P ++ Q)) sz) := by
  refine MetT.ofW (cc := b_SS_programme) (maxL := 4) (ret := (some .int)) (by decide) rfl ?_
  intro p e s m args below meth cd s₁ Bd hml hem hv
  obtain ⟨rfl, hsz, hP, hK, hN, hD0, hO⟩ := hv
  have hx := Bd.exec
  have hb := Bd.bytes
  have hr := Bd.returns
  have hts := hN.use (a := ([.ref h, .int (nI k), .int (nI w)]).toArray)
  have hown : s.vm.findClass R_SS = some m.cls := findClass_of_methodNamed Bd.named
  have hlocks := Bd.notSynchronized
  subst hsz
  have hD := hD0.self (sz := s.heap.size)
  have hAO := z_AO hD0 hO
  clear hD0
  have hA : ∀ q : Nat, s.heap.size ≤ q → va_A ([(h, .inr (11, [.ref rc, .ref d])), (rc, .inr (4, [.ref tp, .ref ln, .ref tb, .ref ct, .ref dp]))] ++ (tplr cO e0 tb lv pr P.length pmo pst P ++ Q)) s.heap.size q := fun q h => Or.inr h
  have hS : va_S (va_A ([(h, .inr (11, [.ref rc, .ref d])), (rc, .inr (4, [.ref tp, .ref ln, .ref tb, .ref ct, .ref dp]))] ++ (tplr cO e0 tb lv pr P.length pmo pst P ++ Q)) s.heap.size) s.heap s.heap [] := va_S.rf
  generalize hAe : va_A ([(h, .inr (11, [.ref rc, .ref d])), (rc, .inr (4, [.ref tp, .ref ln, .ref tb, .ref ct, .ref dp]))] ++ (tplr cO e0 tb lv pr P.length pmo pst P ++ Q)) s.heap.size = A at hD hA hS hAO ⊢
  have hP : va_P D classes ([(h, .inr (11, [.ref rc, .ref d])), (rc, .inr (4, [.ref tp, .ref ln, .ref tb, .ref ct, .ref dp]))] ++ (tplr cO e0 tb lv pr P.length pmo pst P ++ Q)) s.heap := hP
  have hl := lv_entry ([.ref h, .int (nI k), .int (nI w)]) (n := 4) (Nat.le_of_ble_eq_true rfl)
  rw [lg_entry_eq]
  generalize (lg_sl ([.ref h, .int (nI k), .int (nI w)]) ++ List.replicate (4 - (lg_sl ([.ref h, .int (nI k), .int (nI w)])).length) Slot.unset).toArray = ls at hl ⊢
  have hl : lv_has ls 4 [(0, .ref h), (1, .int (nI k)), (2, .int (nI w))] := hl
  refine lv_iload_n hx hb d_SS_programme_0 rfl (lv_at hl 2 rfl) ?_
  refine lv_if_lt (tgt := 10) hx hb d_SS_programme_1 rfl (fun h9 => absurd h9 (nI_pos (by omega))) (fun h1 => ?_)
  refine lv_iload_n hx hb d_SS_programme_4 rfl (lv_at hl 2 rfl) ?_
  refine lv_bipush (v := 6) hx hb d_SS_programme_5 (by decide) ?_
  refine lv_icmp_le (tgt := 20) hx hb d_SS_programme_7 rfl (fun h7 => ?_) (fun h9 => absurd (nI_le (a := w) (b := 6) hw (by decide)) h9)
  refine lv_aload_n hx hb d_SS_programme_20 rfl (lv_at hl 0 rfl) ?_
  refine va_get (D := D) (ci := 11) (v := .ref rc) (C := R_SS) (T := F_SS) (N := 2) hx hb hts i_SS hown hK hP 0 rfl rfl 0 (by decide) (hts _ wd_198) (fun _ h9 => h9) rfl d_SS_programme_21 ?_
  refine va_getN (D := D) (ci := 4) (v := .ref tb) (C := R_Receiver) (T := F_Receiver) (N := 5) hx hb hts i_Receiver hown hK hP 1 rfl rfl 2 (by decide) (hts _ wd_180) (fun _ h9 => h9) rfl d_SS_programme_24 ?_
  refine lv_iload_n hx hb d_SS_programme_27 rfl (lv_at hl 1 rfl) ?_
  have hT9 := tok_isT (X := [(h, .inr (11, [.ref rc, .ref d])), (rc, .inr (4, [.ref tp, .ref ln, .ref tb, .ref ct, .ref dp]))]) (e0 := e0) (tb := tb) (pr := pr) (lv := lv) (pmo := pmo) htk
  obtain ⟨q0, hq0⟩ : ∃ q0 : Nat, ([(h, .inr (11, [.ref rc, .ref d])), (rc, .inr (4, [.ref tp, .ref ln, .ref tb, .ref ct, .ref dp]))] ++ (tplr cO e0 tb lv pr P.length pmo pst P ++ Q))[q0]? = some (tb, .inr (8, [.int lv, .ref pr])) := ⟨2, rfl⟩
  obtain ⟨x, hxe⟩ : ∃ x : PR9, x = P.getD k pr9 := ⟨_, rfl⟩
  have hxm := p_mem hk
  have hpk := htk.2.2 _ hxm
  rw [← hxe] at hpk hxm
  have hpm : (x.1.1, pgE x.1) ∈ ([(h, .inr (11, [.ref rc, .ref d])), (rc, .inr (4, [.ref tp, .ref ln, .ref tb, .ref ct, .ref dp]))] ++ (tplr cO e0 tb lv pr P.length pmo pst P ++ Q)) := tp_memP hxm List.mem_cons_self
  obtain ⟨q1, hq1⟩ := List.getElem?_of_mem hpm
  obtain ⟨wb, hwb⟩ := wl_mem cO e0 x.1.2.2.2.2.2.2.2.2 x.2.2.1.length x.2.2.2.1 x.2.2.2.2
  have hwm : (x.1.2.2.2.2.2.2.2.2, alE wb x.2.2.1.length x.2.2.2.1) ∈ ([(h, .inr (11, [.ref rc, .ref d])), (rc, .inr (4, [.ref tp, .ref ln, .ref tb, .ref ct, .ref dp]))] ++ (tplr cO e0 tb lv pr P.length pmo pst P ++ Q)) := tp_memP hxm (List.mem_cons_of_mem _ hwb)
  obtain ⟨q2, hq2⟩ := List.getElem?_of_mem hwm
  obtain ⟨sb, smo, sg, ⟨hsm, hs6, hsa⟩, hsE⟩ := isS_mono hpk.2.1 (Q2 := ([(h, .inr (11, [.ref rc, .ref d])), (rc, .inr (4, [.ref tp, .ref ln, .ref tb, .ref ct, .ref dp]))] ++ (tplr cO e0 tb lv pr P.length pmo pst P ++ Q))) (fun y hy => List.mem_append_right _ (List.mem_append_right _ hy))
  obtain ⟨q3, hq3⟩ := List.getElem?_of_mem hsm
  have hxa : some ((pvw P).getD k (pz0, [])).1.1 = some x.1.1 := by rw [pvw_get hk, ← hxe]
  have hPc : va_P D classes ([] ++ ([(h, .inr (11, [.ref rc, .ref d])), (rc, .inr (4, [.ref tp, .ref ln, .ref tb, .ref ct, .ref dp]))] ++ (tplr cO e0 tb lv pr P.length pmo pst P ++ Q))) s.heap := hP
  have hKc := hK.sub (tys' := [(cO, .object "java/lang/Object")]) [0] rfl
  refine z_cq (va_runV (As := [.int (nI k)]) (rest := []) ⟨hx, hb, hml, hown, hts⟩ (c_Tables_programmeAt l D cO ([(h, .inr (11, [.ref rc, .ref d])), (rc, .inr (4, [.ref tp, .ref ln, .ref tb, .ref ct, .ref dp]))] ++ (tplr cO e0 tb lv pr P.length pmo pst P ++ Q)) tb pr lv (pvw P) k hT9 (by rw [pvw_len]; exact hk)) (z_cV hN wd_832 wd_63 wd_829 hd_Tables_programmeAt rfl rfl ⟨Nat.le_of_ble_eq_true rfl, Nat.le_of_ble_eq_true rfl⟩ wd_830 wd_831) (z_preV (va_recv (ci := 8) (q0 := q0) hK hP rfl hq0) hPc hKc hN) rfl rfl hl.1 rfl (lv_room (Nat.le_of_ble_eq_true rfl)) d_SS_programme_28 ⟨Nat.le_of_ble_eq_true rfl, Nat.le_of_ble_eq_true rfl⟩) (fun r28 e28 => ?_)
  subst e28
  refine z_topq (w := some x.1.1) hxa ?_
  refine lv_astore_n (lv' := [(3, .ref x.1.1), (0, .ref h), (1, .int (nI k)), (2, .int (nI w))]) hx hb d_SS_programme_31 rfl hl (by decide) rfl (fun ls hl => ?_)
  refine lv_aload_n hx hb d_SS_programme_32 rfl (lv_at hl 0 rfl) ?_
  refine lv_ifnonnull (tgt := 46) hx hb d_SS_programme_33 rfl ?_
  refine lv_iload_n hx hb d_SS_programme_46 rfl (lv_at hl 3 rfl) ?_
  by_cases hs0 : w = 0
  · subst hs0
    refine lv_tableIn (tgt := 84) hx hb d_SS_programme_47 (by decide) (by decide) rfl rfl ?_
    refine lv_aload_n hx hb d_SS_programme_84 rfl (lv_at hl 0 rfl) ?_
    refine va_getN (D := D) (ci := 7) (v := .int x.1.2.1) (C := R_Programme) (T := F_Programme) (N := 8) hx hb hts i_Programme hown hK hP q1 hq1 rfl 0 (by decide) (hts _ wd_577) (fun _ h9 => h9) rfl d_SS_programme_85 ?_
    have hP9 := hP.part (cx := [(h, .inr (11, [.ref rc, .ref d])), (rc, .inr (4, [.ref tp, .ref ln, .ref tb, .ref ct, .ref dp]))]) [0, 1] rfl
    have hD9 := hD.part (cx := [(h, .inr (11, [.ref rc, .ref d])), (rc, .inr (4, [.ref tp, .ref ln, .ref tb, .ref ct, .ref dp]))]) [0, 1] (by decide) rfl
    have hK9 := hK.sub (tys' := [(cO, .object "java/lang/Object")]) [0] rfl
    refine W.widen (k := 1) (n := 6) (by omega) (by omega) ?_
    exact W.mono MQ.toT (W.iret (v := x.1.2.1) hx hb hr (fun t ht hW => Or.inl ⟨_, (), rfl, (by dsimp only; rw [← hxe]; rfl), ⟨by rw [ht]; exact hP9, va_K.moved hW.alike hK9, hD9⟩, hS.F ht⟩) hS.2.2 d_SS_programme_88)
  by_cases hs1 : w = 1
  · subst hs1
    refine lv_tableIn (tgt := 89) hx hb d_SS_programme_47 (by decide) (by decide) rfl rfl ?_
    refine lv_aload_n hx hb d_SS_programme_89 rfl (lv_at hl 0 rfl) ?_
    refine va_getN (D := D) (ci := 7) (v := .int (nI x.1.2.2.1)) (C := R_Programme) (T := F_Programme) (N := 8) hx hb hts i_Programme hown hK hP q1 hq1 rfl 1 (by decide) (hts _ wd_580) (fun _ h9 => h9) rfl d_SS_programme_90 ?_
    have hP9 := hP.part (cx := [(h, .inr (11, [.ref rc, .ref d])), (rc, .inr (4, [.ref tp, .ref ln, .ref tb, .ref ct, .ref dp]))]) [0, 1] rfl
    have hD9 := hD.part (cx := [(h, .inr (11, [.ref rc, .ref d])), (rc, .inr (4, [.ref tp, .ref ln, .ref tb, .ref ct, .ref dp]))]) [0, 1] (by decide) rfl
    have hK9 := hK.sub (tys' := [(cO, .object "java/lang/Object")]) [0] rfl
    refine W.widen (k := 1) (n := 6) (by omega) (by omega) ?_
    exact W.mono MQ.toT (W.iret (v := (nI x.1.2.2.1)) hx hb hr (fun t ht hW => Or.inl ⟨_, (), rfl, (by dsimp only; rw [← hxe]; rfl), ⟨by rw [ht]; exact hP9, va_K.moved hW.alike hK9, hD9⟩, hS.F ht⟩) hS.2.2 d_SS_programme_93)
  by_cases hs2 : w = 2
  · subst hs2
    refine lv_tableIn (tgt := 94) hx hb d_SS_programme_47 (by decide) (by decide) rfl rfl ?_
    refine lv_aload_n hx hb d_SS_programme_94 rfl (lv_at hl 0 rfl) ?_
    refine va_getN (D := D) (ci := 7) (v := .int x.1.2.2.2.1) (C := R_Programme) (T := F_Programme) (N := 8) hx hb hts i_Programme hown hK hP q1 hq1 rfl 2 (by decide) (hts _ wd_583) (fun _ h9 => h9) rfl d_SS_programme_95 ?_
    have hP9 := hP.part (cx := [(h, .inr (11, [.ref rc, .ref d])), (rc, .inr (4, [.ref tp, .ref ln, .ref tb, .ref ct, .ref dp]))]) [0, 1] rfl
    have hD9 := hD.part (cx := [(h, .inr (11, [.ref rc, .ref d])), (rc, .inr (4, [.ref tp, .ref ln, .ref tb, .ref ct, .ref dp]))]) [0, 1] (by decide) rfl
    have hK9 := hK.sub (tys' := [(cO, .object "java/lang/Object")]) [0] rfl
    refine W.widen (k := 1) (n := 6) (by omega) (by omega) ?_
    exact W.mono MQ.toT (W.iret (v := x.1.2.2.2.1) hx hb hr (fun t ht hW => Or.inl ⟨_, (), rfl, (by dsimp only; rw [← hxe]; rfl), ⟨by rw [ht]; exact hP9, va_K.moved hW.alike hK9, hD9⟩, hS.F ht⟩) hS.2.2 d_SS_programme_98)
  by_cases hs3 : w = 3
  · subst hs3
    refine lv_tableIn (tgt := 99) hx hb d_SS_programme_47 (by decide) (by decide) rfl rfl ?_
    refine lv_aload_n hx hb d_SS_programme_99 rfl (lv_at hl 0 rfl) ?_
    refine va_getN (D := D) (ci := 7) (v := .int x.1.2.2.2.2.1) (C := R_Programme) (T := F_Programme) (N := 8) hx hb hts i_Programme hown hK hP q1 hq1 rfl 3 (by decide) (hts _ wd_586) (fun _ h9 => h9) rfl d_SS_programme_100 ?_
    have hP9 := hP.part (cx := [(h, .inr (11, [.ref rc, .ref d])), (rc, .inr (4, [.ref tp, .ref ln, .ref tb, .ref ct, .ref dp]))]) [0, 1] rfl
    have hD9 := hD.part (cx := [(h, .inr (11, [.ref rc, .ref d])), (rc, .inr (4, [.ref tp, .ref ln, .ref tb, .ref ct, .ref dp]))]) [0, 1] (by decide) rfl
    have hK9 := hK.sub (tys' := [(cO, .object "java/lang/Object")]) [0] rfl
    refine W.widen (k := 1) (n := 6) (by omega) (by omega) ?_
    exact W.mono MQ.toT (W.iret (v := x.1.2.2.2.2.1) hx hb hr (fun t ht hW => Or.inl ⟨_, (), rfl, (by dsimp only; rw [← hxe]; rfl), ⟨by rw [ht]; exact hP9, va_K.moved hW.alike hK9, hD9⟩, hS.F ht⟩) hS.2.2 d_SS_programme_103)
  by_cases hs4 : w = 4
  · subst hs4
    refine lv_tableIn (tgt := 104) hx hb d_SS_programme_47 (by decide) (by decide) rfl rfl ?_
    refine lv_aload_n hx hb d_SS_programme_104 rfl (lv_at hl 0 rfl) ?_
    refine va_getN (D := D) (ci := 7) (v := .ref x.1.2.2.2.2.2.1) (C := R_Programme) (T := F_Programme) (N := 8) hx hb hts i_Programme hown hK hP q1 hq1 rfl 4 (by decide) (hts _ wd_589) (fun _ h9 => h9) rfl d_SS_programme_105 ?_
    have hPc : va_P D classes [(x.1.2.2.2.2.2.1, .inr (12, [.ref sb, .int (nI x.2.1.length), .int smo]))] s.heap := z_Pm1 hsm hP
    have hKc := hK.sub (tys' := []) [] rfl
    refine z_ci (va_runV (As := []) (rest := []) ⟨hx, hb, hml, hown, hts⟩ (c_AL_size l D x.1.2.2.2.2.2.1 sb (nI x.2.1.length) smo ) (z_cV hN wd_305 wd_66 wd_820 hd_AL_size rfl rfl ⟨Nat.le_of_ble_eq_true rfl, Nat.le_of_ble_eq_true rfl⟩ wd_303 wd_304) (z_preV (va_recv (ci := 12) (q0 := q3) hK hP rfl hq3) hPc hKc hN) rfl rfl hl.1 rfl (lv_room (Nat.le_of_ble_eq_true rfl)) d_SS_programme_108 ⟨Nat.le_of_ble_eq_true rfl, Nat.le_of_ble_eq_true rfl⟩) (fun r108 e108 => ?_)
    refine z_topi (w := (nI x.2.1.length)) e108 ?_
    have hP9 := hP.part (cx := [(h, .inr (11, [.ref rc, .ref d])), (rc, .inr (4, [.ref tp, .ref ln, .ref tb, .ref ct, .ref dp]))]) [0, 1] rfl
    have hD9 := hD.part (cx := [(h, .inr (11, [.ref rc, .ref d])), (rc, .inr (4, [.ref tp, .ref ln, .ref tb, .ref ct, .ref dp]))]) [0, 1] (by decide) rfl
    have hK9 := hK.sub (tys' := [(cO, .object "java/lang/Object")]) [0] rfl
    refine W.widen (k := 1) (n := 6) (by omega) (by omega) ?_
    exact W.mono MQ.toT (W.iret (v := (nI x.2.1.length)) hx hb hr (fun t ht hW => Or.inl ⟨_, (), rfl, (by dsimp only; rw [← hxe]; rfl), ⟨by rw [ht]; exact hP9, va_K.moved hW.alike hK9, hD9⟩, hS.F ht⟩) hS.2.2 d_SS_programme_111)
  by_cases hs5 : w = 5
  · subst hs5
    refine lv_tableIn (tgt := 112) hx hb d_SS_programme_47 (by decide) (by decide) rfl rfl ?_
    refine lv_aload_n hx hb d_SS_programme_112 rfl (lv_at hl 0 rfl) ?_
    refine va_getN (D := D) (ci := 7) (v := .int x.1.2.2.2.2.2.2.1) (C := R_Programme) (T := F_Programme) (N := 8) hx hb hts i_Programme hown hK hP q1 hq1 rfl 5 (by decide) (hts _ wd_591) (fun _ h9 => h9) rfl d_SS_programme_113 ?_
    refine lv_if_eq (tgt := 123) hx hb d_SS_programme_116 rfl (fun h116 => ?_) (fun h116 => ?_)
    · refine lv_iconst (v := 0) hx hb d_SS_programme_123 (by decide) ?_
      have hP9 := hP.part (cx := [(h, .inr (11, [.ref rc, .ref d])), (rc, .inr (4, [.ref tp, .ref ln, .ref tb, .ref ct, .ref dp]))]) [0, 1] rfl
      have hD9 := hD.part (cx := [(h, .inr (11, [.ref rc, .ref d])), (rc, .inr (4, [.ref tp, .ref ln, .ref tb, .ref ct, .ref dp]))]) [0, 1] (by decide) rfl
      have hK9 := hK.sub (tys' := [(cO, .object "java/lang/Object")]) [0] rfl
      refine W.widen (k := 1) (n := 6) (by omega) (by omega) ?_
      exact W.mono MQ.toT (W.iret (v := 0) hx hb hr (fun t ht hW => Or.inl ⟨_, (), rfl, (by dsimp only; rw [← hxe]; first | exact (if_pos h116).symm | exact (if_neg h116).symm), ⟨by rw [ht]; exact hP9, va_K.moved hW.alike hK9, hD9⟩, hS.F ht⟩) hS.2.2 d_SS_programme_124)
    · refine lv_iconst (v := 1) hx hb d_SS_programme_119 (by decide) ?_
      refine lv_goto (tgt := 124) hx hb d_SS_programme_120 rfl ?_
      have hP9 := hP.part (cx := [(h, .inr (11, [.ref rc, .ref d])), (rc, .inr (4, [.ref tp, .ref ln, .ref tb, .ref ct, .ref dp]))]) [0, 1] rfl
      have hD9 := hD.part (cx := [(h, .inr (11, [.ref rc, .ref d])), (rc, .inr (4, [.ref tp, .ref ln, .ref tb, .ref ct, .ref dp]))]) [0, 1] (by decide) rfl
      have hK9 := hK.sub (tys' := [(cO, .object "java/lang/Object")]) [0] rfl
      refine W.widen (k := 1) (n := 6) (by omega) (by omega) ?_
      exact W.mono MQ.toT (W.iret (v := 1) hx hb hr (fun t ht hW => Or.inl ⟨_, (), rfl, (by dsimp only; rw [← hxe]; first | exact (if_pos h116).symm | exact (if_neg h116).symm), ⟨by rw [ht]; exact hP9, va_K.moved hW.alike hK9, hD9⟩, hS.F ht⟩) hS.2.2 d_SS_programme_124)
  obtain rfl : w = 6 := by omega
  refine lv_tableOut (tgt := 125) hx hb d_SS_programme_47 (by decide) rfl ?_
  refine lv_aload_n hx hb d_SS_programme_125 rfl (lv_at hl 0 rfl) ?_
  refine va_getN (D := D) (ci := 7) (v := .ref x.1.2.2.2.2.2.2.2.2) (C := R_Programme) (T := F_Programme) (N := 8) hx hb hts i_Programme hown hK hP q1 hq1 rfl 7 (by decide) (hts _ wd_596) (fun _ h9 => h9) rfl d_SS_programme_126 ?_
  have hPc : va_P D classes [(x.1.2.2.2.2.2.2.2.2, .inr (12, [.ref wb, .int (nI x.2.2.1.length), .int x.2.2.2.1]))] s.heap := z_Pm1 hwm hP
  have hKc := hK.sub (tys' := []) [] rfl
  refine z_ci (va_runV (As := []) (rest := []) ⟨hx, hb, hml, hown, hts⟩ (c_AL_size l D x.1.2.2.2.2.2.2.2.2 wb (nI x.2.2.1.length) x.2.2.2.1 ) (z_cV hN wd_305 wd_66 wd_820 hd_AL_size rfl rfl ⟨Nat.le_of_ble_eq_true rfl, Nat.le_of_ble_eq_true rfl⟩ wd_303 wd_304) (z_preV (va_recv (ci := 12) (q0 := q2) hK hP rfl hq2) hPc hKc hN) rfl rfl hl.1 rfl (lv_room (Nat.le_of_ble_eq_true rfl)) d_SS_programme_129 ⟨Nat.le_of_ble_eq_true rfl, Nat.le_of_ble_eq_true rfl⟩) (fun r129 e129 => ?_)
  refine z_topi (w := (nI x.2.2.1.length)) e129 ?_
  have hP9 := hP.part (cx := [(h, .inr (11, [.ref rc, .ref d])), (rc, .inr (4, [.ref tp, .ref ln, .ref tb, .ref ct, .ref dp]))]) [0, 1] rfl
  have hD9 := hD.part (cx := [(h, .inr (11, [.ref rc, .ref d])), (rc, .inr (4, [.ref tp, .ref ln, .ref tb, .ref ct, .ref dp]))]) [0, 1] (by decide) rfl
  have hK9 := hK.sub (tys' := [(cO, .object "java/lang/Object")]) [0] rfl
  refine W.widen (k := 1) (n := 6) (by omega) (by omega) ?_
  exact W.mono MQ.toT (W.iret (v := (nI x.2.2.1.length)) hx hb hr (fun t ht hW => Or.inl ⟨_, (), rfl, (by dsimp only; rw [← hxe]; rfl), ⟨by rw [ht]; exact hP9, va_K.moved hW.alike hK9, hD9⟩, hS.F ht⟩) hS.2.2 d_SS_programme_132)
set_option maxHeartbeats 4000000 in
set_option maxRecDepth 100000 in
theorem c_SS_now_ok (l : Launch) (D : va_G) (hfl : l.stackTraces = false) (B0 : State) (hG : zG B0) (sz : Nat) (h rc d tp ln ct dp : Nat) (cO : ClassId) (e0 tb pr : Nat) (lv pmo : Int32) (pst : Option (Nat × (Nat → Option Nat))) (P : List PR9) (Q : va_W) (k : Nat) (htk : tok Q cO pst P) (hk : k < P.length) : MetT l y_SS_now [Cond.code y_SS_now b_SS_now 3 (some .long)] ({ frames := 4, cells := 1, slots := 6, locals := 85 }) (zMo [.ref h, .int (nI k)] D ([(h, .inr (11, [.ref rc, .ref d])), (rc, .inr (4, [.ref tp, .ref ln, .ref tb, .ref ct, .ref dp]))] ++ (tplr cO e0 tb lv pr P.length pmo pst P ++ Q)) [(cO, .object "java/lang/Object")] sz B0) (zQl (fun r0 (_ : Unit) => r0 = (P.getD k pr9).1.2.2.2.2.2.2.2.1) (fun (_u : Unit) t => zW D (va_A ([(h, .inr (11, [.ref rc, .ref d])), (rc, .inr (4, [.ref tp, .ref ln, .ref tb, .ref ct, .ref dp]))] ++ (tplr cO e0 tb lv pr P.length pmo pst P ++ Q)) sz) ([(h, .inr (11, [.ref rc, .ref d])), (rc, .inr (4, [.ref tp, .ref ln, .ref tb, .ref ct, .ref dp]))] ++ (tplr cO e0 tb lv pr P.length pmo pst P ++ Q)) [(cO, .object "java/lang/Object")] t) (va_A ([(h, .inr (11, [.ref rc, .ref d])), (rc, .inr (4, [.ref tp, .ref ln, .ref tb, .ref ct, .ref dp]))] ++ (tplr cO e0 tb lv pr P.length pmo pst P ++ Q)) sz) (fun _ => False)) 1 6 (va_A ([(h, .inr (11, [.ref rc, .ref d])), (rc, .inr (4, [.ref tp, .ref ln, .ref tb, .ref ct, .ref dp]))] ++ (tplr cO e0 tb lv pr P.length pmo pst P ++ Q)) sz) := by
  refine MetT.ofW (cc := b_SS_now) (maxL := 3) (ret := (some .long)) (by decide) rfl ?_
  intro p e s m args below meth cd s₁ Bd hml hem hv
  obtain ⟨rfl, hsz, hP, hK, hN, hD0, hO⟩ := hv
  have hx := Bd.exec
  have hb := Bd.bytes
  have hr := Bd.returns
  have hts := hN.use (a := ([.ref h, .int (nI k)]).toArray)
  have hown : s.vm.findClass R_SS = some m.cls := findClass_of_methodNamed Bd.named
  have hlocks := Bd.notSynchronized
  subst hsz
  have hD := hD0.self (sz := s.heap.size)
  have hAO := z_AO hD0 hO
  clear hD0
  have hA : ∀ q : Nat, s.heap.size ≤ q → va_A ([(h, .inr (11, [.ref rc, .ref d])), (rc, .inr (4, [.ref tp, .ref ln, .ref tb, .ref ct, .ref dp]))] ++ (tplr cO e0 tb lv pr P.length pmo pst P ++ Q)) s.heap.size q := fun q h => Or.inr h
  have hS : va_S (va_A ([(h, .inr (11, [.ref rc, .ref d])), (rc, .inr (4, [.ref tp, .ref ln, .ref tb, .ref ct, .ref dp]))] ++ (tplr cO e0 tb lv pr P.length pmo pst P ++ Q)) s.heap.size) s.heap s.heap [] := va_S.rf
  generalize hAe : va_A ([(h, .inr (11, [.ref rc, .ref d])), (rc, .inr (4, [.ref tp, .ref ln, .ref tb, .ref ct, .ref dp]))] ++ (tplr cO e0 tb lv pr P.length pmo pst P ++ Q)) s.heap.size = A at hD hA hS hAO ⊢
  have hP : va_P D classes ([(h, .inr (11, [.ref rc, .ref d])), (rc, .inr (4, [.ref tp, .ref ln, .ref tb, .ref ct, .ref dp]))] ++ (tplr cO e0 tb lv pr P.length pmo pst P ++ Q)) s.heap := hP
  have hl := lv_entry ([.ref h, .int (nI k)]) (n := 3) (Nat.le_of_ble_eq_true rfl)
  rw [lg_entry_eq]
  generalize (lg_sl ([.ref h, .int (nI k)]) ++ List.replicate (3 - (lg_sl ([.ref h, .int (nI k)])).length) Slot.unset).toArray = ls at hl ⊢
  have hl : lv_has ls 3 [(0, .ref h), (1, .int (nI k))] := hl
  refine lv_aload_n hx hb d_SS_now_0 rfl (lv_at hl 0 rfl) ?_
  refine va_get (D := D) (ci := 11) (v := .ref rc) (C := R_SS) (T := F_SS) (N := 2) hx hb hts i_SS hown hK hP 0 rfl rfl 0 (by decide) (hts _ wd_198) (fun _ h9 => h9) rfl d_SS_now_1 ?_
  refine va_getN (D := D) (ci := 4) (v := .ref tb) (C := R_Receiver) (T := F_Receiver) (N := 5) hx hb hts i_Receiver hown hK hP 1 rfl rfl 2 (by decide) (hts _ wd_180) (fun _ h9 => h9) rfl d_SS_now_4 ?_
  refine lv_iload_n hx hb d_SS_now_7 rfl (lv_at hl 1 rfl) ?_
  have hT9 := tok_isT (X := [(h, .inr (11, [.ref rc, .ref d])), (rc, .inr (4, [.ref tp, .ref ln, .ref tb, .ref ct, .ref dp]))]) (e0 := e0) (tb := tb) (pr := pr) (lv := lv) (pmo := pmo) htk
  obtain ⟨q0, hq0⟩ : ∃ q0 : Nat, ([(h, .inr (11, [.ref rc, .ref d])), (rc, .inr (4, [.ref tp, .ref ln, .ref tb, .ref ct, .ref dp]))] ++ (tplr cO e0 tb lv pr P.length pmo pst P ++ Q))[q0]? = some (tb, .inr (8, [.int lv, .ref pr])) := ⟨2, rfl⟩
  obtain ⟨x, hxe⟩ : ∃ x : PR9, x = P.getD k pr9 := ⟨_, rfl⟩
  have hxm := p_mem hk
  have hpk := htk.2.2 _ hxm
  rw [← hxe] at hpk hxm
  have hpm : (x.1.1, pgE x.1) ∈ ([(h, .inr (11, [.ref rc, .ref d])), (rc, .inr (4, [.ref tp, .ref ln, .ref tb, .ref ct, .ref dp]))] ++ (tplr cO e0 tb lv pr P.length pmo pst P ++ Q)) := tp_memP hxm List.mem_cons_self
  obtain ⟨q1, hq1⟩ := List.getElem?_of_mem hpm
  obtain ⟨wb, hwb⟩ := wl_mem cO e0 x.1.2.2.2.2.2.2.2.2 x.2.2.1.length x.2.2.2.1 x.2.2.2.2
  have hwm : (x.1.2.2.2.2.2.2.2.2, alE wb x.2.2.1.length x.2.2.2.1) ∈ ([(h, .inr (11, [.ref rc, .ref d])), (rc, .inr (4, [.ref tp, .ref ln, .ref tb, .ref ct, .ref dp]))] ++ (tplr cO e0 tb lv pr P.length pmo pst P ++ Q)) := tp_memP hxm (List.mem_cons_of_mem _ hwb)
  obtain ⟨q2, hq2⟩ := List.getElem?_of_mem hwm
  obtain ⟨sb, smo, sg, ⟨hsm, hs6, hsa⟩, hsE⟩ := isS_mono hpk.2.1 (Q2 := ([(h, .inr (11, [.ref rc, .ref d])), (rc, .inr (4, [.ref tp, .ref ln, .ref tb, .ref ct, .ref dp]))] ++ (tplr cO e0 tb lv pr P.length pmo pst P ++ Q))) (fun y hy => List.mem_append_right _ (List.mem_append_right _ hy))
  obtain ⟨q3, hq3⟩ := List.getElem?_of_mem hsm
  have hxa : some ((pvw P).getD k (pz0, [])).1.1 = some x.1.1 := by rw [pvw_get hk, ← hxe]
  have hPc : va_P D classes ([] ++ ([(h, .inr (11, [.ref rc, .ref d])), (rc, .inr (4, [.ref tp, .ref ln, .ref tb, .ref ct, .ref dp]))] ++ (tplr cO e0 tb lv pr P.length pmo pst P ++ Q))) s.heap := hP
  have hKc := hK.sub (tys' := [(cO, .object "java/lang/Object")]) [0] rfl
  refine z_cq (va_runV (As := [.int (nI k)]) (rest := []) ⟨hx, hb, hml, hown, hts⟩ (c_Tables_programmeAt l D cO ([(h, .inr (11, [.ref rc, .ref d])), (rc, .inr (4, [.ref tp, .ref ln, .ref tb, .ref ct, .ref dp]))] ++ (tplr cO e0 tb lv pr P.length pmo pst P ++ Q)) tb pr lv (pvw P) k hT9 (by rw [pvw_len]; exact hk)) (z_cV hN wd_832 wd_63 wd_829 hd_Tables_programmeAt rfl rfl ⟨Nat.le_of_ble_eq_true rfl, Nat.le_of_ble_eq_true rfl⟩ wd_830 wd_831) (z_preV (va_recv (ci := 8) (q0 := q0) hK hP rfl hq0) hPc hKc hN) rfl rfl hl.1 rfl (lv_room (Nat.le_of_ble_eq_true rfl)) d_SS_now_8 ⟨Nat.le_of_ble_eq_true rfl, Nat.le_of_ble_eq_true rfl⟩) (fun r8 e8 => ?_)
  subst e8
  refine z_topq (w := some x.1.1) hxa ?_
  refine lv_astore_n (lv' := [(2, .ref x.1.1), (0, .ref h), (1, .int (nI k))]) hx hb d_SS_now_11 rfl hl (by decide) rfl (fun ls hl => ?_)
  refine lv_aload_n hx hb d_SS_now_12 rfl (lv_at hl 0 rfl) ?_
  refine lv_ifnonnull (tgt := 26) hx hb d_SS_now_13 rfl ?_
  refine lv_aload_n hx hb d_SS_now_26 rfl (lv_at hl 0 rfl) ?_
  refine va_getN (D := D) (ci := 7) (v := .long x.1.2.2.2.2.2.2.2.1) (C := R_Programme) (T := F_Programme) (N := 8) hx hb hts i_Programme hown hK hP q1 hq1 rfl 6 (by decide) (hts _ wd_593) (fun _ h9 => h9) rfl d_SS_now_27 ?_
  have hP9 := hP.part (cx := [(h, .inr (11, [.ref rc, .ref d])), (rc, .inr (4, [.ref tp, .ref ln, .ref tb, .ref ct, .ref dp]))]) [0, 1] rfl
  have hD9 := hD.part (cx := [(h, .inr (11, [.ref rc, .ref d])), (rc, .inr (4, [.ref tp, .ref ln, .ref tb, .ref ct, .ref dp]))]) [0, 1] (by decide) rfl
  have hK9 := hK.sub (tys' := [(cO, .object "java/lang/Object")]) [0] rfl
  refine W.widen (k := 1) (n := 6) (by omega) (by omega) ?_
  exact W.mono MQ.toT (W.lret (v := x.1.2.2.2.2.2.2.2.1) hx hb hr (fun t ht hW => Or.inl ⟨_, (), rfl, (by dsimp only; rw [← hxe]), ⟨by rw [ht]; exact hP9, va_K.moved hW.alike hK9, hD9⟩, hS.F ht⟩) hS.2.2 d_SS_now_30)
set_option maxHeartbeats 4000000 in
set_option maxRecDepth 100000 in
theorem c_SS_stream_ok (l : Launch) (D : va_G) (hfl : l.stackTraces = false) (B0 : State) (hG : zG B0) (sz : Nat) (h rc d tp ln ct dp : Nat) (cO : ClassId) (e0 tb pr : Nat) (lv pmo : Int32) (pst : Option (Nat × (Nat → Option Nat))) (P : List PR9) (Q : va_W) (k j : Nat) (htk : tok Q cO pst P) (hk : k < P.length) (hj : j < (P.getD k pr9).2.1.length) : MetT l y_SS_stream [Cond.code y_SS_stream b_SS_stream 5 (some .int)] ({ frames := 4, cells := 1, slots := 6, locals := 85 }) (zMo [.ref h, .int (nI k), .int (nI j)] D ([(h, .inr (11, [.ref rc, .ref d])), (rc, .inr (4, [.ref tp, .ref ln, .ref tb, .ref ct, .ref dp]))] ++ (tplr cO e0 tb lv pr P.length pmo pst P ++ Q)) [(cO, .object "java/lang/Object")] sz B0) (zQi (fun r0 (_ : Unit) => r0 = ((P.getD k pr9).2.1.getD j (0, 0)).1 * 65536 + nI ((P.getD k pr9).2.1.getD j (0, 0)).2) (fun (_u : Unit) t => zW D (va_A ([(h, .inr (11, [.ref rc, .ref d])), (rc, .inr (4, [.ref tp, .ref ln, .ref tb, .ref ct, .ref dp]))] ++ (tplr cO e0 tb lv pr P.length pmo pst P ++ Q)) sz) ([(h, .inr (11, [.ref rc, .ref d])), (rc, .inr (4, [.ref tp, .ref ln, .ref tb, .ref ct, .ref dp]))] ++ (tplr cO e0 tb lv pr P.length pmo pst P ++ Q)) [(cO, .object "java/lang/Object")] t) (va_A ([(h, .inr (11, [.ref rc, .ref d])), (rc, .inr (4, [.ref tp, .ref ln, .ref tb, .ref ct, .ref dp]))] ++ (tplr cO e0 tb lv pr P.length pmo pst P ++ Q)) sz) (fun _ => False)) 1 6 (va_A ([(h, .inr (11, [.ref rc, .ref d])), (rc, .inr (4, [.ref tp, .ref ln, .ref tb, .ref ct, .ref dp]))] ++ (tplr cO e0 tb lv pr P.length pmo pst P ++ Q)) sz) := by
  refine MetT.ofW (cc := b_SS_stream) (maxL := 5) (ret := (some .int)) (by decide) rfl ?_
  intro p e s m args below meth cd s₁ Bd hml hem hv
  obtain ⟨rfl, hsz, hP, hK, hN, hD0, hO⟩ := hv
  have hx := Bd.exec
  have hb := Bd.bytes
  have hr := Bd.returns
  have hts := hN.use (a := ([.ref h, .int (nI k), .int (nI j)]).toArray)
  have hown : s.vm.findClass R_SS = some m.cls := findClass_of_methodNamed Bd.named
  have hlocks := Bd.notSynchronized
  subst hsz
  have hD := hD0.self (sz := s.heap.size)
  have hAO := z_AO hD0 hO
  clear hD0
  have hA : ∀ q : Nat, s.heap.size ≤ q → va_A ([(h, .inr (11, [.ref rc, .ref d])), (rc, .inr (4, [.ref tp, .ref ln, .ref tb, .ref ct, .ref dp]))] ++ (tplr cO e0 tb lv pr P.length pmo pst P ++ Q)) s.heap.size q := fun q h => Or.inr h
  have hS : va_S (va_A ([(h, .inr (11, [.ref rc, .ref d])), (rc, .inr (4, [.ref tp, .ref ln, .ref tb, .ref ct, .ref dp]))] ++ (tplr cO e0 tb lv pr P.length pmo pst P ++ Q)) s.heap.size) s.heap s.heap [] := va_S.rf
  generalize hAe : va_A ([(h, .inr (11, [.ref rc, .ref d])), (rc, .inr (4, [.ref tp, .ref ln, .ref tb, .ref ct, .ref dp]))] ++ (tplr cO e0 tb lv pr P.length pmo pst P ++ Q)) s.heap.size = A at hD hA hS hAO ⊢
  have hP : va_P D classes ([(h, .inr (11, [.ref rc, .ref d])), (rc, .inr (4, [.ref tp, .ref ln, .ref tb, .ref ct, .ref dp]))] ++ (tplr cO e0 tb lv pr P.length pmo pst P ++ Q)) s.heap := hP
  have hl := lv_entry ([.ref h, .int (nI k), .int (nI j)]) (n := 5) (Nat.le_of_ble_eq_true rfl)
  rw [lg_entry_eq]
  generalize (lg_sl ([.ref h, .int (nI k), .int (nI j)]) ++ List.replicate (5 - (lg_sl ([.ref h, .int (nI k), .int (nI j)])).length) Slot.unset).toArray = ls at hl ⊢
  have hl : lv_has ls 5 [(0, .ref h), (1, .int (nI k)), (2, .int (nI j))] := hl
  refine lv_aload_n hx hb d_SS_stream_0 rfl (lv_at hl 0 rfl) ?_
  refine va_get (D := D) (ci := 11) (v := .ref rc) (C := R_SS) (T := F_SS) (N := 2) hx hb hts i_SS hown hK hP 0 rfl rfl 0 (by decide) (hts _ wd_198) (fun _ h9 => h9) rfl d_SS_stream_1 ?_
  refine va_getN (D := D) (ci := 4) (v := .ref tb) (C := R_Receiver) (T := F_Receiver) (N := 5) hx hb hts i_Receiver hown hK hP 1 rfl rfl 2 (by decide) (hts _ wd_180) (fun _ h9 => h9) rfl d_SS_stream_4 ?_
  refine lv_iload_n hx hb d_SS_stream_7 rfl (lv_at hl 1 rfl) ?_
  have hT9 := tok_isT (X := [(h, .inr (11, [.ref rc, .ref d])), (rc, .inr (4, [.ref tp, .ref ln, .ref tb, .ref ct, .ref dp]))]) (e0 := e0) (tb := tb) (pr := pr) (lv := lv) (pmo := pmo) htk
  obtain ⟨q0, hq0⟩ : ∃ q0 : Nat, ([(h, .inr (11, [.ref rc, .ref d])), (rc, .inr (4, [.ref tp, .ref ln, .ref tb, .ref ct, .ref dp]))] ++ (tplr cO e0 tb lv pr P.length pmo pst P ++ Q))[q0]? = some (tb, .inr (8, [.int lv, .ref pr])) := ⟨2, rfl⟩
  obtain ⟨x, hxe⟩ : ∃ x : PR9, x = P.getD k pr9 := ⟨_, rfl⟩
  have hxm := p_mem hk
  have hpk := htk.2.2 _ hxm
  rw [← hxe] at hpk hxm
  have hpm : (x.1.1, pgE x.1) ∈ ([(h, .inr (11, [.ref rc, .ref d])), (rc, .inr (4, [.ref tp, .ref ln, .ref tb, .ref ct, .ref dp]))] ++ (tplr cO e0 tb lv pr P.length pmo pst P ++ Q)) := tp_memP hxm List.mem_cons_self
  obtain ⟨q1, hq1⟩ := List.getElem?_of_mem hpm
  obtain ⟨wb, hwb⟩ := wl_mem cO e0 x.1.2.2.2.2.2.2.2.2 x.2.2.1.length x.2.2.2.1 x.2.2.2.2
  have hwm : (x.1.2.2.2.2.2.2.2.2, alE wb x.2.2.1.length x.2.2.2.1) ∈ ([(h, .inr (11, [.ref rc, .ref d])), (rc, .inr (4, [.ref tp, .ref ln, .ref tb, .ref ct, .ref dp]))] ++ (tplr cO e0 tb lv pr P.length pmo pst P ++ Q)) := tp_memP hxm (List.mem_cons_of_mem _ hwb)
  obtain ⟨q2, hq2⟩ := List.getElem?_of_mem hwm
  obtain ⟨sb, smo, sg, ⟨hsm, hs6, hsa⟩, hsE⟩ := isS_mono hpk.2.1 (Q2 := ([(h, .inr (11, [.ref rc, .ref d])), (rc, .inr (4, [.ref tp, .ref ln, .ref tb, .ref ct, .ref dp]))] ++ (tplr cO e0 tb lv pr P.length pmo pst P ++ Q))) (fun y hy => List.mem_append_right _ (List.mem_append_right _ hy))
  obtain ⟨q3, hq3⟩ := List.getElem?_of_mem hsm
  have hxa : some ((pvw P).getD k (pz0, [])).1.1 = some x.1.1 := by rw [pvw_get hk, ← hxe]
  have hPc : va_P D classes ([] ++ ([(h, .inr (11, [.ref rc, .ref d])), (rc, .inr (4, [.ref tp, .ref ln, .ref tb, .ref ct, .ref dp]))] ++ (tplr cO e0 tb lv pr P.length pmo pst P ++ Q))) s.heap := hP
  have hKc := hK.sub (tys' := [(cO, .object "java/lang/Object")]) [0] rfl
  refine z_cq (va_runV (As := [.int (nI k)]) (rest := []) ⟨hx, hb, hml, hown, hts⟩ (c_Tables_programmeAt l D cO ([(h, .inr (11, [.ref rc, .ref d])), (rc, .inr (4, [.ref tp, .ref ln, .ref tb, .ref ct, .ref dp]))] ++ (tplr cO e0 tb lv pr P.length pmo pst P ++ Q)) tb pr lv (pvw P) k hT9 (by rw [pvw_len]; exact hk)) (z_cV hN wd_832 wd_63 wd_829 hd_Tables_programmeAt rfl rfl ⟨Nat.le_of_ble_eq_true rfl, Nat.le_of_ble_eq_true rfl⟩ wd_830 wd_831) (z_preV (va_recv (ci := 8) (q0 := q0) hK hP rfl hq0) hPc hKc hN) rfl rfl hl.1 rfl (lv_room (Nat.le_of_ble_eq_true rfl)) d_SS_stream_8 ⟨Nat.le_of_ble_eq_true rfl, Nat.le_of_ble_eq_true rfl⟩) (fun r8 e8 => ?_)
  subst e8
  refine z_topq (w := some x.1.1) hxa ?_
  refine lv_astore_n (lv' := [(3, .ref x.1.1), (0, .ref h), (1, .int (nI k)), (2, .int (nI j))]) hx hb d_SS_stream_11 rfl hl (by decide) rfl (fun ls hl => ?_)
  refine lv_aload_n hx hb d_SS_stream_12 rfl (lv_at hl 0 rfl) ?_
  refine lv_ifnonnull (tgt := 26) hx hb d_SS_stream_13 rfl ?_
  refine lv_iload_n hx hb d_SS_stream_26 rfl (lv_at hl 3 rfl) ?_
  have hj9 : j < x.2.1.length := by rw [hxe]; exact hj
  refine lv_if_lt (tgt := 41) hx hb d_SS_stream_27 rfl (fun h9 => absurd h9 (nI_pos (by omega))) (fun h27 => ?_)
  refine lv_iload_n hx hb d_SS_stream_30 rfl (lv_at hl 3 rfl) ?_
  refine lv_aload_n hx hb d_SS_stream_31 rfl (lv_at hl 0 rfl) ?_
  refine va_getN (D := D) (ci := 7) (v := .ref x.1.2.2.2.2.2.1) (C := R_Programme) (T := F_Programme) (N := 8) hx hb hts i_Programme hown hK hP q1 hq1 rfl 4 (by decide) (hts _ wd_589) (fun _ h9 => h9) rfl d_SS_stream_32 ?_
  have hPc : va_P D classes [(x.1.2.2.2.2.2.1, .inr (12, [.ref sb, .int (nI x.2.1.length), .int smo]))] s.heap := z_Pm1 hsm hP
  have hKc := hK.sub (tys' := []) [] rfl
  refine z_ci (va_runV (As := []) (rest := [.int (nI j)]) ⟨hx, hb, hml, hown, hts⟩ (c_AL_size l D x.1.2.2.2.2.2.1 sb (nI x.2.1.length) smo ) (z_cV hN wd_305 wd_66 wd_820 hd_AL_size rfl rfl ⟨Nat.le_of_ble_eq_true rfl, Nat.le_of_ble_eq_true rfl⟩ wd_303 wd_304) (z_preV (va_recv (ci := 12) (q0 := q3) hK hP rfl hq3) hPc hKc hN) rfl rfl hl.1 rfl (lv_room (Nat.le_of_ble_eq_true rfl)) d_SS_stream_35 ⟨Nat.le_of_ble_eq_true rfl, Nat.le_of_ble_eq_true rfl⟩) (fun r35 e35 => ?_)
  refine z_topi (w := (nI x.2.1.length)) e35 ?_
  refine lv_icmp_lt (tgt := 43) hx hb d_SS_stream_38 rfl (fun h38 => ?_) (fun h9 => absurd (nI_lt hj9 (by omega)) h9)
  refine lv_aload_n hx hb d_SS_stream_43 rfl (lv_at hl 0 rfl) ?_
  refine va_getN (D := D) (ci := 7) (v := .ref x.1.2.2.2.2.2.1) (C := R_Programme) (T := F_Programme) (N := 8) hx hb hts i_Programme hown hK hP q1 hq1 rfl 4 (by decide) (hts _ wd_589) (fun _ h9 => h9) rfl d_SS_stream_44 ?_
  refine lv_iload_n hx hb d_SS_stream_47 rfl (lv_at hl 3 rfl) ?_
  obtain ⟨a9, hga, ham, hap⟩ := hsE j hj9
  obtain ⟨q4, hq4⟩ := List.getElem?_of_mem ham
  have hPc : va_P D classes [(x.1.2.2.2.2.2.1, .inr (12, [.ref sb, .int (nI x.2.1.length), .int smo])), (sb, .inl (cO, 10, .inr (.inr (.inr (.inr sg)))))] s.heap := z_Pm2 hsm (hsa.resolve_left (by omega)) hP
  have hKc := hK.sub (tys' := [(cO, .object "java/lang/Object")]) [0] rfl
  refine z_cq (va_runV (As := [.int (nI j)]) (rest := []) ⟨hx, hb, hml, hown, hts⟩ (c_AL_get l D cO x.1.2.2.2.2.2.1 sb x.2.1.length smo sg j hj9 (by omega)) (z_cV hN wd_309 wd_66 wd_841 hd_AL_get rfl rfl ⟨Nat.le_of_ble_eq_true rfl, Nat.le_of_ble_eq_true rfl⟩ wd_307 wd_308) (z_preV (va_recv (ci := 12) (q0 := q3) hK hP rfl hq3) hPc hKc hN) rfl rfl hl.1 rfl (lv_room (Nat.le_of_ble_eq_true rfl)) d_SS_stream_48 ⟨Nat.le_of_ble_eq_true rfl, Nat.le_of_ble_eq_true rfl⟩) (fun r48 e48 => ?_)
  subst e48
  refine z_topq (w := some a9) hga ?_
  refine va_castY hx hb hown (hts _ wd_842) (hN _ wd_1486) (va_recv (ci := 5) (q0 := q4) hK hP rfl hq4) d_SS_stream_51 ?_
  refine lv_astore (lv' := [(4, .ref a9), (3, .ref x.1.1), (0, .ref h), (1, .int (nI k)), (2, .int (nI j))]) hx hb d_SS_stream_54 hl (by decide) rfl (fun ls hl => ?_)
  refine lv_aload hx hb d_SS_stream_56 (lv_at hl 0 rfl) ?_
  refine va_getN (D := D) (ci := 5) (v := .int ((x.2.1.getD j (0, 0)).1)) (C := R_Stream) (T := F_Stream) (N := 2) hx hb hts i_Stream hown hK hP q4 hq4 rfl 0 (by decide) (hts _ wd_637) (fun _ h9 => h9) rfl d_SS_stream_58 ?_
  refine lv_ldc hx hb hown (hts _ wd_843) d_SS_stream_61 ?_
  refine lv_imul hx hb d_SS_stream_63 ?_
  refine lv_aload hx hb d_SS_stream_64 (lv_at hl 0 rfl) ?_
  refine va_getN (D := D) (ci := 5) (v := .int (nI (x.2.1.getD j (0, 0)).2)) (C := R_Stream) (T := F_Stream) (N := 2) hx hb hts i_Stream hown hK hP q4 hq4 rfl 1 (by decide) (hts _ wd_641) (fun _ h9 => h9) rfl d_SS_stream_66 ?_
  refine lv_iadd hx hb d_SS_stream_69 ?_
  have hP9 := hP.part (cx := [(h, .inr (11, [.ref rc, .ref d])), (rc, .inr (4, [.ref tp, .ref ln, .ref tb, .ref ct, .ref dp]))]) [0, 1] rfl
  have hD9 := hD.part (cx := [(h, .inr (11, [.ref rc, .ref d])), (rc, .inr (4, [.ref tp, .ref ln, .ref tb, .ref ct, .ref dp]))]) [0, 1] (by decide) rfl
  have hK9 := hK.sub (tys' := [(cO, .object "java/lang/Object")]) [0] rfl
  refine W.widen (k := 1) (n := 6) (by omega) (by omega) ?_
  exact W.mono MQ.toT (W.iret (v := ((((x.2.1.getD j (0, 0)).1) * 65536) + (nI (x.2.1.getD j (0, 0)).2))) hx hb hr (fun t ht hW => Or.inl ⟨_, (), rfl, (by dsimp only; rw [← hxe]), ⟨by rw [ht]; exact hP9, va_K.moved hW.alike hK9, hD9⟩, hS.F ht⟩) hS.2.2 d_SS_stream_70)
set_option maxHeartbeats 4000000 in
set_option maxRecDepth 100000 in
theorem c_SS_stream_none (l : Launch) (D : va_G) (hfl : l.stackTraces = false) (B0 : State) (hG : zG B0) (sz : Nat) (h rc d tp ln ct dp : Nat) (cO : ClassId) (e0 tb pr : Nat) (lv pmo : Int32) (pst : Option (Nat × (Nat → Option Nat))) (P : List PR9) (Q : va_W) (k : Nat) (i : Int32) (htk : tok Q cO pst P) (hk : k < P.length) (hj : i < 0 ∨ ¬ i < nI (P.getD k pr9).2.1.length) : MetT l y_SS_stream [Cond.code y_SS_stream b_SS_stream 5 (some .int)] ({ frames := 4, cells := 1, slots := 6, locals := 85 }) (zMo [.ref h, .int (nI k), .int i] D ([(h, .inr (11, [.ref rc, .ref d])), (rc, .inr (4, [.ref tp, .ref ln, .ref tb, .ref ct, .ref dp]))] ++ (tplr cO e0 tb lv pr P.length pmo pst P ++ Q)) [(cO, .object "java/lang/Object")] sz B0) (zQi (fun r0 (_ : Unit) => r0 = -1) (fun (_u : Unit) t => zW D (va_A ([(h, .inr (11, [.ref rc, .ref d])), (rc, .inr (4, [.ref tp, .ref ln, .ref tb, .ref ct, .ref dp]))] ++ (tplr cO e0 tb lv pr P.length pmo pst P ++ Q)) sz) ([(h, .inr (11, [.ref rc, .ref d])), (rc, .inr (4, [.ref tp, .ref ln, .ref tb, .ref ct, .ref dp]))] ++ (tplr cO e0 tb lv pr P.length pmo pst P ++ Q)) [(cO, .object "java/lang/Object")] t) (va_A ([(h, .inr (11, [.ref rc, .ref d])), (rc, .inr (4, [.ref tp, .ref ln, .ref tb, .ref ct, .ref dp]))] ++ (tplr cO e0 tb lv pr P.length pmo pst P ++ Q)) sz) (fun _ => False)) 1 6 (va_A ([(h, .inr (11, [.ref rc, .ref d])), (rc, .inr (4, [.ref tp, .ref ln, .ref tb, .ref ct, .ref dp]))] ++ (tplr cO e0 tb lv pr P.length pmo pst P ++ Q)) sz) := by
  refine MetT.ofW (cc := b_SS_stream) (maxL := 5) (ret := (some .int)) (by decide) rfl ?_
  intro p e s m args below meth cd s₁ Bd hml hem hv
  obtain ⟨rfl, hsz, hP, hK, hN, hD0, hO⟩ := hv
  have hx := Bd.exec
  have hb := Bd.bytes
  have hr := Bd.returns
  have hts := hN.use (a := ([.ref h, .int (nI k), .int i]).toArray)
  have hown : s.vm.findClass R_SS = some m.cls := findClass_of_methodNamed Bd.named
  have hlocks := Bd.notSynchronized
  subst hsz
  have hD := hD0.self (sz := s.heap.size)
  have hAO := z_AO hD0 hO
  clear hD0
  have hA : ∀ q : Nat, s.heap.size ≤ q → va_A ([(h, .inr (11, [.ref rc, .ref d])), (rc, .inr (4, [.ref tp, .ref ln, .ref tb, .ref ct, .ref dp]))] ++ (tplr cO e0 tb lv pr P.length pmo pst P ++ Q)) s.heap.size q := fun q h => Or.inr h
  have hS : va_S (va_A ([(h, .inr (11, [.ref rc, .ref d])), (rc, .inr (4, [.ref tp, .ref ln, .ref tb, .ref ct, .ref dp]))] ++ (tplr cO e0 tb lv pr P.length pmo pst P ++ Q)) s.heap.size) s.heap s.heap [] := va_S.rf
  generalize hAe : va_A ([(h, .inr (11, [.ref rc, .ref d])), (rc, .inr (4, [.ref tp, .ref ln, .ref tb, .ref ct, .ref dp]))] ++ (tplr cO e0 tb lv pr P.length pmo pst P ++ Q)) s.heap.size = A at hD hA hS hAO ⊢
  have hP : va_P D classes ([(h, .inr (11, [.ref rc, .ref d])), (rc, .inr (4, [.ref tp, .ref ln, .ref tb, .ref ct, .ref dp]))] ++ (tplr cO e0 tb lv pr P.length pmo pst P ++ Q)) s.heap := hP
  have hl := lv_entry ([.ref h, .int (nI k), .int i]) (n := 5) (Nat.le_of_ble_eq_true rfl)
  rw [lg_entry_eq]
  generalize (lg_sl ([.ref h, .int (nI k), .int i]) ++ List.replicate (5 - (lg_sl ([.ref h, .int (nI k), .int i])).length) Slot.unset).toArray = ls at hl ⊢
  have hl : lv_has ls 5 [(0, .ref h), (1, .int (nI k)), (2, .int i)] := hl
  refine lv_aload_n hx hb d_SS_stream_0 rfl (lv_at hl 0 rfl) ?_
  refine va_get (D := D) (ci := 11) (v := .ref rc) (C := R_SS) (T := F_SS) (N := 2) hx hb hts i_SS hown hK hP 0 rfl rfl 0 (by decide) (hts _ wd_198) (fun _ h9 => h9) rfl d_SS_stream_1 ?_
  refine va_getN (D := D) (ci := 4) (v := .ref tb) (C := R_Receiver) (T := F_Receiver) (N := 5) hx hb hts i_Receiver hown hK hP 1 rfl rfl 2 (by decide) (hts _ wd_180) (fun _ h9 => h9) rfl d_SS_stream_4 ?_
  refine lv_iload_n hx hb d_SS_stream_7 rfl (lv_at hl 1 rfl) ?_
  have hT9 := tok_isT (X := [(h, .inr (11, [.ref rc, .ref d])), (rc, .inr (4, [.ref tp, .ref ln, .ref tb, .ref ct, .ref dp]))]) (e0 := e0) (tb := tb) (pr := pr) (lv := lv) (pmo := pmo) htk
  obtain ⟨q0, hq0⟩ : ∃ q0 : Nat, ([(h, .inr (11, [.ref rc, .ref d])), (rc, .inr (4, [.ref tp, .ref ln, .ref tb, .ref ct, .ref dp]))] ++ (tplr cO e0 tb lv pr P.length pmo pst P ++ Q))[q0]? = some (tb, .inr (8, [.int lv, .ref pr])) := ⟨2, rfl⟩
  obtain ⟨x, hxe⟩ : ∃ x : PR9, x = P.getD k pr9 := ⟨_, rfl⟩
  have hxm := p_mem hk
  have hpk := htk.2.2 _ hxm
  rw [← hxe] at hpk hxm
  have hpm : (x.1.1, pgE x.1) ∈ ([(h, .inr (11, [.ref rc, .ref d])), (rc, .inr (4, [.ref tp, .ref ln, .ref tb, .ref ct, .ref dp]))] ++ (tplr cO e0 tb lv pr P.length pmo pst P ++ Q)) := tp_memP hxm List.mem_cons_self
  obtain ⟨q1, hq1⟩ := List.getElem?_of_mem hpm
  obtain ⟨wb, hwb⟩ := wl_mem cO e0 x.1.2.2.2.2.2.2.2.2 x.2.2.1.length x.2.2.2.1 x.2.2.2.2
  have hwm : (x.1.2.2.2.2.2.2.2.2, alE wb x.2.2.1.length x.2.2.2.1) ∈ ([(h, .inr (11, [.ref rc, .ref d])), (rc, .inr (4, [.ref tp, .ref ln, .ref tb, .ref ct, .ref dp]))] ++ (tplr cO e0 tb lv pr P.length pmo pst P ++ Q)) := tp_memP hxm (List.mem_cons_of_mem _ hwb)
  obtain ⟨q2, hq2⟩ := List.getElem?_of_mem hwm
  obtain ⟨sb, smo, sg, ⟨hsm, hs6, hsa⟩, hsE⟩ := isS_mono hpk.2.1 (Q2 := ([(h, .inr (11, [.ref rc, .ref d])), (rc, .inr (4, [.ref tp, .ref ln, .ref tb, .ref ct, .ref dp]))] ++ (tplr cO e0 tb lv pr P.length pmo pst P ++ Q))) (fun y hy => List.mem_append_right _ (List.mem_append_right _ hy))
  obtain ⟨q3, hq3⟩ := List.getElem?_of_mem hsm
  have hxa : some ((pvw P).getD k (pz0, [])).1.1 = some x.1.1 := by rw [pvw_get hk, ← hxe]
  have hPc : va_P D classes ([] ++ ([(h, .inr (11, [.ref rc, .ref d])), (rc, .inr (4, [.ref tp, .ref ln, .ref tb, .ref ct, .ref dp]))] ++ (tplr cO e0 tb lv pr P.length pmo pst P ++ Q))) s.heap := hP
  have hKc := hK.sub (tys' := [(cO, .object "java/lang/Object")]) [0] rfl
  refine z_cq (va_runV (As := [.int (nI k)]) (rest := []) ⟨hx, hb, hml, hown, hts⟩ (c_Tables_programmeAt l D cO ([(h, .inr (11, [.ref rc, .ref d])), (rc, .inr (4, [.ref tp, .ref ln, .ref tb, .ref ct, .ref dp]))] ++ (tplr cO e0 tb lv pr P.length pmo pst P ++ Q)) tb pr lv (pvw P) k hT9 (by rw [pvw_len]; exact hk)) (z_cV hN wd_832 wd_63 wd_829 hd_Tables_programmeAt rfl rfl ⟨Nat.le_of_ble_eq_true rfl, Nat.le_of_ble_eq_true rfl⟩ wd_830 wd_831) (z_preV (va_recv (ci := 8) (q0 := q0) hK hP rfl hq0) hPc hKc hN) rfl rfl hl.1 rfl (lv_room (Nat.le_of_ble_eq_true rfl)) d_SS_stream_8 ⟨Nat.le_of_ble_eq_true rfl, Nat.le_of_ble_eq_true rfl⟩) (fun r8 e8 => ?_)
  subst e8
  refine z_topq (w := some x.1.1) hxa ?_
  refine lv_astore_n (lv' := [(3, .ref x.1.1), (0, .ref h), (1, .int (nI k)), (2, .int i)]) hx hb d_SS_stream_11 rfl hl (by decide) rfl (fun ls hl => ?_)
  refine lv_aload_n hx hb d_SS_stream_12 rfl (lv_at hl 0 rfl) ?_
  refine lv_ifnonnull (tgt := 26) hx hb d_SS_stream_13 rfl ?_
  refine lv_iload_n hx hb d_SS_stream_26 rfl (lv_at hl 3 rfl) ?_
  refine lv_if_lt (tgt := 41) hx hb d_SS_stream_27 rfl (fun h27 => ?_) (fun h27 => ?_)
  · refine lv_iconst (v := (-1)) hx hb d_SS_stream_41 (by decide) ?_
    have hP9 := hP.part (cx := [(h, .inr (11, [.ref rc, .ref d])), (rc, .inr (4, [.ref tp, .ref ln, .ref tb, .ref ct, .ref dp]))]) [0, 1] rfl
    have hD9 := hD.part (cx := [(h, .inr (11, [.ref rc, .ref d])), (rc, .inr (4, [.ref tp, .ref ln, .ref tb, .ref ct, .ref dp]))]) [0, 1] (by decide) rfl
    have hK9 := hK.sub (tys' := [(cO, .object "java/lang/Object")]) [0] rfl
    refine W.widen (k := 1) (n := 6) (by omega) (by omega) ?_
    exact W.mono MQ.toT (W.iret (v := (-1)) hx hb hr (fun t ht hW => Or.inl ⟨_, (), rfl, rfl, ⟨by rw [ht]; exact hP9, va_K.moved hW.alike hK9, hD9⟩, hS.F ht⟩) hS.2.2 d_SS_stream_42)
  · refine lv_iload_n hx hb d_SS_stream_30 rfl (lv_at hl 3 rfl) ?_
    refine lv_aload_n hx hb d_SS_stream_31 rfl (lv_at hl 0 rfl) ?_
    refine va_getN (D := D) (ci := 7) (v := .ref x.1.2.2.2.2.2.1) (C := R_Programme) (T := F_Programme) (N := 8) hx hb hts i_Programme hown hK hP q1 hq1 rfl 4 (by decide) (hts _ wd_589) (fun _ h9 => h9) rfl d_SS_stream_32 ?_
    have hPc : va_P D classes [(x.1.2.2.2.2.2.1, .inr (12, [.ref sb, .int (nI x.2.1.length), .int smo]))] s.heap := z_Pm1 hsm hP
    have hKc := hK.sub (tys' := []) [] rfl
    refine z_ci (va_runV (As := []) (rest := [.int i]) ⟨hx, hb, hml, hown, hts⟩ (c_AL_size l D x.1.2.2.2.2.2.1 sb (nI x.2.1.length) smo ) (z_cV hN wd_305 wd_66 wd_820 hd_AL_size rfl rfl ⟨Nat.le_of_ble_eq_true rfl, Nat.le_of_ble_eq_true rfl⟩ wd_303 wd_304) (z_preV (va_recv (ci := 12) (q0 := q3) hK hP rfl hq3) hPc hKc hN) rfl rfl hl.1 rfl (lv_room (Nat.le_of_ble_eq_true rfl)) d_SS_stream_35 ⟨Nat.le_of_ble_eq_true rfl, Nat.le_of_ble_eq_true rfl⟩) (fun r35 e35 => ?_)
    refine z_topi (w := (nI x.2.1.length)) e35 ?_
    refine lv_icmp_lt (tgt := 43) hx hb d_SS_stream_38 rfl (fun h38 => ?_) (fun h38 => ?_)
    · exact absurd hj (fun z => z.elim h27 (fun q => q (by rw [← hxe]; exact h38)))
    · refine lv_iconst (v := (-1)) hx hb d_SS_stream_41 (by decide) ?_
      have hP9 := hP.part (cx := [(h, .inr (11, [.ref rc, .ref d])), (rc, .inr (4, [.ref tp, .ref ln, .ref tb, .ref ct, .ref dp]))]) [0, 1] rfl
      have hD9 := hD.part (cx := [(h, .inr (11, [.ref rc, .ref d])), (rc, .inr (4, [.ref tp, .ref ln, .ref tb, .ref ct, .ref dp]))]) [0, 1] (by decide) rfl
      have hK9 := hK.sub (tys' := [(cO, .object "java/lang/Object")]) [0] rfl
      refine W.widen (k := 1) (n := 6) (by omega) (by omega) ?_
      exact W.mono MQ.toT (W.iret (v := (-1)) hx hb hr (fun t ht hW => Or.inl ⟨_, (), rfl, rfl, ⟨by rw [ht]; exact hP9, va_K.moved hW.alike hK9, hD9⟩, hS.F ht⟩) hS.2.2 d_SS_stream_42)
