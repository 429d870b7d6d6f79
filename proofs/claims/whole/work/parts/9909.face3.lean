theorem wd_443 : (Jvm.Cond.fieldLinkNest "StreamSplitter" (159 : Nat) "StreamSplitter$Order" "time" "J" "StreamSplitter") ∈ lw_ok := List.mem_filter.mpr ⟨List.mem_of_getElem? (i := 443) (by decide +kernel), rfl⟩
theorem wd_446 : (Jvm.Cond.fieldLinkNest "StreamSplitter" (162 : Nat) "StreamSplitter$Order" "name" "I" "StreamSplitter") ∈ lw_ok := List.mem_filter.mpr ⟨List.mem_of_getElem? (i := 446) (by decide +kernel), rfl⟩
theorem wd_449 : (Jvm.Cond.fieldLinkNest "StreamSplitter" (167 : Nat) "StreamSplitter$Order" "away" "Z" "StreamSplitter") ∈ lw_ok := List.mem_filter.mpr ⟨List.mem_of_getElem? (i := 449) (by decide +kernel), rfl⟩
theorem wd_452 : (Jvm.Cond.fieldLinkNest "StreamSplitter" (168 : Nat) "StreamSplitter$Order" "length" "J" "StreamSplitter") ∈ lw_ok := List.mem_filter.mpr ⟨List.mem_of_getElem? (i := 452) (by decide +kernel), rfl⟩
theorem wd_860 : (Jvm.Cond.classLink "StreamSplitter" (157 : Nat) "StreamSplitter$Order") ∈ lw_ok := List.mem_filter.mpr ⟨List.mem_of_getElem? (i := 860) (by decide +kernel), rfl⟩
theorem wd_861 : (Jvm.Cond.constantLong "StreamSplitter" (165 : Nat) (4294967295 : Int64)) ∈ lw_ok := List.mem_filter.mpr ⟨List.mem_of_getElem? (i := 861) (by decide +kernel), rfl⟩
theorem d_SS_order_47 : decode b_SS_order 47 = .ok (.iload_n 2, 1) := by decide +kernel
theorem d_SS_order_48 : decode b_SS_order 48 = .ok (.ifCond .lt 15, 3) := by decide +kernel
theorem d_SS_order_51 : decode b_SS_order 51 = .ok (.iload_n 2, 1) := by decide +kernel
theorem d_SS_order_52 : decode b_SS_order 52 = .ok (.aload 4, 2) := by decide +kernel
theorem d_SS_order_54 : decode b_SS_order 54 = .ok (.getfield 135, 3) := by decide +kernel
theorem d_SS_order_57 : decode b_SS_order 57 = .ok (.invokevirtual 105, 3) := by decide +kernel
theorem d_SS_order_60 : decode b_SS_order 60 = .ok (.if_icmp .lt 7, 3) := by decide +kernel
theorem d_SS_order_63 : decode b_SS_order 63 = .ok (.ldc2_w 155, 3) := by decide +kernel
theorem d_SS_order_66 : decode b_SS_order 66 = .ok (.lreturn, 1) := by decide +kernel
theorem d_SS_order_67 : decode b_SS_order 67 = .ok (.aload 4, 2) := by decide +kernel
theorem d_SS_order_69 : decode b_SS_order 69 = .ok (.getfield 135, 3) := by decide +kernel
theorem d_SS_order_72 : decode b_SS_order 72 = .ok (.iload_n 2, 1) := by decide +kernel
theorem d_SS_order_73 : decode b_SS_order 73 = .ok (.invokevirtual 138, 3) := by decide +kernel
theorem d_SS_order_76 : decode b_SS_order 76 = .ok (.checkcast 157, 3) := by decide +kernel
theorem d_SS_order_79 : decode b_SS_order 79 = .ok (.astore 5, 2) := by decide +kernel
theorem d_SS_order_81 : decode b_SS_order 81 = .ok (.iload_n 3, 1) := by decide +kernel
theorem d_SS_order_82 : decode b_SS_order 82 = .ok (.tableswitch 57 0 2 #[26, 32, 43], 26) := by decide +kernel
theorem d_SS_order_108 : decode b_SS_order 108 = .ok (.aload 5, 2) := by decide +kernel
theorem d_SS_order_110 : decode b_SS_order 110 = .ok (.getfield 159, 3) := by decide +kernel
theorem d_SS_order_113 : decode b_SS_order 113 = .ok (.lreturn, 1) := by decide +kernel
theorem d_SS_order_114 : decode b_SS_order 114 = .ok (.aload 5, 2) := by decide +kernel
theorem d_SS_order_116 : decode b_SS_order 116 = .ok (.getfield 162, 3) := by decide +kernel
theorem d_SS_order_119 : decode b_SS_order 119 = .ok (.i2l, 1) := by decide +kernel
theorem d_SS_order_120 : decode b_SS_order 120 = .ok (.ldc2_w 165, 3) := by decide +kernel
theorem d_SS_order_123 : decode b_SS_order 123 = .ok (.land, 1) := by decide +kernel
theorem d_SS_order_124 : decode b_SS_order 124 = .ok (.lreturn, 1) := by decide +kernel
theorem d_SS_order_125 : decode b_SS_order 125 = .ok (.aload 5, 2) := by decide +kernel
theorem d_SS_order_127 : decode b_SS_order 127 = .ok (.getfield 167, 3) := by decide +kernel
theorem d_SS_order_130 : decode b_SS_order 130 = .ok (.ifCond .eq 7, 3) := by decide +kernel
theorem d_SS_order_133 : decode b_SS_order 133 = .ok (.lconst 1, 1) := by decide +kernel
theorem d_SS_order_134 : decode b_SS_order 134 = .ok (.goto 4, 3) := by decide +kernel
theorem d_SS_order_137 : decode b_SS_order 137 = .ok (.lconst 0, 1) := by decide +kernel
theorem d_SS_order_138 : decode b_SS_order 138 = .ok (.lreturn, 1) := by decide +kernel
theorem d_SS_order_139 : decode b_SS_order 139 = .ok (.aload 5, 2) := by decide +kernel
theorem d_SS_order_141 : decode b_SS_order 141 = .ok (.getfield 168, 3) := by decide +kernel
theorem d_SS_order_144 : decode b_SS_order 144 = .ok (.lreturn, 1) := by decide +kernel
/-! What is told of an order, of a piece -/
def odV (o : Int64 × Int32 × Int32 × Int64) (w : Nat) : Int64 := if w = 0 then o.1 else if w = 1 then o.2.1.toInt64 &&& 4294967295 else if w = 2 then (if o.2.2.1 = 0 then 0 else 1) else o.2.2.2
def pcV (q : PQ9) (w : Nat) : Int64 := if w = 0 then q.2.2.1.toInt64 else if w = 1 then q.2.2.2.1.toInt64 else if w = 2 then q.2.2.2.2.1 else if w = 3 then q.2.2.2.2.2.1.toInt64 else q.2.2.2.2.2.2.1.toInt64
def dbK (cn : Nat → Int32) (k : Int32) : Prop := ¬ k < 0 ∧ ¬ 16 ≤ k ∧ k < cn 9
theorem dp_mem {X Q : va_W} {dn : Nat → Option PQ9} {p : Nat} {q : PQ9} (hp : p < 16) (h : dn p = some q) : ∃ i : Nat, (X ++ (dpl dn ++ Q))[i]? = some (q.1, .inr (3, [.int q.2.1, .int q.2.2.1, .int q.2.2.2.1, .long q.2.2.2.2.1, .int q.2.2.2.2.2.1, .int q.2.2.2.2.2.2.1, .int q.2.2.2.2.2.2.2])) := by
  apply List.getElem?_of_mem
  refine List.mem_append_right _ (List.mem_append_left _ (List.mem_flatMap.mpr ⟨p, List.mem_range.mpr hp, ?_⟩))
  rw [h]
  exact List.mem_cons_self

set_option maxHeartbeats 4000000 in
set_option maxRecDepth 100000 in
theorem c_SS_order_ok (l : Launch) (D : va_G) (hfl : l.stackTraces = false) (B0 : State) (hG : zG B0) (sz : Nat) (h rc d tp ln ct dp : Nat) (cO : ClassId) (e0 tb pr : Nat) (lv pmo : Int32) (pst : Option (Nat × (Nat → Option Nat))) (P : List PR9) (Q : va_W) (k j w : Nat) (htk : tok Q cO pst P) (hk : k < P.length) (hj : j < (P.getD k pr9).2.2.1.length) (hw : w ≤ 3) : MetT l y_SS_order [Cond.code y_SS_order b_SS_order 6 (some .long)] ({ frames := 4, cells := 1, slots := 6, locals := 85 }) (zMo [.ref h, .int (nI k), .int (nI j), .int (nI w)] D ([(h, .inr (11, [.ref rc, .ref d])), (rc, .inr (4, [.ref tp, .ref ln, .ref tb, .ref ct, .ref dp]))] ++ (tplr cO e0 tb lv pr P.length pmo pst P ++ Q)) [(cO, .object "java/lang/Object")] sz B0) (zQl (fun r0 (_ : Unit) => r0 = odV ((P.getD k pr9).2.2.1.getD j (0, oz0)).2 w) (fun (_u : Unit) t => zW D (va_A ([(h, .inr (11, [.ref rc, .ref d])), (rc, .inr (4, [.ref tp, .ref ln, .ref tb, .ref ct, .ref dp]))] ++ (tplr cO e0 tb lv pr P.length pmo pst P ++ Q)) sz) ([(h, .inr (11, [.ref rc, .ref d])), (rc, .inr (4, [.ref tp, .ref ln, .ref tb, .ref ct, .ref dp]))] ++ (tplr cO e0 tb lv pr P.length pmo pst P ++ Q)) [(cO, .object "java/lang/Object")] t) (va_A ([(h, .inr (11, [.ref rc, .ref d])), (rc, .inr (4, [.ref tp, .ref ln, .ref tb, .ref ct, .ref dp]))] ++ (tplr cO e0 tb lv pr P.length pmo pst P ++ Q)) sz) (fun _ => False)) 1 6 (va_A ([(h, .inr (11, [.ref rc, .ref d])), (rc, .inr (4, [.ref tp, .ref ln, .ref tb, .ref ct, .ref dp]))] ++ (tplr cO e0 tb lv pr P.length pmo pst P ++ Q)) sz) := by
  refine MetT.ofW (cc := b_SS_order) (maxL := 6) (ret := (some .long)) (by decide) rfl ?_
  intro p e s m args below meth cd s₁ Bd hml hem hv
  obtain ⟨rfl, hsz, hP, hK, hN, hD0, hO⟩ := hv
  have hx := Bd.exec
  have hb := Bd.bytes
  have hr := Bd.returns
  have hts := hN.use (a := ([.ref h, .int (nI k), .int (nI j), .int (nI w)]).toArray)
  have hown : s.vm.findClass R_SS = some m.cls := findClass_of_methodNamed Bd.named
  have hlocks := Bd.notSynchronized
  subst hsz
  have hD := hD0.self (sz := s.heap.size)
  have hAO := z_AO hD0 hO
  clear hD0
  have hA : ∀ q : Nat, s.heap.size ≤ q → va_A ([(h, .inr (11, [.ref rc, .ref d])), (rc, .inr (4, [.ref tp, .ref ln, .ref tb, .ref ct, .ref dp]))] ++ (tplr cO e0 tb lv pr P.length pmo pst P ++ Q)) s.heap.size q := fun q h => Or.inr h
  have hS : va_S (va_A ([(h, .inr (11, [.ref rc, .ref d])), (rc, .inr (4, [.ref tp, .ref ln, .ref tb, .ref ct, .ref dp]))] ++ (tplr cO e0 tb lv pr P.length pmo pst P ++ Q)) s.heap.size) s.heap s.heap [] := va_S.rf
  generalize hAe : va_A ([(h, .inr (11, [.ref rc, .ref d])), (rc, .inr (4, [.ref tp, .ref ln, .ref tb, .ref ct, .ref dp]))] ++ (tplr cO e0 tb lv pr P.length pmo pst P ++ Q)) s.heap.size = A at hD hA hS hAO ⊢
  have hP : va_P D classes ([(h, .inr (11, [.ref rc, .ref d])), (rc, .inr (4, [.ref tp, .ref ln, .ref tb, .ref ct, .ref dp]))] ++ (tplr cO e0 tb lv pr P.length pmo pst P ++ Q)) s.heap := hP
  have hl := lv_entry ([.ref h, .int (nI k), .int (nI j), .int (nI w)]) (n := 6) (Nat.le_of_ble_eq_true rfl)
  rw [lg_entry_eq]
  generalize (lg_sl ([.ref h, .int (nI k), .int (nI j), .int (nI w)]) ++ List.replicate (6 - (lg_sl ([.ref h, .int (nI k), .int (nI j), .int (nI w)])).length) Slot.unset).toArray = ls at hl ⊢
  have hl : lv_has ls 6 [(0, .ref h), (1, .int (nI k)), (2, .int (nI j)), (3, .int (nI w))] := hl
  refine lv_iload_n hx hb d_SS_order_0 rfl (lv_at hl 3 rfl) ?_
  refine lv_if_lt (tgt := 9) hx hb d_SS_order_1 rfl (fun h9 => absurd h9 (nI_pos (by omega))) (fun h1 => ?_)
  refine lv_iload_n hx hb d_SS_order_4 rfl (lv_at hl 3 rfl) ?_
  refine lv_iconst (v := 3) hx hb d_SS_order_5 (by decide) ?_
  refine lv_icmp_le (tgt := 19) hx hb d_SS_order_6 rfl (fun h6 => ?_) (fun h9 => absurd (nI_le (a := w) (b := 3) hw (by decide)) h9)
  refine lv_aload_n hx hb d_SS_order_19 rfl (lv_at hl 0 rfl) ?_
  refine va_get (D := D) (ci := 11) (v := .ref rc) (C := R_SS) (T := F_SS) (N := 2) hx hb hts i_SS hown hK hP 0 rfl rfl 0 (by decide) (hts _ wd_198) (fun _ h9 => h9) rfl d_SS_order_20 ?_
  refine va_getN (D := D) (ci := 4) (v := .ref tb) (C := R_Receiver) (T := F_Receiver) (N := 5) hx hb hts i_Receiver hown hK hP 1 rfl rfl 2 (by decide) (hts _ wd_180) (fun _ h9 => h9) rfl d_SS_order_23 ?_
  refine lv_iload_n hx hb d_SS_order_26 rfl (lv_at hl 1 rfl) ?_
  have hT9 := tok_isT (X := [(h, .inr (11, [.ref rc, .ref d])), (rc, .inr (4, [.ref tp, .ref ln, .ref tb, .ref ct, .ref dp]))]) (e0 := e0) (tb := tb) (pr := pr) (lv := lv) (pmo := pmo) htk
  obtain ⟨q0, hq0⟩ : ∃ q0 : Nat, ([(h, .inr (11, [.ref rc, .ref d])), (rc, .inr (4, [.ref tp, .ref ln, .ref tb, .ref ct, .ref dp]))] ++ (tplr cO e0 tb lv pr P.length pmo pst P ++ Q))[q0]? = some (tb, .inr (8, [.int lv, .ref pr])) := ⟨2, rfl⟩
  obtain ⟨x, hxe⟩ : ∃ x : PR9, x = P.getD k pr9 := ⟨_, rfl⟩
  have hxm := p_mem hk
  have hpk := htk.2.2 _ hxm
  rw [← hxe] at hpk hxm
  have hpm : (x.1.1, pgE x.1) ∈ ([(h, .inr (11, [.ref rc, .ref d])), (rc, .inr (4, [.ref tp, .ref ln, .ref tb, .ref ct, .ref dp]))] ++ (tplr cO e0 tb lv pr P.length pmo pst P ++ Q)) := tp_memP hxm List.mem_cons_self
  obtain ⟨q1, hq1⟩ := List.getElem?_of_mem hpm
  obtain ⟨wb, hwb⟩ := wl_mem cO e0 x.1.2.2.2.2.2.2.2.2 x.2.2.1.length x.2.2.2.1 x.2.2.2.2
  have hwm : (x.1.2.2.2.2.2.2.2.2, alE wb x.2.2.1.length x.2.2.2.1) ∈ ([(h, .inr (11, [.ref rc, .ref d])), (rc, .inr (4, [.ref tp, .ref ln, .ref tb, .ref ct, .ref dp]))] ++ (tplr cO e0 tb lv pr P.length pmo pst P ++ Q)) := tp_memP hxm (List.mem_cons_of_mem _ hwb)
  obtain ⟨q2, hq2⟩ := List.getElem?_of_mem hwm
  obtain ⟨sb, smo, sg, ⟨hsm, hs6, hsa⟩, hsE⟩ := isS_mono hpk.2.1 (Q2 := ([(h, .inr (11, [.ref rc, .ref d])), (rc, .inr (4, [.ref tp, .ref ln, .ref tb, .ref ct, .ref dp]))] ++ (tplr cO e0 tb lv pr P.length pmo pst P ++ Q))) (fun y hy => List.mem_append_right _ (List.mem_append_right _ hy))
  obtain ⟨q3, hq3⟩ := List.getElem?_of_mem hsm
  have hxa : some ((pvw P).getD k (pz0, [])).1.1 = some x.1.1 := by rw [pvw_get hk, ← hxe]
  have hPc : va_P D classes ([] ++ ([(h, .inr (11, [.ref rc, .ref d])), (rc, .inr (4, [.ref tp, .ref ln, .ref tb, .ref ct, .ref dp]))] ++ (tplr cO e0 tb lv pr P.length pmo pst P ++ Q))) s.heap := hP
  have hKc := hK.sub (tys' := [(cO, .object "java/lang/Object")]) [0] rfl
  refine z_cq (va_runV (As := [.int (nI k)]) (rest := []) ⟨hx, hb, hml, hown, hts⟩ (c_Tables_programmeAt l D cO ([(h, .inr (11, [.ref rc, .ref d])), (rc, .inr (4, [.ref tp, .ref ln, .ref tb, .ref ct, .ref dp]))] ++ (tplr cO e0 tb lv pr P.length pmo pst P ++ Q)) tb pr lv (pvw P) k hT9 (by rw [pvw_len]; exact hk)) (z_cV hN wd_832 wd_63 wd_829 hd_Tables_programmeAt rfl rfl ⟨Nat.le_of_ble_eq_true rfl, Nat.le_of_ble_eq_true rfl⟩ wd_830 wd_831) (z_preV (va_recv (ci := 8) (q0 := q0) hK hP rfl hq0) hPc hKc hN) rfl rfl hl.1 rfl (lv_room (Nat.le_of_ble_eq_true rfl)) d_SS_order_27 ⟨Nat.le_of_ble_eq_true rfl, Nat.le_of_ble_eq_true rfl⟩) (fun r27 e27 => ?_)
  subst e27
  refine z_topq (w := some x.1.1) hxa ?_
  refine lv_astore (lv' := [(4, .ref x.1.1), (0, .ref h), (1, .int (nI k)), (2, .int (nI j)), (3, .int (nI w))]) hx hb d_SS_order_30 hl (by decide) rfl (fun ls hl => ?_)
  refine lv_aload hx hb d_SS_order_32 (lv_at hl 0 rfl) ?_
  refine lv_ifnonnull (tgt := 47) hx hb d_SS_order_34 rfl ?_
  refine lv_iload_n hx hb d_SS_order_47 rfl (lv_at hl 3 rfl) ?_
  have hj9 : j < x.2.2.1.length := by rw [hxe]; exact hj
  have hj6 := hpk.2.2.2.1
  refine lv_if_lt (tgt := 63) hx hb d_SS_order_48 rfl (fun h9 => absurd h9 (nI_pos (by omega))) (fun h48 => ?_)
  refine lv_iload_n hx hb d_SS_order_51 rfl (lv_at hl 3 rfl) ?_
  refine lv_aload hx hb d_SS_order_52 (lv_at hl 0 rfl) ?_
  refine va_getN (D := D) (ci := 7) (v := .ref x.1.2.2.2.2.2.2.2.2) (C := R_Programme) (T := F_Programme) (N := 8) hx hb hts i_Programme hown hK hP q1 hq1 rfl 7 (by decide) (hts _ wd_596) (fun _ h9 => h9) rfl d_SS_order_54 ?_
  have hPc : va_P D classes [(x.1.2.2.2.2.2.2.2.2, .inr (12, [.ref wb, .int (nI x.2.2.1.length), .int x.2.2.2.1]))] s.heap := z_Pm1 hwm hP
  have hKc := hK.sub (tys' := []) [] rfl
  refine z_ci (va_runV (As := []) (rest := [.int (nI j)]) ⟨hx, hb, hml, hown, hts⟩ (c_AL_size l D x.1.2.2.2.2.2.2.2.2 wb (nI x.2.2.1.length) x.2.2.2.1 ) (z_cV hN wd_305 wd_66 wd_820 hd_AL_size rfl rfl ⟨Nat.le_of_ble_eq_true rfl, Nat.le_of_ble_eq_true rfl⟩ wd_303 wd_304) (z_preV (va_recv (ci := 12) (q0 := q2) hK hP rfl hq2) hPc hKc hN) rfl rfl hl.1 rfl (lv_room (Nat.le_of_ble_eq_true rfl)) d_SS_order_57 ⟨Nat.le_of_ble_eq_true rfl, Nat.le_of_ble_eq_true rfl⟩) (fun r57 e57 => ?_)
  refine z_topi (w := (nI x.2.2.1.length)) e57 ?_
  refine lv_icmp_lt (tgt := 67) hx hb d_SS_order_60 rfl (fun h60 => ?_) (fun h9 => absurd (nI_lt hj9 (by omega)) h9)
  refine lv_aload hx hb d_SS_order_67 (lv_at hl 0 rfl) ?_
  refine va_getN (D := D) (ci := 7) (v := .ref x.1.2.2.2.2.2.2.2.2) (C := R_Programme) (T := F_Programme) (N := 8) hx hb hts i_Programme hown hK hP q1 hq1 rfl 7 (by decide) (hts _ wd_596) (fun _ h9 => h9) rfl d_SS_order_69 ?_
  refine lv_iload_n hx hb d_SS_order_72 rfl (lv_at hl 3 rfl) ?_
  obtain ⟨wb2, wmo, wg, ⟨hwm2, hw62, hwa⟩, hwE⟩ : isW ([(h, .inr (11, [.ref rc, .ref d])), (rc, .inr (4, [.ref tp, .ref ln, .ref tb, .ref ct, .ref dp]))] ++ (tplr cO e0 tb lv pr P.length pmo pst P ++ Q)) cO x.1.2.2.2.2.2.2.2.2 x.2.2.1 := isW_mono (show isW (wlc cO e0 x.1.2.2.2.2.2.2.2.2 x.2.2.1.length x.2.2.2.1 x.2.2.2.2 ++ Q) cO x.1.2.2.2.2.2.2.2.2 x.2.2.1 from wk_isW (X := []) hpk.2.2.1 hpk.2.2.2.1) (fun y hy => by rcases List.mem_append.mp hy with q | q; exact tp_memP hxm (List.mem_cons_of_mem _ q); exact List.mem_append_right _ (List.mem_append_right _ q))
  obtain ⟨q5, hq5⟩ := List.getElem?_of_mem hwm2
  obtain ⟨hga, ham⟩ := hwE j hj9
  obtain ⟨q4, hq4⟩ := List.getElem?_of_mem ham
  have hPc : va_P D classes [(x.1.2.2.2.2.2.2.2.2, .inr (12, [.ref wb2, .int (nI x.2.2.1.length), .int wmo])), (wb2, .inl (cO, 10, .inr (.inr (.inr (.inr wg)))))] s.heap := z_Pm2 hwm2 (hwa.resolve_left (by omega)) hP
  have hKc := hK.sub (tys' := [(cO, .object "java/lang/Object")]) [0] rfl
  refine z_cq (va_runV (As := [.int (nI j)]) (rest := []) ⟨hx, hb, hml, hown, hts⟩ (c_AL_get l D cO x.1.2.2.2.2.2.2.2.2 wb2 x.2.2.1.length wmo wg j hj9 (by omega)) (z_cV hN wd_309 wd_66 wd_841 hd_AL_get rfl rfl ⟨Nat.le_of_ble_eq_true rfl, Nat.le_of_ble_eq_true rfl⟩ wd_307 wd_308) (z_preV (va_recv (ci := 12) (q0 := q2) hK hP rfl hq2) hPc hKc hN) rfl rfl hl.1 rfl (lv_room (Nat.le_of_ble_eq_true rfl)) d_SS_order_73 ⟨Nat.le_of_ble_eq_true rfl, Nat.le_of_ble_eq_true rfl⟩) (fun r73 e73 => ?_)
  subst e73
  refine z_topq (w := some ((x.2.2.1.getD j (0, oz0)).1)) hga ?_
  refine va_castY hx hb hown (hts _ wd_860) (hN _ wd_1487) (va_recv (ci := 6) (q0 := q4) hK hP rfl hq4) d_SS_order_76 ?_
  refine lv_astore (lv' := [(5, .ref ((x.2.2.1.getD j (0, oz0)).1)), (4, .ref x.1.1), (0, .ref h), (1, .int (nI k)), (2, .int (nI j)), (3, .int (nI w))]) hx hb d_SS_order_79 hl (by decide) rfl (fun ls hl => ?_)
  refine lv_iload_n hx hb d_SS_order_81 rfl (lv_at hl 5 rfl) ?_
  by_cases hs0 : w = 0
  · subst hs0
    refine lv_tableIn (tgt := 108) hx hb d_SS_order_82 (by decide) (by decide) rfl rfl ?_
    refine lv_aload hx hb d_SS_order_108 (lv_at hl 0 rfl) ?_
    refine va_getN (D := D) (ci := 6) (v := .long ((x.2.2.1.getD j (0, oz0)).2.1)) (C := R_Order) (T := F_Order) (N := 4) hx hb hts i_Order hown hK hP q4 hq4 rfl 0 (by decide) (hts _ wd_443) (fun _ h9 => h9) rfl d_SS_order_110 ?_
    have hP9 := hP.part (cx := [(h, .inr (11, [.ref rc, .ref d])), (rc, .inr (4, [.ref tp, .ref ln, .ref tb, .ref ct, .ref dp]))]) [0, 1] rfl
    have hD9 := hD.part (cx := [(h, .inr (11, [.ref rc, .ref d])), (rc, .inr (4, [.ref tp, .ref ln, .ref tb, .ref ct, .ref dp]))]) [0, 1] (by decide) rfl
    have hK9 := hK.sub (tys' := [(cO, .object "java/lang/Object")]) [0] rfl
    refine W.widen (k := 1) (n := 6) (by omega) (by omega) ?_
    exact W.mono MQ.toT (W.lret (v := ((x.2.2.1.getD j (0, oz0)).2.1)) hx hb hr (fun t ht hW => Or.inl ⟨_, (), rfl, (by dsimp only; rw [← hxe]; rfl), ⟨by rw [ht]; exact hP9, va_K.moved hW.alike hK9, hD9⟩, hS.F ht⟩) hS.2.2 d_SS_order_113)
  by_cases hs1 : w = 1
  · subst hs1
    refine lv_tableIn (tgt := 114) hx hb d_SS_order_82 (by decide) (by decide) rfl rfl ?_
    refine lv_aload hx hb d_SS_order_114 (lv_at hl 0 rfl) ?_
    refine va_getN (D := D) (ci := 6) (v := .int ((x.2.2.1.getD j (0, oz0)).2.2.1)) (C := R_Order) (T := F_Order) (N := 4) hx hb hts i_Order hown hK hP q4 hq4 rfl 1 (by decide) (hts _ wd_446) (fun _ h9 => h9) rfl d_SS_order_116 ?_
    refine lv_i2l (v := ((x.2.2.1.getD j (0, oz0)).2.2.1).toInt64) hx hb d_SS_order_119 rfl ?_
    refine lv_ldc2 hx hb hown (hts _ wd_861) d_SS_order_120 ?_
    refine lv_land hx hb d_SS_order_123 ?_
    have hP9 := hP.part (cx := [(h, .inr (11, [.ref rc, .ref d])), (rc, .inr (4, [.ref tp, .ref ln, .ref tb, .ref ct, .ref dp]))]) [0, 1] rfl
    have hD9 := hD.part (cx := [(h, .inr (11, [.ref rc, .ref d])), (rc, .inr (4, [.ref tp, .ref ln, .ref tb, .ref ct, .ref dp]))]) [0, 1] (by decide) rfl
    have hK9 := hK.sub (tys' := [(cO, .object "java/lang/Object")]) [0] rfl
    refine W.widen (k := 1) (n := 6) (by omega) (by omega) ?_
    exact W.mono MQ.toT (W.lret (v := ((((x.2.2.1.getD j (0, oz0)).2.2.1).toInt64) &&& 4294967295)) hx hb hr (fun t ht hW => Or.inl ⟨_, (), rfl, (by dsimp only; rw [← hxe]; rfl), ⟨by rw [ht]; exact hP9, va_K.moved hW.alike hK9, hD9⟩, hS.F ht⟩) hS.2.2 d_SS_order_124)
  by_cases hs2 : w = 2
  · subst hs2
    refine lv_tableIn (tgt := 125) hx hb d_SS_order_82 (by decide) (by decide) rfl rfl ?_
    refine lv_aload hx hb d_SS_order_125 (lv_at hl 0 rfl) ?_
    refine va_getN (D := D) (ci := 6) (v := .int ((x.2.2.1.getD j (0, oz0)).2.2.2.1)) (C := R_Order) (T := F_Order) (N := 4) hx hb hts i_Order hown hK hP q4 hq4 rfl 2 (by decide) (hts _ wd_449) (fun _ h9 => h9) rfl d_SS_order_127 ?_
    refine lv_if_eq (tgt := 137) hx hb d_SS_order_130 rfl (fun h130 => ?_) (fun h130 => ?_)
    · refine lv_lconst (v := 0) hx hb d_SS_order_137 (by decide) ?_
      have hP9 := hP.part (cx := [(h, .inr (11, [.ref rc, .ref d])), (rc, .inr (4, [.ref tp, .ref ln, .ref tb, .ref ct, .ref dp]))]) [0, 1] rfl
      have hD9 := hD.part (cx := [(h, .inr (11, [.ref rc, .ref d])), (rc, .inr (4, [.ref tp, .ref ln, .ref tb, .ref ct, .ref dp]))]) [0, 1] (by decide) rfl
      have hK9 := hK.sub (tys' := [(cO, .object "java/lang/Object")]) [0] rfl
      refine W.widen (k := 1) (n := 6) (by omega) (by omega) ?_
      exact W.mono MQ.toT (W.lret (v := 0) hx hb hr (fun t ht hW => Or.inl ⟨_, (), rfl, (by dsimp only; rw [← hxe]; first | exact (if_pos h130).symm | exact (if_neg h130).symm), ⟨by rw [ht]; exact hP9, va_K.moved hW.alike hK9, hD9⟩, hS.F ht⟩) hS.2.2 d_SS_order_138)
    · refine lv_lconst (v := 1) hx hb d_SS_order_133 (by decide) ?_
      refine lv_goto (tgt := 138) hx hb d_SS_order_134 rfl ?_
      have hP9 := hP.part (cx := [(h, .inr (11, [.ref rc, .ref d])), (rc, .inr (4, [.ref tp, .ref ln, .ref tb, .ref ct, .ref dp]))]) [0, 1] rfl
      have hD9 := hD.part (cx := [(h, .inr (11, [.ref rc, .ref d])), (rc, .inr (4, [.ref tp, .ref ln, .ref tb, .ref ct, .ref dp]))]) [0, 1] (by decide) rfl
      have hK9 := hK.sub (tys' := [(cO, .object "java/lang/Object")]) [0] rfl
      refine W.widen (k := 1) (n := 6) (by omega) (by omega) ?_
      exact W.mono MQ.toT (W.lret (v := 1) hx hb hr (fun t ht hW => Or.inl ⟨_, (), rfl, (by dsimp only; rw [← hxe]; first | exact (if_pos h130).symm | exact (if_neg h130).symm), ⟨by rw [ht]; exact hP9, va_K.moved hW.alike hK9, hD9⟩, hS.F ht⟩) hS.2.2 d_SS_order_138)
  obtain rfl : w = 3 := by omega
  refine lv_tableOut (tgt := 139) hx hb d_SS_order_82 (by decide) rfl ?_
  refine lv_aload hx hb d_SS_order_139 (lv_at hl 0 rfl) ?_
  refine va_getN (D := D) (ci := 6) (v := .long ((x.2.2.1.getD j (0, oz0)).2.2.2.2)) (C := R_Order) (T := F_Order) (N := 4) hx hb hts i_Order hown hK hP q4 hq4 rfl 3 (by decide) (hts _ wd_452) (fun _ h9 => h9) rfl d_SS_order_141 ?_
  have hP9 := hP.part (cx := [(h, .inr (11, [.ref rc, .ref d])), (rc, .inr (4, [.ref tp, .ref ln, .ref tb, .ref ct, .ref dp]))]) [0, 1] rfl
  have hD9 := hD.part (cx := [(h, .inr (11, [.ref rc, .ref d])), (rc, .inr (4, [.ref tp, .ref ln, .ref tb, .ref ct, .ref dp]))]) [0, 1] (by decide) rfl
  have hK9 := hK.sub (tys' := [(cO, .object "java/lang/Object")]) [0] rfl
  refine W.widen (k := 1) (n := 6) (by omega) (by omega) ?_
  exact W.mono MQ.toT (W.lret (v := ((x.2.2.1.getD j (0, oz0)).2.2.2.2)) hx hb hr (fun t ht hW => Or.inl ⟨_, (), rfl, (by dsimp only; rw [← hxe]; rfl), ⟨by rw [ht]; exact hP9, va_K.moved hW.alike hK9, hD9⟩, hS.F ht⟩) hS.2.2 d_SS_order_144)
set_option maxHeartbeats 4000000 in
set_option maxRecDepth 100000 in
theorem c_SS_order_none (l : Launch) (D : va_G) (hfl : l.stackTraces = false) (B0 : State) (hG : zG B0) (sz : Nat) (h rc d tp ln ct dp : Nat) (cO : ClassId) (e0 tb pr : Nat) (lv pmo : Int32) (pst : Option (Nat × (Nat → Option Nat))) (P : List PR9) (Q : va_W) (k : Nat) (i w : Int32) (htk : tok Q cO pst P) (hk : k < P.length) (hj : i < 0 ∨ ¬ i < nI (P.getD k pr9).2.2.1.length) (h0 : ¬ w < 0) (h3 : ¬ 3 < w) : MetT l y_SS_order [Cond.code y_SS_order b_SS_order 6 (some .long)] ({ frames := 4, cells := 1, slots := 6, locals := 85 }) (zMo [.ref h, .int (nI k), .int i, .int w] D ([(h, .inr (11, [.ref rc, .ref d])), (rc, .inr (4, [.ref tp, .ref ln, .ref tb, .ref ct, .ref dp]))] ++ (tplr cO e0 tb lv pr P.length pmo pst P ++ Q)) [(cO, .object "java/lang/Object")] sz B0) (zQl (fun r0 (_ : Unit) => r0 = -1) (fun (_u : Unit) t => zW D (va_A ([(h, .inr (11, [.ref rc, .ref d])), (rc, .inr (4, [.ref tp, .ref ln, .ref tb, .ref ct, .ref dp]))] ++ (tplr cO e0 tb lv pr P.length pmo pst P ++ Q)) sz) ([(h, .inr (11, [.ref rc, .ref d])), (rc, .inr (4, [.ref tp, .ref ln, .ref tb, .ref ct, .ref dp]))] ++ (tplr cO e0 tb lv pr P.length pmo pst P ++ Q)) [(cO, .object "java/lang/Object")] t) (va_A ([(h, .inr (11, [.ref rc, .ref d])), (rc, .inr (4, [.ref tp, .ref ln, .ref tb, .ref ct, .ref dp]))] ++ (tplr cO e0 tb lv pr P.length pmo pst P ++ Q)) sz) (fun _ => False)) 1 6 (va_A ([(h, .inr (11, [.ref rc, .ref d])), (rc, .inr (4, [.ref tp, .ref ln, .ref tb, .ref ct, .ref dp]))] ++ (tplr cO e0 tb lv pr P.length pmo pst P ++ Q)) sz) := by
  refine MetT.ofW (cc := b_SS_order) (maxL := 6) (ret := (some .long)) (by decide) rfl ?_
  intro p e s m args below meth cd s₁ Bd hml hem hv
  obtain ⟨rfl, hsz, hP, hK, hN, hD0, hO⟩ := hv
  have hx := Bd.exec
  have hb := Bd.bytes
  have hr := Bd.returns
  have hts := hN.use (a := ([.ref h, .int (nI k), .int i, .int w]).toArray)
  have hown : s.vm.findClass R_SS = some m.cls := findClass_of_methodNamed Bd.named
  have hlocks := Bd.notSynchronized
  subst hsz
  have hD := hD0.self (sz := s.heap.size)
  have hAO := z_AO hD0 hO
  clear hD0
  have hA : ∀ q : Nat, s.heap.size ≤ q → va_A ([(h, .inr (11, [.ref rc, .ref d])), (rc, .inr (4, [.ref tp, .ref ln, .ref tb, .ref ct, .ref dp]))] ++ (tplr cO e0 tb lv pr P.length pmo pst P ++ Q)) s.heap.size q := fun q h => Or.inr h
  have hS : va_S (va_A ([(h, .inr (11, [.ref rc, .ref d])), (rc, .inr (4, [.ref tp, .ref ln, .ref tb, .ref ct, .ref dp]))] ++ (tplr cO e0 tb lv pr P.length pmo pst P ++ Q)) s.heap.size) s.heap s.heap [] := va_S.rf
  generalize hAe : va_A ([(h, .inr (11, [.ref rc, .ref d])), (rc, .inr (4, [.ref tp, .ref ln, .ref tb, .ref ct, .ref dp]))] ++ (tplr cO e0 tb lv pr P.length pmo pst P ++ Q)) s.heap.size = A at hD hA hS hAO ⊢
  have hP : va_P D classes ([(h, .inr (11, [.ref rc, .ref d])), (rc, .inr (4, [.ref tp, .ref ln, .ref tb, .ref ct, .ref dp]))] ++ (tplr cO e0 tb lv pr P.length pmo pst P ++ Q)) s.heap := hP
  have hl := lv_entry ([.ref h, .int (nI k), .int i, .int w]) (n := 6) (Nat.le_of_ble_eq_true rfl)
  rw [lg_entry_eq]
  generalize (lg_sl ([.ref h, .int (nI k), .int i, .int w]) ++ List.replicate (6 - (lg_sl ([.ref h, .int (nI k), .int i, .int w])).length) Slot.unset).toArray = ls at hl ⊢
  have hl : lv_has ls 6 [(0, .ref h), (1, .int (nI k)), (2, .int i), (3, .int w)] := hl
  refine lv_iload_n hx hb d_SS_order_0 rfl (lv_at hl 3 rfl) ?_
  refine lv_if_lt (tgt := 9) hx hb d_SS_order_1 rfl (fun h9 => absurd h9 h0) (fun h1 => ?_)
  refine lv_iload_n hx hb d_SS_order_4 rfl (lv_at hl 3 rfl) ?_
  refine lv_iconst (v := 3) hx hb d_SS_order_5 (by decide) ?_
  refine lv_icmp_le (tgt := 19) hx hb d_SS_order_6 rfl (fun h6 => ?_) (fun h9 => absurd (Int32.not_le.mp h9) h3)
  refine lv_aload_n hx hb d_SS_order_19 rfl (lv_at hl 0 rfl) ?_
  refine va_get (D := D) (ci := 11) (v := .ref rc) (C := R_SS) (T := F_SS) (N := 2) hx hb hts i_SS hown hK hP 0 rfl rfl 0 (by decide) (hts _ wd_198) (fun _ h9 => h9) rfl d_SS_order_20 ?_
  refine va_getN (D := D) (ci := 4) (v := .ref tb) (C := R_Receiver) (T := F_Receiver) (N := 5) hx hb hts i_Receiver hown hK hP 1 rfl rfl 2 (by decide) (hts _ wd_180) (fun _ h9 => h9) rfl d_SS_order_23 ?_
  refine lv_iload_n hx hb d_SS_order_26 rfl (lv_at hl 1 rfl) ?_
  have hT9 := tok_isT (X := [(h, .inr (11, [.ref rc, .ref d])), (rc, .inr (4, [.ref tp, .ref ln, .ref tb, .ref ct, .ref dp]))]) (e0 := e0) (tb := tb) (pr := pr) (lv := lv) (pmo := pmo) htk
  obtain ⟨q0, hq0⟩ : ∃ q0 : Nat, ([(h, .inr (11, [.ref rc, .ref d])), (rc, .inr (4, [.ref tp, .ref ln, .ref tb, .ref ct, .ref dp]))] ++ (tplr cO e0 tb lv pr P.length pmo pst P ++ Q))[q0]? = some (tb, .inr (8, [.int lv, .ref pr])) := ⟨2, rfl⟩
  obtain ⟨x, hxe⟩ : ∃ x : PR9, x = P.getD k pr9 := ⟨_, rfl⟩
  have hxm := p_mem hk
  have hpk := htk.2.2 _ hxm
  rw [← hxe] at hpk hxm
  have hpm : (x.1.1, pgE x.1) ∈ ([(h, .inr (11, [.ref rc, .ref d])), (rc, .inr (4, [.ref tp, .ref ln, .ref tb, .ref ct, .ref dp]))] ++ (tplr cO e0 tb lv pr P.length pmo pst P ++ Q)) := tp_memP hxm List.mem_cons_self
  obtain ⟨q1, hq1⟩ := List.getElem?_of_mem hpm
  obtain ⟨wb, hwb⟩ := wl_mem cO e0 x.1.2.2.2.2.2.2.2.2 x.2.2.1.length x.2.2.2.1 x.2.2.2.2
  have hwm : (x.1.2.2.2.2.2.2.2.2, alE wb x.2.2.1.length x.2.2.2.1) ∈ ([(h, .inr (11, [.ref rc, .ref d])), (rc, .inr (4, [.ref tp, .ref ln, .ref tb, .ref ct, .ref dp]))] ++ (tplr cO e0 tb lv pr P.length pmo pst P ++ Q)) := tp_memP hxm (List.mem_cons_of_mem _ hwb)
  obtain ⟨q2, hq2⟩ := List.getElem?_of_mem hwm
  obtain ⟨sb, smo, sg, ⟨hsm, hs6, hsa⟩, hsE⟩ := isS_mono hpk.2.1 (Q2 := ([(h, .inr (11, [.ref rc, .ref d])), (rc, .inr (4, [.ref tp, .ref ln, .ref tb, .ref ct, .ref dp]))] ++ (tplr cO e0 tb lv pr P.length pmo pst P ++ Q))) (fun y hy => List.mem_append_right _ (List.mem_append_right _ hy))
  obtain ⟨q3, hq3⟩ := List.getElem?_of_mem hsm
  have hxa : some ((pvw P).getD k (pz0, [])).1.1 = some x.1.1 := by rw [pvw_get hk, ← hxe]
  have hPc : va_P D classes ([] ++ ([(h, .inr (11, [.ref rc, .ref d])), (rc, .inr (4, [.ref tp, .ref ln, .ref tb, .ref ct, .ref dp]))] ++ (tplr cO e0 tb lv pr P.length pmo pst P ++ Q))) s.heap := hP
  have hKc := hK.sub (tys' := [(cO, .object "java/lang/Object")]) [0] rfl
  refine z_cq (va_runV (As := [.int (nI k)]) (rest := []) ⟨hx, hb, hml, hown, hts⟩ (c_Tables_programmeAt l D cO ([(h, .inr (11, [.ref rc, .ref d])), (rc, .inr (4, [.ref tp, .ref ln, .ref tb, .ref ct, .ref dp]))] ++ (tplr cO e0 tb lv pr P.length pmo pst P ++ Q)) tb pr lv (pvw P) k hT9 (by rw [pvw_len]; exact hk)) (z_cV hN wd_832 wd_63 wd_829 hd_Tables_programmeAt rfl rfl ⟨Nat.le_of_ble_eq_true rfl, Nat.le_of_ble_eq_true rfl⟩ wd_830 wd_831) (z_preV (va_recv (ci := 8) (q0 := q0) hK hP rfl hq0) hPc hKc hN) rfl rfl hl.1 rfl (lv_room (Nat.le_of_ble_eq_true rfl)) d_SS_order_27 ⟨Nat.le_of_ble_eq_true rfl, Nat.le_of_ble_eq_true rfl⟩) (fun r27 e27 => ?_)
  subst e27
  refine z_topq (w := some x.1.1) hxa ?_
  refine lv_astore (lv' := [(4, .ref x.1.1), (0, .ref h), (1, .int (nI k)), (2, .int i), (3, .int w)]) hx hb d_SS_order_30 hl (by decide) rfl (fun ls hl => ?_)
  refine lv_aload hx hb d_SS_order_32 (lv_at hl 0 rfl) ?_
  refine lv_ifnonnull (tgt := 47) hx hb d_SS_order_34 rfl ?_
  refine lv_iload_n hx hb d_SS_order_47 rfl (lv_at hl 3 rfl) ?_
  refine lv_if_lt (tgt := 63) hx hb d_SS_order_48 rfl (fun h48 => ?_) (fun h48 => ?_)
  · refine lv_ldc2 hx hb hown (hts _ wd_859) d_SS_order_63 ?_
    have hP9 := hP.part (cx := [(h, .inr (11, [.ref rc, .ref d])), (rc, .inr (4, [.ref tp, .ref ln, .ref tb, .ref ct, .ref dp]))]) [0, 1] rfl
    have hD9 := hD.part (cx := [(h, .inr (11, [.ref rc, .ref d])), (rc, .inr (4, [.ref tp, .ref ln, .ref tb, .ref ct, .ref dp]))]) [0, 1] (by decide) rfl
    have hK9 := hK.sub (tys' := [(cO, .object "java/lang/Object")]) [0] rfl
    refine W.widen (k := 1) (n := 6) (by omega) (by omega) ?_
    exact W.mono MQ.toT (W.lret (v := (-1)) hx hb hr (fun t ht hW => Or.inl ⟨_, (), rfl, rfl, ⟨by rw [ht]; exact hP9, va_K.moved hW.alike hK9, hD9⟩, hS.F ht⟩) hS.2.2 d_SS_order_66)
  · refine lv_iload_n hx hb d_SS_order_51 rfl (lv_at hl 3 rfl) ?_
    refine lv_aload hx hb d_SS_order_52 (lv_at hl 0 rfl) ?_
    refine va_getN (D := D) (ci := 7) (v := .ref x.1.2.2.2.2.2.2.2.2) (C := R_Programme) (T := F_Programme) (N := 8) hx hb hts i_Programme hown hK hP q1 hq1 rfl 7 (by decide) (hts _ wd_596) (fun _ h9 => h9) rfl d_SS_order_54 ?_
    have hPc : va_P D classes [(x.1.2.2.2.2.2.2.2.2, .inr (12, [.ref wb, .int (nI x.2.2.1.length), .int x.2.2.2.1]))] s.heap := z_Pm1 hwm hP
    have hKc := hK.sub (tys' := []) [] rfl
    refine z_ci (va_runV (As := []) (rest := [.int i]) ⟨hx, hb, hml, hown, hts⟩ (c_AL_size l D x.1.2.2.2.2.2.2.2.2 wb (nI x.2.2.1.length) x.2.2.2.1 ) (z_cV hN wd_305 wd_66 wd_820 hd_AL_size rfl rfl ⟨Nat.le_of_ble_eq_true rfl, Nat.le_of_ble_eq_true rfl⟩ wd_303 wd_304) (z_preV (va_recv (ci := 12) (q0 := q2) hK hP rfl hq2) hPc hKc hN) rfl rfl hl.1 rfl (lv_room (Nat.le_of_ble_eq_true rfl)) d_SS_order_57 ⟨Nat.le_of_ble_eq_true rfl, Nat.le_of_ble_eq_true rfl⟩) (fun r57 e57 => ?_)
    refine z_topi (w := (nI x.2.2.1.length)) e57 ?_
    refine lv_icmp_lt (tgt := 67) hx hb d_SS_order_60 rfl (fun h60 => ?_) (fun h60 => ?_)
    · exact absurd hj (fun z => z.elim h48 (fun q => q (by rw [← hxe]; exact h60)))
    · refine lv_ldc2 hx hb hown (hts _ wd_859) d_SS_order_63 ?_
      have hP9 := hP.part (cx := [(h, .inr (11, [.ref rc, .ref d])), (rc, .inr (4, [.ref tp, .ref ln, .ref tb, .ref ct, .ref dp]))]) [0, 1] rfl
      have hD9 := hD.part (cx := [(h, .inr (11, [.ref rc, .ref d])), (rc, .inr (4, [.ref tp, .ref ln, .ref tb, .ref ct, .ref dp]))]) [0, 1] (by decide) rfl
      have hK9 := hK.sub (tys' := [(cO, .object "java/lang/Object")]) [0] rfl
      refine W.widen (k := 1) (n := 6) (by omega) (by omega) ?_
      exact W.mono MQ.toT (W.lret (v := (-1)) hx hb hr (fun t ht hW => Or.inl ⟨_, (), rfl, rfl, ⟨by rw [ht]; exact hP9, va_K.moved hW.alike hK9, hD9⟩, hS.F ht⟩) hS.2.2 d_SS_order_66)
set_option maxHeartbeats 4000000 in
set_option maxRecDepth 100000 in
theorem c_SS_programme_badN (l : Launch) (D : va_G) (hfl : l.stackTraces = false) (B0 : State) (hG : zG B0) (sz : Nat) (h rc d tp ln ct dp : Nat) (cO : ClassId) (e0 tb pr : Nat) (lv pmo : Int32) (pst : Option (Nat × (Nat → Option Nat))) (P : List PR9) (Q : va_W) (k w : Int32) (htk : tok Q cO pst P) (hk : k < 0 ∨ ¬ k < nI P.length) (h0 : ¬ w < 0) (h6 : ¬ 6 < w) : MetT l y_SS_programme [Cond.code y_SS_programme b_SS_programme 4 (some .int)] ({ frames := 6, cells := 1, slots := 6, locals := 82 }) (zMo [.ref h, .int k, .int w] D ([(h, .inr (11, [.ref rc, .ref d])), (rc, .inr (4, [.ref tp, .ref ln, .ref tb, .ref ct, .ref dp]))] ++ (tplr cO e0 tb lv pr P.length pmo pst P ++ Q)) [(cO, .object "java/lang/Object")] sz B0) (zQi (fun _ (_ : Unit) => False) (fun (_u : Unit) t => zW D (va_A ([(h, .inr (11, [.ref rc, .ref d])), (rc, .inr (4, [.ref tp, .ref ln, .ref tb, .ref ct, .ref dp]))] ++ (tplr cO e0 tb lv pr P.length pmo pst P ++ Q)) sz) ([(h, .inr (11, [.ref rc, .ref d])), (rc, .inr (4, [.ref tp, .ref ln, .ref tb, .ref ct, .ref dp]))] ++ (tplr cO e0 tb lv pr P.length pmo pst P ++ Q)) [(cO, .object "java/lang/Object")] t) (va_A ([(h, .inr (11, [.ref rc, .ref d])), (rc, .inr (4, [.ref tp, .ref ln, .ref tb, .ref ct, .ref dp]))] ++ (tplr cO e0 tb lv pr P.length pmo pst P ++ Q)) sz) (fun X => X = xB)) 1 6 (va_A ([(h, .inr (11, [.ref rc, .ref d])), (rc, .inr (4, [.ref tp, .ref ln, .ref tb, .ref ct, .ref dp]))] ++ (tplr cO e0 tb lv pr P.length pmo pst P ++ Q)) sz) := by
  refine MetT.ofW (cc := b_SS_programme) (maxL := 4) (ret := (some .int)) (by decide) rfl ?_
  intro p e s m args below meth cd s₁ Bd hml hem hv
  obtain ⟨rfl, hsz, hP, hK, hN, hD0, hO⟩ := hv
  have hx := Bd.exec
  have hb := Bd.bytes
  have hr := Bd.returns
  have hts := hN.use (a := ([.ref h, .int k, .int w]).toArray)
  have hown : s.vm.findClass R_SS = some m.cls := findClass_of_methodNamed Bd.named
  have hlocks := Bd.notSynchronized
  subst hsz
  have hD := hD0.self (sz := s.heap.size)
  have hAO := z_AO hD0 hO
  clear hD0
  have hA : ∀ q : Nat, s.heap.size ≤ q → va_A ([(h, .inr (11, [.ref rc, .ref d])), (rc, .inr (4, [.ref tp, .ref ln, .ref tb, .ref ct, .ref dp]))] ++ (tplr cO e0 tb lv pr P.length pmo pst P ++ Q)) s.heap.size q := fun q h => Or.inr h
  have hS : va_S (va_A ([(h, .inr (11, [.ref rc, .ref d])), (rc, .inr (4, [.ref tp, .ref ln, .ref tb, .ref ct, .ref dp]))] ++ (tplr cO e0 tb lv pr P.length pmo pst P ++ Q)) s.heap.size) s.heap s.heap [] := va_S.rf
  generalize hAe : va_A ([(h, .inr (11, [.ref rc, .ref d])), (rc, .inr (4, [.ref tp, .ref ln, .ref tb, .ref ct, .ref dp]))] ++ (tplr cO e0 tb lv pr P.length pmo pst P ++ Q)) s.heap.size = A at hD hA hS hAO ⊢
  have hP : va_P D classes ([(h, .inr (11, [.ref rc, .ref d])), (rc, .inr (4, [.ref tp, .ref ln, .ref tb, .ref ct, .ref dp]))] ++ (tplr cO e0 tb lv pr P.length pmo pst P ++ Q)) s.heap := hP
  have hl := lv_entry ([.ref h, .int k, .int w]) (n := 4) (Nat.le_of_ble_eq_true rfl)
  rw [lg_entry_eq]
  generalize (lg_sl ([.ref h, .int k, .int w]) ++ List.replicate (4 - (lg_sl ([.ref h, .int k, .int w])).length) Slot.unset).toArray = ls at hl ⊢
  have hl : lv_has ls 4 [(0, .ref h), (1, .int k), (2, .int w)] := hl
  refine lv_iload_n hx hb d_SS_programme_0 rfl (lv_at hl 2 rfl) ?_
  refine lv_if_lt (tgt := 10) hx hb d_SS_programme_1 rfl (fun h9 => absurd h9 h0) (fun h1 => ?_)
  refine lv_iload_n hx hb d_SS_programme_4 rfl (lv_at hl 2 rfl) ?_
  refine lv_bipush (v := 6) hx hb d_SS_programme_5 (by decide) ?_
  refine lv_icmp_le (tgt := 20) hx hb d_SS_programme_7 rfl (fun h7 => ?_) (fun h9 => absurd (Int32.not_le.mp h9) h6)
  refine lv_aload_n hx hb d_SS_programme_20 rfl (lv_at hl 0 rfl) ?_
  refine va_get (D := D) (ci := 11) (v := .ref rc) (C := R_SS) (T := F_SS) (N := 2) hx hb hts i_SS hown hK hP 0 rfl rfl 0 (by decide) (hts _ wd_198) (fun _ h9 => h9) rfl d_SS_programme_21 ?_
  refine va_getN (D := D) (ci := 4) (v := .ref tb) (C := R_Receiver) (T := F_Receiver) (N := 5) hx hb hts i_Receiver hown hK hP 1 rfl rfl 2 (by decide) (hts _ wd_180) (fun _ h9 => h9) rfl d_SS_programme_24 ?_
  refine lv_iload_n hx hb d_SS_programme_27 rfl (lv_at hl 1 rfl) ?_
  have hT9 := tok_isT (X := [(h, .inr (11, [.ref rc, .ref d])), (rc, .inr (4, [.ref tp, .ref ln, .ref tb, .ref ct, .ref dp]))]) (e0 := e0) (tb := tb) (pr := pr) (lv := lv) (pmo := pmo) htk
  obtain ⟨q0, hq0⟩ : ∃ q0 : Nat, ([(h, .inr (11, [.ref rc, .ref d])), (rc, .inr (4, [.ref tp, .ref ln, .ref tb, .ref ct, .ref dp]))] ++ (tplr cO e0 tb lv pr P.length pmo pst P ++ Q))[q0]? = some (tb, .inr (8, [.int lv, .ref pr])) := ⟨2, rfl⟩
  have hPc : va_P D classes ([] ++ ([(h, .inr (11, [.ref rc, .ref d])), (rc, .inr (4, [.ref tp, .ref ln, .ref tb, .ref ct, .ref dp]))] ++ (tplr cO e0 tb lv pr P.length pmo pst P ++ Q))) s.heap := hP
  have hKc := hK.sub (tys' := [(cO, .object "java/lang/Object")]) [0] rfl
  refine z_cq (va_runV (As := [.int k]) (rest := []) ⟨hx, hb, hml, hown, hts⟩ (c_Tables_programmeAtN l D cO ([(h, .inr (11, [.ref rc, .ref d])), (rc, .inr (4, [.ref tp, .ref ln, .ref tb, .ref ct, .ref dp]))] ++ (tplr cO e0 tb lv pr P.length pmo pst P ++ Q)) tb pr lv (pvw P) k hT9 (by rw [pvw_len]; exact hk)) (z_cV hN wd_832 wd_63 wd_829 hd_Tables_programmeAt rfl rfl ⟨Nat.le_of_ble_eq_true rfl, Nat.le_of_ble_eq_true rfl⟩ wd_830 wd_831) (z_preV (va_recv (ci := 8) (q0 := q0) hK hP rfl hq0) hPc hKc hN) rfl rfl hl.1 rfl (lv_room (Nat.le_of_ble_eq_true rfl)) d_SS_programme_28 ⟨Nat.le_of_ble_eq_true rfl, Nat.le_of_ble_eq_true rfl⟩) (fun r28 e28 => ?_)
  subst e28
  refine z_topq (w := none) rfl ?_
  refine lv_astore_nN (lv' := [(3, .null), (0, .ref h), (1, .int k), (2, .int w)]) hx hb d_SS_programme_31 rfl hl (by decide) rfl (fun ls hl => ?_)
  refine lv_aload_nN hx hb d_SS_programme_32 rfl (lv_at hl 0 rfl) ?_
  refine lv_ifnonnullN hx hb d_SS_programme_33 ?_
  refine W.newc hx hb hown (hts _ wd_775) (hts _ wd_776) (hts _ wd_72) rfl d_SS_programme_36 (by show 0 + 1 ≤ 1; omega) (by show 0 + 6 ≤ 6; omega) (fun cX kX hfX hkX _ _ => ?_)
  refine W.eq (g2 := F0 m 39 ls [.ref s.heap.size]) rfl ?_
  refine W.widen (k := 1) (n := 6) (by omega) (by omega) ?_
  refine lv_dup hx hb d_SS_programme_39 rfl ?_
  refine z_ldcs hx hb hown (z_str hG hO (List.mem_of_getElem? (i := 833) (by decide +kernel) : (Jvm.Cond.stringRef "StreamSplitter" (114 : Nat) "there is no programme k") ∈ lw_tbl)) d_SS_programme_40 (fun msg => ?_)
  exact z_throw (X := xB) (names := ["java/lang/RuntimeException", "java/lang/Exception"]) hx hb hfl hown (by decide) z_fits (fun a ha => z_oa hG hO (z_oaB a ha)) hem (by rw [hml]; exact hl.1) hfX hkX z_pushAt (Nat.le_refl _) d_SS_programme_42 d_SS_programme_45 (Nat.le_of_ble_eq_true rfl) (Nat.le_of_ble_eq_true rfl) hlocks (fun t ht hW => Or.inr ⟨xB, _, rfl, rfl, ht⟩)
set_option maxHeartbeats 4000000 in
set_option maxRecDepth 100000 in
theorem c_SS_stream_badN (l : Launch) (D : va_G) (hfl : l.stackTraces = false) (B0 : State) (hG : zG B0) (sz : Nat) (h rc d tp ln ct dp : Nat) (cO : ClassId) (e0 tb pr : Nat) (lv pmo : Int32) (pst : Option (Nat × (Nat → Option Nat))) (P : List PR9) (Q : va_W) (k j : Int32) (htk : tok Q cO pst P) (hk : k < 0 ∨ ¬ k < nI P.length) : MetT l y_SS_stream [Cond.code y_SS_stream b_SS_stream 5 (some .int)] ({ frames := 6, cells := 1, slots := 6, locals := 82 }) (zMo [.ref h, .int k, .int j] D ([(h, .inr (11, [.ref rc, .ref d])), (rc, .inr (4, [.ref tp, .ref ln, .ref tb, .ref ct, .ref dp]))] ++ (tplr cO e0 tb lv pr P.length pmo pst P ++ Q)) [(cO, .object "java/lang/Object")] sz B0) (zQi (fun _ (_ : Unit) => False) (fun (_u : Unit) t => zW D (va_A ([(h, .inr (11, [.ref rc, .ref d])), (rc, .inr (4, [.ref tp, .ref ln, .ref tb, .ref ct, .ref dp]))] ++ (tplr cO e0 tb lv pr P.length pmo pst P ++ Q)) sz) ([(h, .inr (11, [.ref rc, .ref d])), (rc, .inr (4, [.ref tp, .ref ln, .ref tb, .ref ct, .ref dp]))] ++ (tplr cO e0 tb lv pr P.length pmo pst P ++ Q)) [(cO, .object "java/lang/Object")] t) (va_A ([(h, .inr (11, [.ref rc, .ref d])), (rc, .inr (4, [.ref tp, .ref ln, .ref tb, .ref ct, .ref dp]))] ++ (tplr cO e0 tb lv pr P.length pmo pst P ++ Q)) sz) (fun X => X = xB)) 1 6 (va_A ([(h, .inr (11, [.ref rc, .ref d])), (rc, .inr (4, [.ref tp, .ref ln, .ref tb, .ref ct, .ref dp]))] ++ (tplr cO e0 tb lv pr P.length pmo pst P ++ Q)) sz) := by
  refine MetT.ofW (cc := b_SS_stream) (maxL := 5) (ret := (some .int)) (by decide) rfl ?_
  intro p e s m args below meth cd s₁ Bd hml hem hv
  obtain ⟨rfl, hsz, hP, hK, hN, hD0, hO⟩ := hv
  have hx := Bd.exec
  have hb := Bd.bytes
  have hr := Bd.returns
  have hts := hN.use (a := ([.ref h, .int k, .int j]).toArray)
  have hown : s.vm.findClass R_SS = some m.cls := findClass_of_methodNamed Bd.named
  have hlocks := Bd.notSynchronized
  subst hsz
  have hD := hD0.self (sz := s.heap.size)
  have hAO := z_AO hD0 hO
  clear hD0
  have hA : ∀ q : Nat, s.heap.size ≤ q → va_A ([(h, .inr (11, [.ref rc, .ref d])), (rc, .inr (4, [.ref tp, .ref ln, .ref tb, .ref ct, .ref dp]))] ++ (tplr cO e0 tb lv pr P.length pmo pst P ++ Q)) s.heap.size q := fun q h => Or.inr h
  have hS : va_S (va_A ([(h, .inr (11, [.ref rc, .ref d])), (rc, .inr (4, [.ref tp, .ref ln, .ref tb, .ref ct, .ref dp]))] ++ (tplr cO e0 tb lv pr P.length pmo pst P ++ Q)) s.heap.size) s.heap s.heap [] := va_S.rf
  generalize hAe : va_A ([(h, .inr (11, [.ref rc, .ref d])), (rc, .inr (4, [.ref tp, .ref ln, .ref tb, .ref ct, .ref dp]))] ++ (tplr cO e0 tb lv pr P.length pmo pst P ++ Q)) s.heap.size = A at hD hA hS hAO ⊢
  have hP : va_P D classes ([(h, .inr (11, [.ref rc, .ref d])), (rc, .inr (4, [.ref tp, .ref ln, .ref tb, .ref ct, .ref dp]))] ++ (tplr cO e0 tb lv pr P.length pmo pst P ++ Q)) s.heap := hP
  have hl := lv_entry ([.ref h, .int k, .int j]) (n := 5) (Nat.le_of_ble_eq_true rfl)
  rw [lg_entry_eq]
  generalize (lg_sl ([.ref h, .int k, .int j]) ++ List.replicate (5 - (lg_sl ([.ref h, .int k, .int j])).length) Slot.unset).toArray = ls at hl ⊢
  have hl : lv_has ls 5 [(0, .ref h), (1, .int k), (2, .int j)] := hl
  refine lv_aload_n hx hb d_SS_stream_0 rfl (lv_at hl 0 rfl) ?_
  refine va_get (D := D) (ci := 11) (v := .ref rc) (C := R_SS) (T := F_SS) (N := 2) hx hb hts i_SS hown hK hP 0 rfl rfl 0 (by decide) (hts _ wd_198) (fun _ h9 => h9) rfl d_SS_stream_1 ?_
  refine va_getN (D := D) (ci := 4) (v := .ref tb) (C := R_Receiver) (T := F_Receiver) (N := 5) hx hb hts i_Receiver hown hK hP 1 rfl rfl 2 (by decide) (hts _ wd_180) (fun _ h9 => h9) rfl d_SS_stream_4 ?_
  refine lv_iload_n hx hb d_SS_stream_7 rfl (lv_at hl 1 rfl) ?_
  have hT9 := tok_isT (X := [(h, .inr (11, [.ref rc, .ref d])), (rc, .inr (4, [.ref tp, .ref ln, .ref tb, .ref ct, .ref dp]))]) (e0 := e0) (tb := tb) (pr := pr) (lv := lv) (pmo := pmo) htk
  obtain ⟨q0, hq0⟩ : ∃ q0 : Nat, ([(h, .inr (11, [.ref rc, .ref d])), (rc, .inr (4, [.ref tp, .ref ln, .ref tb, .ref ct, .ref dp]))] ++ (tplr cO e0 tb lv pr P.length pmo pst P ++ Q))[q0]? = some (tb, .inr (8, [.int lv, .ref pr])) := ⟨2, rfl⟩
  have hPc : va_P D classes ([] ++ ([(h, .inr (11, [.ref rc, .ref d])), (rc, .inr (4, [.ref tp, .ref ln, .ref tb, .ref ct, .ref dp]))] ++ (tplr cO e0 tb lv pr P.length pmo pst P ++ Q))) s.heap := hP
  have hKc := hK.sub (tys' := [(cO, .object "java/lang/Object")]) [0] rfl
  refine z_cq (va_runV (As := [.int k]) (rest := []) ⟨hx, hb, hml, hown, hts⟩ (c_Tables_programmeAtN l D cO ([(h, .inr (11, [.ref rc, .ref d])), (rc, .inr (4, [.ref tp, .ref ln, .ref tb, .ref ct, .ref dp]))] ++ (tplr cO e0 tb lv pr P.length pmo pst P ++ Q)) tb pr lv (pvw P) k hT9 (by rw [pvw_len]; exact hk)) (z_cV hN wd_832 wd_63 wd_829 hd_Tables_programmeAt rfl rfl ⟨Nat.le_of_ble_eq_true rfl, Nat.le_of_ble_eq_true rfl⟩ wd_830 wd_831) (z_preV (va_recv (ci := 8) (q0 := q0) hK hP rfl hq0) hPc hKc hN) rfl rfl hl.1 rfl (lv_room (Nat.le_of_ble_eq_true rfl)) d_SS_stream_8 ⟨Nat.le_of_ble_eq_true rfl, Nat.le_of_ble_eq_true rfl⟩) (fun r8 e8 => ?_)
  subst e8
  refine z_topq (w := none) rfl ?_
  refine lv_astore_nN (lv' := [(3, .null), (0, .ref h), (1, .int k), (2, .int j)]) hx hb d_SS_stream_11 rfl hl (by decide) rfl (fun ls hl => ?_)
  refine lv_aload_nN hx hb d_SS_stream_12 rfl (lv_at hl 0 rfl) ?_
  refine lv_ifnonnullN hx hb d_SS_stream_13 ?_
  refine W.newc hx hb hown (hts _ wd_775) (hts _ wd_776) (hts _ wd_72) rfl d_SS_stream_16 (by show 0 + 1 ≤ 1; omega) (by show 0 + 6 ≤ 6; omega) (fun cX kX hfX hkX _ _ => ?_)
  refine W.eq (g2 := F0 m 19 ls [.ref s.heap.size]) rfl ?_
  refine W.widen (k := 1) (n := 6) (by omega) (by omega) ?_
  refine lv_dup hx hb d_SS_stream_19 rfl ?_
  refine z_ldcs hx hb hown (z_str hG hO (List.mem_of_getElem? (i := 833) (by decide +kernel) : (Jvm.Cond.stringRef "StreamSplitter" (114 : Nat) "there is no programme k") ∈ lw_tbl)) d_SS_stream_20 (fun msg => ?_)
  exact z_throw (X := xB) (names := ["java/lang/RuntimeException", "java/lang/Exception"]) hx hb hfl hown (by decide) z_fits (fun a ha => z_oa hG hO (z_oaB a ha)) hem (by rw [hml]; exact hl.1) hfX hkX z_pushAt (Nat.le_refl _) d_SS_stream_22 d_SS_stream_25 (Nat.le_of_ble_eq_true rfl) (Nat.le_of_ble_eq_true rfl) hlocks (fun t ht hW => Or.inr ⟨xB, _, rfl, rfl, ht⟩)
set_option maxHeartbeats 4000000 in
set_option maxRecDepth 100000 in
theorem c_SS_now_badN (l : Launch) (D : va_G) (hfl : l.stackTraces = false) (B0 : State) (hG : zG B0) (sz : Nat) (h rc d tp ln ct dp : Nat) (cO : ClassId) (e0 tb pr : Nat) (lv pmo : Int32) (pst : Option (Nat × (Nat → Option Nat))) (P : List PR9) (Q : va_W) (k : Int32) (htk : tok Q cO pst P) (hk : k < 0 ∨ ¬ k < nI P.length) : MetT l y_SS_now [Cond.code y_SS_now b_SS_now 3 (some .long)] ({ frames := 6, cells := 1, slots := 6, locals := 82 }) (zMo [.ref h, .int k] D ([(h, .inr (11, [.ref rc, .ref d])), (rc, .inr (4, [.ref tp, .ref ln, .ref tb, .ref ct, .ref dp]))] ++ (tplr cO e0 tb lv pr P.length pmo pst P ++ Q)) [(cO, .object "java/lang/Object")] sz B0) (zQl (fun _ (_ : Unit) => False) (fun (_u : Unit) t => zW D (va_A ([(h, .inr (11, [.ref rc, .ref d])), (rc, .inr (4, [.ref tp, .ref ln, .ref tb, .ref ct, .ref dp]))] ++ (tplr cO e0 tb lv pr P.length pmo pst P ++ Q)) sz) ([(h, .inr (11, [.ref rc, .ref d])), (rc, .inr (4, [.ref tp, .ref ln, .ref tb, .ref ct, .ref dp]))] ++ (tplr cO e0 tb lv pr P.length pmo pst P ++ Q)) [(cO, .object "java/lang/Object")] t) (va_A ([(h, .inr (11, [.ref rc, .ref d])), (rc, .inr (4, [.ref tp, .ref ln, .ref tb, .ref ct, .ref dp]))] ++ (tplr cO e0 tb lv pr P.length pmo pst P ++ Q)) sz) (fun X => X = xB)) 1 6 (va_A ([(h, .inr (11, [.ref rc, .ref d])), (rc, .inr (4, [.ref tp, .ref ln, .ref tb, .ref ct, .ref dp]))] ++ (tplr cO e0 tb lv pr P.length pmo pst P ++ Q)) sz) := by
  refine MetT.ofW (cc := b_SS_now) (maxL := 3) (ret := (some .long)) (by decide) rfl ?_
  intro p e s m args below meth cd s₁ Bd hml hem hv
  obtain ⟨rfl, hsz, hP, hK, hN, hD0, hO⟩ := hv
  have hx := Bd.exec
  have hb := Bd.bytes
  have hr := Bd.returns
  have hts := hN.use (a := ([.ref h, .int k]).toArray)
  have hown : s.vm.findClass R_SS = some m.cls := findClass_of_methodNamed Bd.named
  have hlocks := Bd.notSynchronized
  subst hsz
  have hD := hD0.self (sz := s.heap.size)
  have hAO := z_AO hD0 hO
  clear hD0
  have hA : ∀ q : Nat, s.heap.size ≤ q → va_A ([(h, .inr (11, [.ref rc, .ref d])), (rc, .inr (4, [.ref tp, .ref ln, .ref tb, .ref ct, .ref dp]))] ++ (tplr cO e0 tb lv pr P.length pmo pst P ++ Q)) s.heap.size q := fun q h => Or.inr h
  have hS : va_S (va_A ([(h, .inr (11, [.ref rc, .ref d])), (rc, .inr (4, [.ref tp, .ref ln, .ref tb, .ref ct, .ref dp]))] ++ (tplr cO e0 tb lv pr P.length pmo pst P ++ Q)) s.heap.size) s.heap s.heap [] := va_S.rf
  generalize hAe : va_A ([(h, .inr (11, [.ref rc, .ref d])), (rc, .inr (4, [.ref tp, .ref ln, .ref tb, .ref ct, .ref dp]))] ++ (tplr cO e0 tb lv pr P.length pmo pst P ++ Q)) s.heap.size = A at hD hA hS hAO ⊢
  have hP : va_P D classes ([(h, .inr (11, [.ref rc, .ref d])), (rc, .inr (4, [.ref tp, .ref ln, .ref tb, .ref ct, .ref dp]))] ++ (tplr cO e0 tb lv pr P.length pmo pst P ++ Q)) s.heap := hP
  have hl := lv_entry ([.ref h, .int k]) (n := 3) (Nat.le_of_ble_eq_true rfl)
  rw [lg_entry_eq]
  generalize (lg_sl ([.ref h, .int k]) ++ List.replicate (3 - (lg_sl ([.ref h, .int k])).length) Slot.unset).toArray = ls at hl ⊢
  have hl : lv_has ls 3 [(0, .ref h), (1, .int k)] := hl
  refine lv_aload_n hx hb d_SS_now_0 rfl (lv_at hl 0 rfl) ?_
  refine va_get (D := D) (ci := 11) (v := .ref rc) (C := R_SS) (T := F_SS) (N := 2) hx hb hts i_SS hown hK hP 0 rfl rfl 0 (by decide) (hts _ wd_198) (fun _ h9 => h9) rfl d_SS_now_1 ?_
  refine va_getN (D := D) (ci := 4) (v := .ref tb) (C := R_Receiver) (T := F_Receiver) (N := 5) hx hb hts i_Receiver hown hK hP 1 rfl rfl 2 (by decide) (hts _ wd_180) (fun _ h9 => h9) rfl d_SS_now_4 ?_
  refine lv_iload_n hx hb d_SS_now_7 rfl (lv_at hl 1 rfl) ?_
  have hT9 := tok_isT (X := [(h, .inr (11, [.ref rc, .ref d])), (rc, .inr (4, [.ref tp, .ref ln, .ref tb, .ref ct, .ref dp]))]) (e0 := e0) (tb := tb) (pr := pr) (lv := lv) (pmo := pmo) htk
  obtain ⟨q0, hq0⟩ : ∃ q0 : Nat, ([(h, .inr (11, [.ref rc, .ref d])), (rc, .inr (4, [.ref tp, .ref ln, .ref tb, .ref ct, .ref dp]))] ++ (tplr cO e0 tb lv pr P.length pmo pst P ++ Q))[q0]? = some (tb, .inr (8, [.int lv, .ref pr])) := ⟨2, rfl⟩
  have hPc : va_P D classes ([] ++ ([(h, .inr (11, [.ref rc, .ref d])), (rc, .inr (4, [.ref tp, .ref ln, .ref tb, .ref ct, .ref dp]))] ++ (tplr cO e0 tb lv pr P.length pmo pst P ++ Q))) s.heap := hP
  have hKc := hK.sub (tys' := [(cO, .object "java/lang/Object")]) [0] rfl
  refine z_cq (va_runV (As := [.int k]) (rest := []) ⟨hx, hb, hml, hown, hts⟩ (c_Tables_programmeAtN l D cO ([(h, .inr (11, [.ref rc, .ref d])), (rc, .inr (4, [.ref tp, .ref ln, .ref tb, .ref ct, .ref dp]))] ++ (tplr cO e0 tb lv pr P.length pmo pst P ++ Q)) tb pr lv (pvw P) k hT9 (by rw [pvw_len]; exact hk)) (z_cV hN wd_832 wd_63 wd_829 hd_Tables_programmeAt rfl rfl ⟨Nat.le_of_ble_eq_true rfl, Nat.le_of_ble_eq_true rfl⟩ wd_830 wd_831) (z_preV (va_recv (ci := 8) (q0 := q0) hK hP rfl hq0) hPc hKc hN) rfl rfl hl.1 rfl (lv_room (Nat.le_of_ble_eq_true rfl)) d_SS_now_8 ⟨Nat.le_of_ble_eq_true rfl, Nat.le_of_ble_eq_true rfl⟩) (fun r8 e8 => ?_)
  subst e8
  refine z_topq (w := none) rfl ?_
  refine lv_astore_nN (lv' := [(2, .null), (0, .ref h), (1, .int k)]) hx hb d_SS_now_11 rfl hl (by decide) rfl (fun ls hl => ?_)
  refine lv_aload_nN hx hb d_SS_now_12 rfl (lv_at hl 0 rfl) ?_
  refine lv_ifnonnullN hx hb d_SS_now_13 ?_
  refine W.newc hx hb hown (hts _ wd_775) (hts _ wd_776) (hts _ wd_72) rfl d_SS_now_16 (by show 0 + 1 ≤ 1; omega) (by show 0 + 6 ≤ 6; omega) (fun cX kX hfX hkX _ _ => ?_)
  refine W.eq (g2 := F0 m 19 ls [.ref s.heap.size]) rfl ?_
  refine W.widen (k := 1) (n := 6) (by omega) (by omega) ?_
  refine lv_dup hx hb d_SS_now_19 rfl ?_
  refine z_ldcs hx hb hown (z_str hG hO (List.mem_of_getElem? (i := 833) (by decide +kernel) : (Jvm.Cond.stringRef "StreamSplitter" (114 : Nat) "there is no programme k") ∈ lw_tbl)) d_SS_now_20 (fun msg => ?_)
  exact z_throw (X := xB) (names := ["java/lang/RuntimeException", "java/lang/Exception"]) hx hb hfl hown (by decide) z_fits (fun a ha => z_oa hG hO (z_oaB a ha)) hem (by rw [hml]; exact hl.1) hfX hkX z_pushAt (Nat.le_refl _) d_SS_now_22 d_SS_now_25 (Nat.le_of_ble_eq_true rfl) (Nat.le_of_ble_eq_true rfl) hlocks (fun t ht hW => Or.inr ⟨xB, _, rfl, rfl, ht⟩)
set_option maxHeartbeats 4000000 in
set_option maxRecDepth 100000 in
theorem c_SS_order_badN (l : Launch) (D : va_G) (hfl : l.stackTraces = false) (B0 : State) (hG : zG B0) (sz : Nat) (h rc d tp ln ct dp : Nat) (cO : ClassId) (e0 tb pr : Nat) (lv pmo : Int32) (pst : Option (Nat × (Nat → Option Nat))) (P : List PR9) (Q : va_W) (k j w : Int32) (htk : tok Q cO pst P) (hk : k < 0 ∨ ¬ k < nI P.length) (h0 : ¬ w < 0) (h3 : ¬ 3 < w) : MetT l y_SS_order [Cond.code y_SS_order b_SS_order 6 (some .long)] ({ frames := 6, cells := 1, slots := 6, locals := 82 }) (zMo [.ref h, .int k, .int j, .int w] D ([(h, .inr (11, [.ref rc, .ref d])), (rc, .inr (4, [.ref tp, .ref ln, .ref tb, .ref ct, .ref dp]))] ++ (tplr cO e0 tb lv pr P.length pmo pst P ++ Q)) [(cO, .object "java/lang/Object")] sz B0) (zQl (fun _ (_ : Unit) => False) (fun (_u : Unit) t => zW D (va_A ([(h, .inr (11, [.ref rc, .ref d])), (rc, .inr (4, [.ref tp, .ref ln, .ref tb, .ref ct, .ref dp]))] ++ (tplr cO e0 tb lv pr P.length pmo pst P ++ Q)) sz) ([(h, .inr (11, [.ref rc, .ref d])), (rc, .inr (4, [.ref tp, .ref ln, .ref tb, .ref ct, .ref dp]))] ++ (tplr cO e0 tb lv pr P.length pmo pst P ++ Q)) [(cO, .object "java/lang/Object")] t) (va_A ([(h, .inr (11, [.ref rc, .ref d])), (rc, .inr (4, [.ref tp, .ref ln, .ref tb, .ref ct, .ref dp]))] ++ (tplr cO e0 tb lv pr P.length pmo pst P ++ Q)) sz) (fun X => X = xB)) 1 6 (va_A ([(h, .inr (11, [.ref rc, .ref d])), (rc, .inr (4, [.ref tp, .ref ln, .ref tb, .ref ct, .ref dp]))] ++ (tplr cO e0 tb lv pr P.length pmo pst P ++ Q)) sz) := by
  refine MetT.ofW (cc := b_SS_order) (maxL := 6) (ret := (some .long)) (by decide) rfl ?_
  intro p e s m args below meth cd s₁ Bd hml hem hv
  obtain ⟨rfl, hsz, hP, hK, hN, hD0, hO⟩ := hv
  have hx := Bd.exec
  have hb := Bd.bytes
  have hr := Bd.returns
  have hts := hN.use (a := ([.ref h, .int k, .int j, .int w]).toArray)
  have hown : s.vm.findClass R_SS = some m.cls := findClass_of_methodNamed Bd.named
  have hlocks := Bd.notSynchronized
  subst hsz
  have hD := hD0.self (sz := s.heap.size)
  have hAO := z_AO hD0 hO
  clear hD0
  have hA : ∀ q : Nat, s.heap.size ≤ q → va_A ([(h, .inr (11, [.ref rc, .ref d])), (rc, .inr (4, [.ref tp, .ref ln, .ref tb, .ref ct, .ref dp]))] ++ (tplr cO e0 tb lv pr P.length pmo pst P ++ Q)) s.heap.size q := fun q h => Or.inr h
  have hS : va_S (va_A ([(h, .inr (11, [.ref rc, .ref d])), (rc, .inr (4, [.ref tp, .ref ln, .ref tb, .ref ct, .ref dp]))] ++ (tplr cO e0 tb lv pr P.length pmo pst P ++ Q)) s.heap.size) s.heap s.heap [] := va_S.rf
  generalize hAe : va_A ([(h, .inr (11, [.ref rc, .ref d])), (rc, .inr (4, [.ref tp, .ref ln, .ref tb, .ref ct, .ref dp]))] ++ (tplr cO e0 tb lv pr P.length pmo pst P ++ Q)) s.heap.size = A at hD hA hS hAO ⊢
  have hP : va_P D classes ([(h, .inr (11, [.ref rc, .ref d])), (rc, .inr (4, [.ref tp, .ref ln, .ref tb, .ref ct, .ref dp]))] ++ (tplr cO e0 tb lv pr P.length pmo pst P ++ Q)) s.heap := hP
  have hl := lv_entry ([.ref h, .int k, .int j, .int w]) (n := 6) (Nat.le_of_ble_eq_true rfl)
  rw [lg_entry_eq]
  generalize (lg_sl ([.ref h, .int k, .int j, .int w]) ++ List.replicate (6 - (lg_sl ([.ref h, .int k, .int j, .int w])).length) Slot.unset).toArray = ls at hl ⊢
  have hl : lv_has ls 6 [(0, .ref h), (1, .int k), (2, .int j), (3, .int w)] := hl
  refine lv_iload_n hx hb d_SS_order_0 rfl (lv_at hl 3 rfl) ?_
  refine lv_if_lt (tgt := 9) hx hb d_SS_order_1 rfl (fun h9 => absurd h9 h0) (fun h1 => ?_)
  refine lv_iload_n hx hb d_SS_order_4 rfl (lv_at hl 3 rfl) ?_
  refine lv_iconst (v := 3) hx hb d_SS_order_5 (by decide) ?_
  refine lv_icmp_le (tgt := 19) hx hb d_SS_order_6 rfl (fun h6 => ?_) (fun h9 => absurd (Int32.not_le.mp h9) h3)
  refine lv_aload_n hx hb d_SS_order_19 rfl (lv_at hl 0 rfl) ?_
  refine va_get (D := D) (ci := 11) (v := .ref rc) (C := R_SS) (T := F_SS) (N := 2) hx hb hts i_SS hown hK hP 0 rfl rfl 0 (by decide) (hts _ wd_198) (fun _ h9 => h9) rfl d_SS_order_20 ?_
  refine va_getN (D := D) (ci := 4) (v := .ref tb) (C := R_Receiver) (T := F_Receiver) (N := 5) hx hb hts i_Receiver hown hK hP 1 rfl rfl 2 (by decide) (hts _ wd_180) (fun _ h9 => h9) rfl d_SS_order_23 ?_
  refine lv_iload_n hx hb d_SS_order_26 rfl (lv_at hl 1 rfl) ?_
  have hT9 := tok_isT (X := [(h, .inr (11, [.ref rc, .ref d])), (rc, .inr (4, [.ref tp, .ref ln, .ref tb, .ref ct, .ref dp]))]) (e0 := e0) (tb := tb) (pr := pr) (lv := lv) (pmo := pmo) htk
  obtain ⟨q0, hq0⟩ : ∃ q0 : Nat, ([(h, .inr (11, [.ref rc, .ref d])), (rc, .inr (4, [.ref tp, .ref ln, .ref tb, .ref ct, .ref dp]))] ++ (tplr cO e0 tb lv pr P.length pmo pst P ++ Q))[q0]? = some (tb, .inr (8, [.int lv, .ref pr])) := ⟨2, rfl⟩
  have hPc : va_P D classes ([] ++ ([(h, .inr (11, [.ref rc, .ref d])), (rc, .inr (4, [.ref tp, .ref ln, .ref tb, .ref ct, .ref dp]))] ++ (tplr cO e0 tb lv pr P.length pmo pst P ++ Q))) s.heap := hP
  have hKc := hK.sub (tys' := [(cO, .object "java/lang/Object")]) [0] rfl
  refine z_cq (va_runV (As := [.int k]) (rest := []) ⟨hx, hb, hml, hown, hts⟩ (c_Tables_programmeAtN l D cO ([(h, .inr (11, [.ref rc, .ref d])), (rc, .inr (4, [.ref tp, .ref ln, .ref tb, .ref ct, .ref dp]))] ++ (tplr cO e0 tb lv pr P.length pmo pst P ++ Q)) tb pr lv (pvw P) k hT9 (by rw [pvw_len]; exact hk)) (z_cV hN wd_832 wd_63 wd_829 hd_Tables_programmeAt rfl rfl ⟨Nat.le_of_ble_eq_true rfl, Nat.le_of_ble_eq_true rfl⟩ wd_830 wd_831) (z_preV (va_recv (ci := 8) (q0 := q0) hK hP rfl hq0) hPc hKc hN) rfl rfl hl.1 rfl (lv_room (Nat.le_of_ble_eq_true rfl)) d_SS_order_27 ⟨Nat.le_of_ble_eq_true rfl, Nat.le_of_ble_eq_true rfl⟩) (fun r27 e27 => ?_)
  subst e27
  refine z_topq (w := none) rfl ?_
  refine lv_astoreN (lv' := [(4, .null), (0, .ref h), (1, .int k), (2, .int j), (3, .int w)]) hx hb d_SS_order_30 hl (by decide) rfl (fun ls hl => ?_)
  refine lv_aloadN hx hb d_SS_order_32 (lv_at hl 0 rfl) ?_
  refine lv_ifnonnullN hx hb d_SS_order_34 ?_
  refine W.newc hx hb hown (hts _ wd_775) (hts _ wd_776) (hts _ wd_72) rfl d_SS_order_37 (by show 0 + 1 ≤ 1; omega) (by show 0 + 6 ≤ 6; omega) (fun cX kX hfX hkX _ _ => ?_)
  refine W.eq (g2 := F0 m 40 ls [.ref s.heap.size]) rfl ?_
  refine W.widen (k := 1) (n := 6) (by omega) (by omega) ?_
  refine lv_dup hx hb d_SS_order_40 rfl ?_
  refine z_ldcs hx hb hown (z_str hG hO (List.mem_of_getElem? (i := 833) (by decide +kernel) : (Jvm.Cond.stringRef "StreamSplitter" (114 : Nat) "there is no programme k") ∈ lw_tbl)) d_SS_order_41 (fun msg => ?_)
  exact z_throw (X := xB) (names := ["java/lang/RuntimeException", "java/lang/Exception"]) hx hb hfl hown (by decide) z_fits (fun a ha => z_oa hG hO (z_oaB a ha)) hem (by rw [hml]; exact hl.1) hfX hkX z_pushAt (Nat.le_refl _) d_SS_order_43 d_SS_order_46 (Nat.le_of_ble_eq_true rfl) (Nat.le_of_ble_eq_true rfl) hlocks (fun t ht hW => Or.inr ⟨xB, _, rfl, rfl, ht⟩)
