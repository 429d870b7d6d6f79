theorem d_Law_now_7 : decode b_Law_now 7 = .ok (.lastore, 1) := by decide +kernel
theorem d_Law_now_8 : decode b_Law_now 8 = .ok (.goto 6, 3) := by decide +kernel
theorem d_Law_now_14 : decode b_Law_now 14 = .ok (.iconst 0, 1) := by decide +kernel
theorem d_Law_now_15 : decode b_Law_now 15 = .ok (.ireturn, 1) := by decide +kernel
theorem d_Law_order_10 : decode b_Law_order 10 = .ok (.lastore, 1) := by decide +kernel
theorem d_Law_order_11 : decode b_Law_order 11 = .ok (.goto 11, 3) := by decide +kernel
theorem d_Law_order_22 : decode b_Law_order 22 = .ok (.iconst 0, 1) := by decide +kernel
theorem d_Law_order_23 : decode b_Law_order 23 = .ok (.ireturn, 1) := by decide +kernel
theorem d_Law_programme_8 : decode b_Law_programme 8 = .ok (.i2l, 1) := by decide +kernel
theorem d_Law_programme_9 : decode b_Law_programme 9 = .ok (.lastore, 1) := by decide +kernel
theorem d_Law_programme_10 : decode b_Law_programme 10 = .ok (.goto 11, 3) := by decide +kernel
theorem d_Law_programme_21 : decode b_Law_programme 21 = .ok (.iconst 0, 1) := by decide +kernel
theorem d_Law_programme_22 : decode b_Law_programme 22 = .ok (.ireturn, 1) := by decide +kernel
theorem d_Law_stream_8 : decode b_Law_stream 8 = .ok (.i2l, 1) := by decide +kernel
theorem d_Law_stream_9 : decode b_Law_stream 9 = .ok (.lastore, 1) := by decide +kernel
theorem d_Law_stream_10 : decode b_Law_stream 10 = .ok (.goto 7, 3) := by decide +kernel
theorem d_Law_stream_17 : decode b_Law_stream 17 = .ok (.iconst 0, 1) := by decide +kernel
theorem d_Law_stream_18 : decode b_Law_stream 18 = .ok (.ireturn, 1) := by decide +kernel
set_option maxHeartbeats 4000000 in
set_option maxRecDepth 100000 in
theorem c_Law_programme_okG (l : Launch) (D : va_G) (hfl : l.stackTraces = false) (B0 : State) (hG : zG B0) (sz : Nat) (h rc d tp ln ct dp : Nat) (cO : ClassId) (e0 tb pr : Nat) (lv pmo : Int32) (pst : Option (Nat × (Nat → Option Nat))) (P : List PR9) (Q : va_W) (k w : Nat) (cJ : ClassId) (o9 : Nat) (g9 : Nat → Int64) (htk : tok Q cO pst P) (hk : k < P.length) (hw : w ≤ 6) : Met l y_Law_programme [Cond.codeWith y_Law_programme b_Law_programme 5 (some .int) [(0, 10, 13, 13), (0, 10, 17, 19)]] ({ frames := 5, cells := 1, slots := 6, locals := 108 }) (zMo [.ref h, .int (nI k), .int (nI w), .ref o9] D ([(h, .inr (11, [.ref rc, .ref d])), (rc, .inr (4, [.ref tp, .ref ln, .ref tb, .ref ct, .ref dp])), (o9, .inl (cJ, 1, .inr (.inl g9)))] ++ (tplr cO e0 tb lv pr P.length pmo pst P ++ Q)) [(cO, .object "java/lang/Object"), (cJ, .long)] sz B0) (va_Qi (fun r0 (u : (Unit) × Int32) => r0 = 0 ∧ (fun r0 (_ : Unit) => r0 = pvV (P.getD k pr9) w) u.2 u.1) (fun (u : (Unit) × Int32) t => zW D (va_A ([(h, .inr (11, [.ref rc, .ref d])), (rc, .inr (4, [.ref tp, .ref ln, .ref tb, .ref ct, .ref dp])), (o9, .inl (cJ, 1, .inr (.inl g9)))] ++ (tplr cO e0 tb lv pr P.length pmo pst P ++ Q)) sz) ([(h, .inr (11, [.ref rc, .ref d])), (rc, .inr (4, [.ref tp, .ref ln, .ref tb, .ref ct, .ref dp])), (o9, .inl (cJ, 1, .inr (.inl (vp_updL g9 0 u.2.toInt64))))] ++ (tplr cO e0 tb lv pr P.length pmo pst P ++ Q)) [(cO, .object "java/lang/Object"), (cJ, .long)] t) (va_A ([(h, .inr (11, [.ref rc, .ref d])), (rc, .inr (4, [.ref tp, .ref ln, .ref tb, .ref ct, .ref dp])), (o9, .inl (cJ, 1, .inr (.inl g9)))] ++ (tplr cO e0 tb lv pr P.length pmo pst P ++ Q)) sz)) 1 6 (va_A ([(h, .inr (11, [.ref rc, .ref d])), (rc, .inr (4, [.ref tp, .ref ln, .ref tb, .ref ct, .ref dp])), (o9, .inl (cJ, 1, .inr (.inl g9)))] ++ (tplr cO e0 tb lv pr P.length pmo pst P ++ Q)) sz) := by
  refine va_MetW (cc := b_Law_programme) (maxL := 5) (ret := (some .int)) (hh := [(0, 10, 13, 13), (0, 10, 17, 19)]) (by decide) rfl ?_
  intro p e s m args below meth cd s₁ Bd hml hv
  obtain ⟨rfl, hsz, hP, hK, hN, hD0, hO⟩ := hv
  have hx := Bd.exec
  have hb := Bd.bytes
  have hr := Bd.returns
  have hts := hN.use (a := ([.ref h, .int (nI k), .int (nI w), .ref o9]).toArray)
  have hown : s.vm.findClass R_Law = some m.cls := findClass_of_methodNamed Bd.named
  have hlocks := Bd.notSynchronized
  have htab := z_tab Bd
  subst hsz
  have hD := hD0.self (sz := s.heap.size)
  have hAO := z_AO hD0 hO
  clear hD0
  have hA : ∀ q : Nat, s.heap.size ≤ q → va_A ([(h, .inr (11, [.ref rc, .ref d])), (rc, .inr (4, [.ref tp, .ref ln, .ref tb, .ref ct, .ref dp])), (o9, .inl (cJ, 1, .inr (.inl g9)))] ++ (tplr cO e0 tb lv pr P.length pmo pst P ++ Q)) s.heap.size q := fun q h => Or.inr h
  have hS : va_S (va_A ([(h, .inr (11, [.ref rc, .ref d])), (rc, .inr (4, [.ref tp, .ref ln, .ref tb, .ref ct, .ref dp])), (o9, .inl (cJ, 1, .inr (.inl g9)))] ++ (tplr cO e0 tb lv pr P.length pmo pst P ++ Q)) s.heap.size) s.heap s.heap [] := va_S.rf
  generalize hAe : va_A ([(h, .inr (11, [.ref rc, .ref d])), (rc, .inr (4, [.ref tp, .ref ln, .ref tb, .ref ct, .ref dp])), (o9, .inl (cJ, 1, .inr (.inl g9)))] ++ (tplr cO e0 tb lv pr P.length pmo pst P ++ Q)) s.heap.size = A at hD hA hS hAO ⊢
  have hP : va_P D classes ([(h, .inr (11, [.ref rc, .ref d])), (rc, .inr (4, [.ref tp, .ref ln, .ref tb, .ref ct, .ref dp])), (o9, .inl (cJ, 1, .inr (.inl g9)))] ++ (tplr cO e0 tb lv pr P.length pmo pst P ++ Q)) s.heap := hP
  have hl := lv_entry ([.ref h, .int (nI k), .int (nI w), .ref o9]) (n := 5) (Nat.le_of_ble_eq_true rfl)
  rw [lg_entry_eq]
  generalize (lg_sl ([.ref h, .int (nI k), .int (nI w), .ref o9]) ++ List.replicate (5 - (lg_sl ([.ref h, .int (nI k), .int (nI w), .ref o9])).length) Slot.unset).toArray = ls at hl ⊢
  have hl : lv_has ls 5 [(0, .ref h), (1, .int (nI k)), (2, .int (nI w)), (3, .ref o9)] := hl
  refine lv_aload_n hx hb d_Law_programme_0 rfl (lv_at hl 3 rfl) ?_
  refine lv_iconst (v := 0) hx hb d_Law_programme_1 (by decide) ?_
  refine lv_aload_n hx hb d_Law_programme_2 rfl (lv_at hl 0 rfl) ?_
  refine lv_iload_n hx hb d_Law_programme_3 rfl (lv_at hl 1 rfl) ?_
  refine lv_iload_n hx hb d_Law_programme_4 rfl (lv_at hl 2 rfl) ?_
  have hPc := hP.part (cx := [(h, .inr (11, [.ref rc, .ref d])), (rc, .inr (4, [.ref tp, .ref ln, .ref tb, .ref ct, .ref dp]))]) [0, 1] rfl
  have hKc := hK.sub (tys' := [(cO, .object "java/lang/Object")]) [0] rfl
  have hDc := hD.part (cx := [(h, .inr (11, [.ref rc, .ref d])), (rc, .inr (4, [.ref tp, .ref ln, .ref tb, .ref ct, .ref dp]))]) [0, 1] (by decide) rfl
  have hFc := va_freeP (cx := [(h, .inr (11, [.ref rc, .ref d])), (rc, .inr (4, [.ref tp, .ref ln, .ref tb, .ref ct, .ref dp]))]) hD hS hA [0, 1] rfl
  refine z_callVTi (As := [.int (nI k), .int (nI w)]) (rest := [.int 0, .ref o9]) ⟨hx, hb, hml, hown, hts⟩ (c_SS_programme_ok l D hfl B0 hG s.heap.size h rc d tp ln ct dp cO e0 tb pr lv pmo pst P Q k w htk hk hw) (z_cV hN wd_827 wd_59 wd_824 hd_SS_programme rfl rfl ⟨Nat.le_of_ble_eq_true rfl, Nat.le_of_ble_eq_true rfl⟩ wd_825 wd_826) (z_preVo (va_recv (ci := 11) (q0 := 0) hK hP rfl rfl) hPc hKc hN hDc hO hS hAO) rfl hl.1 rfl (lv_room (Nat.le_of_ble_eq_true rfl)) d_Law_programme_5 ⟨Nat.le_of_ble_eq_true rfl, Nat.le_of_ble_eq_true rfl⟩ hS (fun q _ h => hFc q h) hFc (fun r9 u9 t H locs ht hvm e5 hB hz1 hk1 hS => ?_) (fun X x H locs eX hcx hz1 hk1 hS => ?_)
  · obtain ⟨hP1, hK1, hD1⟩ := hB
    rw [ht] at hP1
    obtain ⟨hP, hD⟩ := va_joinP (wr := [(o9, .inl (cJ, 1, .inr (.inl g9)))]) (rx := [(h, .inr (11, [.ref rc, .ref d])), (rc, .inr (4, [.ref tp, .ref ln, .ref tb, .ref ct, .ref dp]))]) hP hD [0, 1] [2] rfl rfl (by decide) (by decide) hk1 hFc hP1 hD1
    clear hk1 hP1 hD1 hFc hPc hDc hz1
    have hP : va_P D classes ([(o9, .inl (cJ, 1, .inr (.inl g9))), (h, .inr (11, [.ref rc, .ref d])), (rc, .inr (4, [.ref tp, .ref ln, .ref tb, .ref ct, .ref dp]))] ++ (tplr cO e0 tb lv pr P.length pmo pst P ++ Q)) H := hP
    have hD : va_D A ([(o9, .inl (cJ, 1, .inr (.inl g9))), (h, .inr (11, [.ref rc, .ref d])), (rc, .inr (4, [.ref tp, .ref ln, .ref tb, .ref ct, .ref dp]))] ++ (tplr cO e0 tb lv pr P.length pmo pst P ++ Q)) := hD
    refine lv_i2l (v := r9.toInt64) hx hb d_Law_programme_8 rfl ?_
    refine z_last hx hb hK hP hD hS 0 1 rfl rfl 0 rfl (by decide) (by decide) d_Law_programme_9 (fun H locs hP hD hS => ?_)
    have hP : va_P D classes ([(o9, .inl (cJ, 1, .inr (.inl (vp_updL g9 0 r9.toInt64)))), (h, .inr (11, [.ref rc, .ref d])), (rc, .inr (4, [.ref tp, .ref ln, .ref tb, .ref ct, .ref dp]))] ++ (tplr cO e0 tb lv pr P.length pmo pst P ++ Q)) H := hP
    have hD : va_D A ([(o9, .inl (cJ, 1, .inr (.inl (vp_updL g9 0 r9.toInt64)))), (h, .inr (11, [.ref rc, .ref d])), (rc, .inr (4, [.ref tp, .ref ln, .ref tb, .ref ct, .ref dp]))] ++ (tplr cO e0 tb lv pr P.length pmo pst P ++ Q)) := hD
    refine lv_goto (tgt := 21) hx hb d_Law_programme_10 rfl ?_
    refine lv_iconst (v := 0) hx hb d_Law_programme_21 (by decide) ?_
    have hP9 := hP.part (cx := [(h, .inr (11, [.ref rc, .ref d])), (rc, .inr (4, [.ref tp, .ref ln, .ref tb, .ref ct, .ref dp])), (o9, .inl (cJ, 1, .inr (.inl (vp_updL g9 0 r9.toInt64))))]) [1, 2, 0] rfl
    have hD9 := hD.part (cx := [(h, .inr (11, [.ref rc, .ref d])), (rc, .inr (4, [.ref tp, .ref ln, .ref tb, .ref ct, .ref dp])), (o9, .inl (cJ, 1, .inr (.inl (vp_updL g9 0 r9.toInt64))))]) [1, 2, 0] (by decide) rfl
    have hK9 := hK.sub (tys' := [(cO, .object "java/lang/Object"), (cJ, .long)]) [0, 1] rfl
    refine W.widen (k := 1) (n := 6) (by omega) (by omega) ?_
    exact W.iret (v := 0) hx hb hr (fun t ht hW => ⟨⟨_, (u9, r9), rfl, ⟨rfl, e5⟩, ⟨by rw [ht]; exact hP9, va_K.moved hW.alike hK9, hD9⟩⟩, hS.F ht⟩) hS.2.2 d_Law_programme_22
  · exact absurd eX (fun z => z)
set_option maxHeartbeats 4000000 in
set_option maxRecDepth 100000 in
theorem c_Law_stream_okG (l : Launch) (D : va_G) (hfl : l.stackTraces = false) (B0 : State) (hG : zG B0) (sz : Nat) (h rc d tp ln ct dp : Nat) (cO : ClassId) (e0 tb pr : Nat) (lv pmo : Int32) (pst : Option (Nat × (Nat → Option Nat))) (P : List PR9) (Q : va_W) (k j : Nat) (cJ : ClassId) (o9 : Nat) (g9 : Nat → Int64) (htk : tok Q cO pst P) (hk : k < P.length) (hj : j < (P.getD k pr9).2.1.length) : Met l y_Law_stream [Cond.codeWith y_Law_stream b_Law_stream 5 (some .int) [(0, 10, 13, 19)]] ({ frames := 5, cells := 1, slots := 6, locals := 109 }) (zMo [.ref h, .int (nI k), .int (nI j), .ref o9] D ([(h, .inr (11, [.ref rc, .ref d])), (rc, .inr (4, [.ref tp, .ref ln, .ref tb, .ref ct, .ref dp])), (o9, .inl (cJ, 1, .inr (.inl g9)))] ++ (tplr cO e0 tb lv pr P.length pmo pst P ++ Q)) [(cO, .object "java/lang/Object"), (cJ, .long)] sz B0) (va_Qi (fun r0 (u : (Unit) × Int32) => r0 = 0 ∧ (fun r0 (_ : Unit) => r0 = ((P.getD k pr9).2.1.getD j (0, 0)).1 * 65536 + nI ((P.getD k pr9).2.1.getD j (0, 0)).2) u.2 u.1) (fun (u : (Unit) × Int32) t => zW D (va_A ([(h, .inr (11, [.ref rc, .ref d])), (rc, .inr (4, [.ref tp, .ref ln, .ref tb, .ref ct, .ref dp])), (o9, .inl (cJ, 1, .inr (.inl g9)))] ++ (tplr cO e0 tb lv pr P.length pmo pst P ++ Q)) sz) ([(h, .inr (11, [.ref rc, .ref d])), (rc, .inr (4, [.ref tp, .ref ln, .ref tb, .ref ct, .ref dp])), (o9, .inl (cJ, 1, .inr (.inl (vp_updL g9 0 u.2.toInt64))))] ++ (tplr cO e0 tb lv pr P.length pmo pst P ++ Q)) [(cO, .object "java/lang/Object"), (cJ, .long)] t) (va_A ([(h, .inr (11, [.ref rc, .ref d])), (rc, .inr (4, [.ref tp, .ref ln, .ref tb, .ref ct, .ref dp])), (o9, .inl (cJ, 1, .inr (.inl g9)))] ++ (tplr cO e0 tb lv pr P.length pmo pst P ++ Q)) sz)) 1 6 (va_A ([(h, .inr (11, [.ref rc, .ref d])), (rc, .inr (4, [.ref tp, .ref ln, .ref tb, .ref ct, .ref dp])), (o9, .inl (cJ, 1, .inr (.inl g9)))] ++ (tplr cO e0 tb lv pr P.length pmo pst P ++ Q)) sz) := by
  refine va_MetW (cc := b_Law_stream) (maxL := 5) (ret := (some .int)) (hh := [(0, 10, 13, 19)]) (by decide) rfl ?_
  intro p e s m args below meth cd s₁ Bd hml hv
  obtain ⟨rfl, hsz, hP, hK, hN, hD0, hO⟩ := hv
  have hx := Bd.exec
  have hb := Bd.bytes
  have hr := Bd.returns
  have hts := hN.use (a := ([.ref h, .int (nI k), .int (nI j), .ref o9]).toArray)
  have hown : s.vm.findClass R_Law = some m.cls := findClass_of_methodNamed Bd.named
  have hlocks := Bd.notSynchronized
  have htab := z_tab Bd
  subst hsz
  have hD := hD0.self (sz := s.heap.size)
  have hAO := z_AO hD0 hO
  clear hD0
  have hA : ∀ q : Nat, s.heap.size ≤ q → va_A ([(h, .inr (11, [.ref rc, .ref d])), (rc, .inr (4, [.ref tp, .ref ln, .ref tb, .ref ct, .ref dp])), (o9, .inl (cJ, 1, .inr (.inl g9)))] ++ (tplr cO e0 tb lv pr P.length pmo pst P ++ Q)) s.heap.size q := fun q h => Or.inr h
  have hS : va_S (va_A ([(h, .inr (11, [.ref rc, .ref d])), (rc, .inr (4, [.ref tp, .ref ln, .ref tb, .ref ct, .ref dp])), (o9, .inl (cJ, 1, .inr (.inl g9)))] ++ (tplr cO e0 tb lv pr P.length pmo pst P ++ Q)) s.heap.size) s.heap s.heap [] := va_S.rf
  generalize hAe : va_A ([(h, .inr (11, [.ref rc, .ref d])), (rc, .inr (4, [.ref tp, .ref ln, .ref tb, .ref ct, .ref dp])), (o9, .inl (cJ, 1, .inr (.inl g9)))] ++ (tplr cO e0 tb lv pr P.length pmo pst P ++ Q)) s.heap.size = A at hD hA hS hAO ⊢
  have hP : va_P D classes ([(h, .inr (11, [.ref rc, .ref d])), (rc, .inr (4, [.ref tp, .ref ln, .ref tb, .ref ct, .ref dp])), (o9, .inl (cJ, 1, .inr (.inl g9)))] ++ (tplr cO e0 tb lv pr P.length pmo pst P ++ Q)) s.heap := hP
  have hl := lv_entry ([.ref h, .int (nI k), .int (nI j), .ref o9]) (n := 5) (Nat.le_of_ble_eq_true rfl)
  rw [lg_entry_eq]
  generalize (lg_sl ([.ref h, .int (nI k), .int (nI j), .ref o9]) ++ List.replicate (5 - (lg_sl ([.ref h, .int (nI k), .int (nI j), .ref o9])).length) Slot.unset).toArray = ls at hl ⊢
  have hl : lv_has ls 5 [(0, .ref h), (1, .int (nI k)), (2, .int (nI j)), (3, .ref o9)] := hl
  refine lv_aload_n hx hb d_Law_stream_0 rfl (lv_at hl 3 rfl) ?_
  refine lv_iconst (v := 0) hx hb d_Law_stream_1 (by decide) ?_
  refine lv_aload_n hx hb d_Law_stream_2 rfl (lv_at hl 0 rfl) ?_
  refine lv_iload_n hx hb d_Law_stream_3 rfl (lv_at hl 1 rfl) ?_
  refine lv_iload_n hx hb d_Law_stream_4 rfl (lv_at hl 2 rfl) ?_
  have hPc := hP.part (cx := [(h, .inr (11, [.ref rc, .ref d])), (rc, .inr (4, [.ref tp, .ref ln, .ref tb, .ref ct, .ref dp]))]) [0, 1] rfl
  have hKc := hK.sub (tys' := [(cO, .object "java/lang/Object")]) [0] rfl
  have hDc := hD.part (cx := [(h, .inr (11, [.ref rc, .ref d])), (rc, .inr (4, [.ref tp, .ref ln, .ref tb, .ref ct, .ref dp]))]) [0, 1] (by decide) rfl
  have hFc := va_freeP (cx := [(h, .inr (11, [.ref rc, .ref d])), (rc, .inr (4, [.ref tp, .ref ln, .ref tb, .ref ct, .ref dp]))]) hD hS hA [0, 1] rfl
  refine z_callVTi (As := [.int (nI k), .int (nI j)]) (rest := [.int 0, .ref o9]) ⟨hx, hb, hml, hown, hts⟩ (c_SS_stream_ok l D hfl B0 hG s.heap.size h rc d tp ln ct dp cO e0 tb pr lv pmo pst P Q k j htk hk hj) (z_cV hN wd_840 wd_59 wd_837 hd_SS_stream rfl rfl ⟨Nat.le_of_ble_eq_true rfl, Nat.le_of_ble_eq_true rfl⟩ wd_838 wd_839) (z_preVo (va_recv (ci := 11) (q0 := 0) hK hP rfl rfl) hPc hKc hN hDc hO hS hAO) rfl hl.1 rfl (lv_room (Nat.le_of_ble_eq_true rfl)) d_Law_stream_5 ⟨Nat.le_of_ble_eq_true rfl, Nat.le_of_ble_eq_true rfl⟩ hS (fun q _ h => hFc q h) hFc (fun r9 u9 t H locs ht hvm e5 hB hz1 hk1 hS => ?_) (fun X x H locs eX hcx hz1 hk1 hS => ?_)
  · obtain ⟨hP1, hK1, hD1⟩ := hB
    rw [ht] at hP1
    obtain ⟨hP, hD⟩ := va_joinP (wr := [(o9, .inl (cJ, 1, .inr (.inl g9)))]) (rx := [(h, .inr (11, [.ref rc, .ref d])), (rc, .inr (4, [.ref tp, .ref ln, .ref tb, .ref ct, .ref dp]))]) hP hD [0, 1] [2] rfl rfl (by decide) (by decide) hk1 hFc hP1 hD1
    clear hk1 hP1 hD1 hFc hPc hDc hz1
    have hP : va_P D classes ([(o9, .inl (cJ, 1, .inr (.inl g9))), (h, .inr (11, [.ref rc, .ref d])), (rc, .inr (4, [.ref tp, .ref ln, .ref tb, .ref ct, .ref dp]))] ++ (tplr cO e0 tb lv pr P.length pmo pst P ++ Q)) H := hP
    have hD : va_D A ([(o9, .inl (cJ, 1, .inr (.inl g9))), (h, .inr (11, [.ref rc, .ref d])), (rc, .inr (4, [.ref tp, .ref ln, .ref tb, .ref ct, .ref dp]))] ++ (tplr cO e0 tb lv pr P.length pmo pst P ++ Q)) := hD
    refine lv_i2l (v := r9.toInt64) hx hb d_Law_stream_8 rfl ?_
    refine z_last hx hb hK hP hD hS 0 1 rfl rfl 0 rfl (by decide) (by decide) d_Law_stream_9 (fun H locs hP hD hS => ?_)
    have hP : va_P D classes ([(o9, .inl (cJ, 1, .inr (.inl (vp_updL g9 0 r9.toInt64)))), (h, .inr (11, [.ref rc, .ref d])), (rc, .inr (4, [.ref tp, .ref ln, .ref tb, .ref ct, .ref dp]))] ++ (tplr cO e0 tb lv pr P.length pmo pst P ++ Q)) H := hP
    have hD : va_D A ([(o9, .inl (cJ, 1, .inr (.inl (vp_updL g9 0 r9.toInt64)))), (h, .inr (11, [.ref rc, .ref d])), (rc, .inr (4, [.ref tp, .ref ln, .ref tb, .ref ct, .ref dp]))] ++ (tplr cO e0 tb lv pr P.length pmo pst P ++ Q)) := hD
    refine lv_goto (tgt := 17) hx hb d_Law_stream_10 rfl ?_
    refine lv_iconst (v := 0) hx hb d_Law_stream_17 (by decide) ?_
    have hP9 := hP.part (cx := [(h, .inr (11, [.ref rc, .ref d])), (rc, .inr (4, [.ref tp, .ref ln, .ref tb, .ref ct, .ref dp])), (o9, .inl (cJ, 1, .inr (.inl (vp_updL g9 0 r9.toInt64))))]) [1, 2, 0] rfl
    have hD9 := hD.part (cx := [(h, .inr (11, [.ref rc, .ref d])), (rc, .inr (4, [.ref tp, .ref ln, .ref tb, .ref ct, .ref dp])), (o9, .inl (cJ, 1, .inr (.inl (vp_updL g9 0 r9.toInt64))))]) [1, 2, 0] (by decide) rfl
    have hK9 := hK.sub (tys' := [(cO, .object "java/lang/Object"), (cJ, .long)]) [0, 1] rfl
    refine W.widen (k := 1) (n := 6) (by omega) (by omega) ?_
    exact W.iret (v := 0) hx hb hr (fun t ht hW => ⟨⟨_, (u9, r9), rfl, ⟨rfl, e5⟩, ⟨by rw [ht]; exact hP9, va_K.moved hW.alike hK9, hD9⟩⟩, hS.F ht⟩) hS.2.2 d_Law_stream_18
  · exact absurd eX (fun z => z)
set_option maxHeartbeats 4000000 in
set_option maxRecDepth 100000 in
theorem c_Law_stream_noneG (l : Launch) (D : va_G) (hfl : l.stackTraces = false) (B0 : State) (hG : zG B0) (sz : Nat) (h rc d tp ln ct dp : Nat) (cO : ClassId) (e0 tb pr : Nat) (lv pmo : Int32) (pst : Option (Nat × (Nat → Option Nat))) (P : List PR9) (Q : va_W) (k : Nat) (i : Int32) (cJ : ClassId) (o9 : Nat) (g9 : Nat → Int64) (htk : tok Q cO pst P) (hk : k < P.length) (hj : i < 0 ∨ ¬ i < nI (P.getD k pr9).2.1.length) : Met l y_Law_stream [Cond.codeWith y_Law_stream b_Law_stream 5 (some .int) [(0, 10, 13, 19)]] ({ frames := 5, cells := 1, slots := 6, locals := 109 }) (zMo [.ref h, .int (nI k), .int i, .ref o9] D ([(h, .inr (11, [.ref rc, .ref d])), (rc, .inr (4, [.ref tp, .ref ln, .ref tb, .ref ct, .ref dp])), (o9, .inl (cJ, 1, .inr (.inl g9)))] ++ (tplr cO e0 tb lv pr P.length pmo pst P ++ Q)) [(cO, .object "java/lang/Object"), (cJ, .long)] sz B0) (va_Qi (fun r0 (u : (Unit) × Int32) => r0 = 0 ∧ (fun r0 (_ : Unit) => r0 = -1) u.2 u.1) (fun (u : (Unit) × Int32) t => zW D (va_A ([(h, .inr (11, [.ref rc, .ref d])), (rc, .inr (4, [.ref tp, .ref ln, .ref tb, .ref ct, .ref dp])), (o9, .inl (cJ, 1, .inr (.inl g9)))] ++ (tplr cO e0 tb lv pr P.length pmo pst P ++ Q)) sz) ([(h, .inr (11, [.ref rc, .ref d])), (rc, .inr (4, [.ref tp, .ref ln, .ref tb, .ref ct, .ref dp])), (o9, .inl (cJ, 1, .inr (.inl (vp_updL g9 0 u.2.toInt64))))] ++ (tplr cO e0 tb lv pr P.length pmo pst P ++ Q)) [(cO, .object "java/lang/Object"), (cJ, .long)] t) (va_A ([(h, .inr (11, [.ref rc, .ref d])), (rc, .inr (4, [.ref tp, .ref ln, .ref tb, .ref ct, .ref dp])), (o9, .inl (cJ, 1, .inr (.inl g9)))] ++ (tplr cO e0 tb lv pr P.length pmo pst P ++ Q)) sz)) 1 6 (va_A ([(h, .inr (11, [.ref rc, .ref d])), (rc, .inr (4, [.ref tp, .ref ln, .ref tb, .ref ct, .ref dp])), (o9, .inl (cJ, 1, .inr (.inl g9)))] ++ (tplr cO e0 tb lv pr P.length pmo pst P ++ Q)) sz) := by
  refine va_MetW (cc := b_Law_stream) (maxL := 5) (ret := (some .int)) (hh := [(0, 10, 13, 19)]) (by decide) rfl ?_
  intro p e s m args below meth cd s₁ Bd hml hv
  obtain ⟨rfl, hsz, hP, hK, hN, hD0, hO⟩ := hv
  have hx := Bd.exec
  have hb := Bd.bytes
  have hr := Bd.returns
  have hts := hN.use (a := ([.ref h, .int (nI k), .int i, .ref o9]).toArray)
  have hown : s.vm.findClass R_Law = some m.cls := findClass_of_methodNamed Bd.named
  have hlocks := Bd.notSynchronized
  have htab := z_tab Bd
  subst hsz
  have hD := hD0.self (sz := s.heap.size)
  have hAO := z_AO hD0 hO
  clear hD0
  have hA : ∀ q : Nat, s.heap.size ≤ q → va_A ([(h, .inr (11, [.ref rc, .ref d])), (rc, .inr (4, [.ref tp, .ref ln, .ref tb, .ref ct, .ref dp])), (o9, .inl (cJ, 1, .inr (.inl g9)))] ++ (tplr cO e0 tb lv pr P.length pmo pst P ++ Q)) s.heap.size q := fun q h => Or.inr h
  have hS : va_S (va_A ([(h, .inr (11, [.ref rc, .ref d])), (rc, .inr (4, [.ref tp, .ref ln, .ref tb, .ref ct, .ref dp])), (o9, .inl (cJ, 1, .inr (.inl g9)))] ++ (tplr cO e0 tb lv pr P.length pmo pst P ++ Q)) s.heap.size) s.heap s.heap [] := va_S.rf
  generalize hAe : va_A ([(h, .inr (11, [.ref rc, .ref d])), (rc, .inr (4, [.ref tp, .ref ln, .ref tb, .ref ct, .ref dp])), (o9, .inl (cJ, 1, .inr (.inl g9)))] ++ (tplr cO e0 tb lv pr P.length pmo pst P ++ Q)) s.heap.size = A at hD hA hS hAO ⊢
  have hP : va_P D classes ([(h, .inr (11, [.ref rc, .ref d])), (rc, .inr (4, [.ref tp, .ref ln, .ref tb, .ref ct, .ref dp])), (o9, .inl (cJ, 1, .inr (.inl g9)))] ++ (tplr cO e0 tb lv pr P.length pmo pst P ++ Q)) s.heap := hP
  have hl := lv_entry ([.ref h, .int (nI k), .int i, .ref o9]) (n := 5) (Nat.le_of_ble_eq_true rfl)
  rw [lg_entry_eq]
  generalize (lg_sl ([.ref h, .int (nI k), .int i, .ref o9]) ++ List.replicate (5 - (lg_sl ([.ref h, .int (nI k), .int i, .ref o9])).length) Slot.unset).toArray = ls at hl ⊢
  have hl : lv_has ls 5 [(0, .ref h), (1, .int (nI k)), (2, .int i), (3, .ref o9)] := hl
  refine lv_aload_n hx hb d_Law_stream_0 rfl (lv_at hl 3 rfl) ?_
  refine lv_iconst (v := 0) hx hb d_Law_stream_1 (by decide) ?_
  refine lv_aload_n hx hb d_Law_stream_2 rfl (lv_at hl 0 rfl) ?_
  refine lv_iload_n hx hb d_Law_stream_3 rfl (lv_at hl 1 rfl) ?_
  refine lv_iload_n hx hb d_Law_stream_4 rfl (lv_at hl 2 rfl) ?_
  have hPc := hP.part (cx := [(h, .inr (11, [.ref rc, .ref d])), (rc, .inr (4, [.ref tp, .ref ln, .ref tb, .ref ct, .ref dp]))]) [0, 1] rfl
  have hKc := hK.sub (tys' := [(cO, .object "java/lang/Object")]) [0] rfl
  have hDc := hD.part (cx := [(h, .inr (11, [.ref rc, .ref d])), (rc, .inr (4, [.ref tp, .ref ln, .ref tb, .ref ct, .ref dp]))]) [0, 1] (by decide) rfl
  have hFc := va_freeP (cx := [(h, .inr (11, [.ref rc, .ref d])), (rc, .inr (4, [.ref tp, .ref ln, .ref tb, .ref ct, .ref dp]))]) hD hS hA [0, 1] rfl
  refine z_callVTi (As := [.int (nI k), .int i]) (rest := [.int 0, .ref o9]) ⟨hx, hb, hml, hown, hts⟩ (c_SS_stream_none l D hfl B0 hG s.heap.size h rc d tp ln ct dp cO e0 tb pr lv pmo pst P Q k i htk hk hj) (z_cV hN wd_840 wd_59 wd_837 hd_SS_stream rfl rfl ⟨Nat.le_of_ble_eq_true rfl, Nat.le_of_ble_eq_true rfl⟩ wd_838 wd_839) (z_preVo (va_recv (ci := 11) (q0 := 0) hK hP rfl rfl) hPc hKc hN hDc hO hS hAO) rfl hl.1 rfl (lv_room (Nat.le_of_ble_eq_true rfl)) d_Law_stream_5 ⟨Nat.le_of_ble_eq_true rfl, Nat.le_of_ble_eq_true rfl⟩ hS (fun q _ h => hFc q h) hFc (fun r9 u9 t H locs ht hvm e5 hB hz1 hk1 hS => ?_) (fun X x H locs eX hcx hz1 hk1 hS => ?_)
  · obtain ⟨hP1, hK1, hD1⟩ := hB
    rw [ht] at hP1
    obtain ⟨hP, hD⟩ := va_joinP (wr := [(o9, .inl (cJ, 1, .inr (.inl g9)))]) (rx := [(h, .inr (11, [.ref rc, .ref d])), (rc, .inr (4, [.ref tp, .ref ln, .ref tb, .ref ct, .ref dp]))]) hP hD [0, 1] [2] rfl rfl (by decide) (by decide) hk1 hFc hP1 hD1
    clear hk1 hP1 hD1 hFc hPc hDc hz1
    have hP : va_P D classes ([(o9, .inl (cJ, 1, .inr (.inl g9))), (h, .inr (11, [.ref rc, .ref d])), (rc, .inr (4, [.ref tp, .ref ln, .ref tb, .ref ct, .ref dp]))] ++ (tplr cO e0 tb lv pr P.length pmo pst P ++ Q)) H := hP
    have hD : va_D A ([(o9, .inl (cJ, 1, .inr (.inl g9))), (h, .inr (11, [.ref rc, .ref d])), (rc, .inr (4, [.ref tp, .ref ln, .ref tb, .ref ct, .ref dp]))] ++ (tplr cO e0 tb lv pr P.length pmo pst P ++ Q)) := hD
    refine lv_i2l (v := r9.toInt64) hx hb d_Law_stream_8 rfl ?_
    refine z_last hx hb hK hP hD hS 0 1 rfl rfl 0 rfl (by decide) (by decide) d_Law_stream_9 (fun H locs hP hD hS => ?_)
    have hP : va_P D classes ([(o9, .inl (cJ, 1, .inr (.inl (vp_updL g9 0 r9.toInt64)))), (h, .inr (11, [.ref rc, .ref d])), (rc, .inr (4, [.ref tp, .ref ln, .ref tb, .ref ct, .ref dp]))] ++ (tplr cO e0 tb lv pr P.length pmo pst P ++ Q)) H := hP
    have hD : va_D A ([(o9, .inl (cJ, 1, .inr (.inl (vp_updL g9 0 r9.toInt64)))), (h, .inr (11, [.ref rc, .ref d])), (rc, .inr (4, [.ref tp, .ref ln, .ref tb, .ref ct, .ref dp]))] ++ (tplr cO e0 tb lv pr P.length pmo pst P ++ Q)) := hD
    refine lv_goto (tgt := 17) hx hb d_Law_stream_10 rfl ?_
    refine lv_iconst (v := 0) hx hb d_Law_stream_17 (by decide) ?_
    have hP9 := hP.part (cx := [(h, .inr (11, [.ref rc, .ref d])), (rc, .inr (4, [.ref tp, .ref ln, .ref tb, .ref ct, .ref dp])), (o9, .inl (cJ, 1, .inr (.inl (vp_updL g9 0 r9.toInt64))))]) [1, 2, 0] rfl
    have hD9 := hD.part (cx := [(h, .inr (11, [.ref rc, .ref d])), (rc, .inr (4, [.ref tp, .ref ln, .ref tb, .ref ct, .ref dp])), (o9, .inl (cJ, 1, .inr (.inl (vp_updL g9 0 r9.toInt64))))]) [1, 2, 0] (by decide) rfl
    have hK9 := hK.sub (tys' := [(cO, .object "java/lang/Object"), (cJ, .long)]) [0, 1] rfl
    refine W.widen (k := 1) (n := 6) (by omega) (by omega) ?_
    exact W.iret (v := 0) hx hb hr (fun t ht hW => ⟨⟨_, (u9, r9), rfl, ⟨rfl, e5⟩, ⟨by rw [ht]; exact hP9, va_K.moved hW.alike hK9, hD9⟩⟩, hS.F ht⟩) hS.2.2 d_Law_stream_18
  · exact absurd eX (fun z => z)
set_option maxHeartbeats 4000000 in
set_option maxRecDepth 100000 in
theorem c_Law_now_okG (l : Launch) (D : va_G) (hfl : l.stackTraces = false) (B0 : State) (hG : zG B0) (sz : Nat) (h rc d tp ln ct dp : Nat) (cO : ClassId) (e0 tb pr : Nat) (lv pmo : Int32) (pst : Option (Nat × (Nat → Option Nat))) (P : List PR9) (Q : va_W) (k : Nat) (cJ : ClassId) (o9 : Nat) (g9 : Nat → Int64) (htk : tok Q cO pst P) (hk : k < P.length) : Met l y_Law_now [Cond.codeWith y_Law_now b_Law_now 4 (some .int) [(0, 8, 11, 19)]] ({ frames := 5, cells := 1, slots := 6, locals := 107 }) (zMo [.ref h, .int (nI k), .ref o9] D ([(h, .inr (11, [.ref rc, .ref d])), (rc, .inr (4, [.ref tp, .ref ln, .ref tb, .ref ct, .ref dp])), (o9, .inl (cJ, 1, .inr (.inl g9)))] ++ (tplr cO e0 tb lv pr P.length pmo pst P ++ Q)) [(cO, .object "java/lang/Object"), (cJ, .long)] sz B0) (va_Qi (fun r0 (u : (Unit) × Int64) => r0 = 0 ∧ (fun r0 (_ : Unit) => r0 = (P.getD k pr9).1.2.2.2.2.2.2.2.1) u.2 u.1) (fun (u : (Unit) × Int64) t => zW D (va_A ([(h, .inr (11, [.ref rc, .ref d])), (rc, .inr (4, [.ref tp, .ref ln, .ref tb, .ref ct, .ref dp])), (o9, .inl (cJ, 1, .inr (.inl g9)))] ++ (tplr cO e0 tb lv pr P.length pmo pst P ++ Q)) sz) ([(h, .inr (11, [.ref rc, .ref d])), (rc, .inr (4, [.ref tp, .ref ln, .ref tb, .ref ct, .ref dp])), (o9, .inl (cJ, 1, .inr (.inl (vp_updL g9 0 u.2))))] ++ (tplr cO e0 tb lv pr P.length pmo pst P ++ Q)) [(cO, .object "java/lang/Object"), (cJ, .long)] t) (va_A ([(h, .inr (11, [.ref rc, .ref d])), (rc, .inr (4, [.ref tp, .ref ln, .ref tb, .ref ct, .ref dp])), (o9, .inl (cJ, 1, .inr (.inl g9)))] ++ (tplr cO e0 tb lv pr P.length pmo pst P ++ Q)) sz)) 1 6 (va_A ([(h, .inr (11, [.ref rc, .ref d])), (rc, .inr (4, [.ref tp, .ref ln, .ref tb, .ref ct, .ref dp])), (o9, .inl (cJ, 1, .inr (.inl g9)))] ++ (tplr cO e0 tb lv pr P.length pmo pst P ++ Q)) sz) := by
  refine va_MetW (cc := b_Law_now) (maxL := 4) (ret := (some .int)) (hh := [(0, 8, 11, 19)]) (by decide) rfl ?_
  intro p e s m args below meth cd s₁ Bd hml hv
  obtain ⟨rfl, hsz, hP, hK, hN, hD0, hO⟩ := hv
  have hx := Bd.exec
  have hb := Bd.bytes
  have hr := Bd.returns
  have hts := hN.use (a := ([.ref h, .int (nI k), .ref o9]).toArray)
  have hown : s.vm.findClass R_Law = some m.cls := findClass_of_methodNamed Bd.named
  have hlocks := Bd.notSynchronized
  have htab := z_tab Bd
  subst hsz
  have hD := hD0.self (sz := s.heap.size)
  have hAO := z_AO hD0 hO
  clear hD0
  have hA : ∀ q : Nat, s.heap.size ≤ q → va_A ([(h, .inr (11, [.ref rc, .ref d])), (rc, .inr (4, [.ref tp, .ref ln, .ref tb, .ref ct, .ref dp])), (o9, .inl (cJ, 1, .inr (.inl g9)))] ++ (tplr cO e0 tb lv pr P.length pmo pst P ++ Q)) s.heap.size q := fun q h => Or.inr h
  have hS : va_S (va_A ([(h, .inr (11, [.ref rc, .ref d])), (rc, .inr (4, [.ref tp, .ref ln, .ref tb, .ref ct, .ref dp])), (o9, .inl (cJ, 1, .inr (.inl g9)))] ++ (tplr cO e0 tb lv pr P.length pmo pst P ++ Q)) s.heap.size) s.heap s.heap [] := va_S.rf
  generalize hAe : va_A ([(h, .inr (11, [.ref rc, .ref d])), (rc, .inr (4, [.ref tp, .ref ln, .ref tb, .ref ct, .ref dp])), (o9, .inl (cJ, 1, .inr (.inl g9)))] ++ (tplr cO e0 tb lv pr P.length pmo pst P ++ Q)) s.heap.size = A at hD hA hS hAO ⊢
  have hP : va_P D classes ([(h, .inr (11, [.ref rc, .ref d])), (rc, .inr (4, [.ref tp, .ref ln, .ref tb, .ref ct, .ref dp])), (o9, .inl (cJ, 1, .inr (.inl g9)))] ++ (tplr cO e0 tb lv pr P.length pmo pst P ++ Q)) s.heap := hP
  have hl := lv_entry ([.ref h, .int (nI k), .ref o9]) (n := 4) (Nat.le_of_ble_eq_true rfl)
  rw [lg_entry_eq]
  generalize (lg_sl ([.ref h, .int (nI k), .ref o9]) ++ List.replicate (4 - (lg_sl ([.ref h, .int (nI k), .ref o9])).length) Slot.unset).toArray = ls at hl ⊢
  have hl : lv_has ls 4 [(0, .ref h), (1, .int (nI k)), (2, .ref o9)] := hl
  refine lv_aload_n hx hb d_Law_now_0 rfl (lv_at hl 2 rfl) ?_
  refine lv_iconst (v := 0) hx hb d_Law_now_1 (by decide) ?_
  refine lv_aload_n hx hb d_Law_now_2 rfl (lv_at hl 0 rfl) ?_
  refine lv_iload_n hx hb d_Law_now_3 rfl (lv_at hl 1 rfl) ?_
  have hPc := hP.part (cx := [(h, .inr (11, [.ref rc, .ref d])), (rc, .inr (4, [.ref tp, .ref ln, .ref tb, .ref ct, .ref dp]))]) [0, 1] rfl
  have hKc := hK.sub (tys' := [(cO, .object "java/lang/Object")]) [0] rfl
  have hDc := hD.part (cx := [(h, .inr (11, [.ref rc, .ref d])), (rc, .inr (4, [.ref tp, .ref ln, .ref tb, .ref ct, .ref dp]))]) [0, 1] (by decide) rfl
  have hFc := va_freeP (cx := [(h, .inr (11, [.ref rc, .ref d])), (rc, .inr (4, [.ref tp, .ref ln, .ref tb, .ref ct, .ref dp]))]) hD hS hA [0, 1] rfl
  refine z_callVTl (As := [.int (nI k)]) (rest := [.int 0, .ref o9]) ⟨hx, hb, hml, hown, hts⟩ (c_SS_now_ok l D hfl B0 hG s.heap.size h rc d tp ln ct dp cO e0 tb pr lv pmo pst P Q k htk hk) (z_cV hN wd_850 wd_59 wd_847 hd_SS_now rfl rfl ⟨Nat.le_of_ble_eq_true rfl, Nat.le_of_ble_eq_true rfl⟩ wd_848 wd_849) (z_preVo (va_recv (ci := 11) (q0 := 0) hK hP rfl rfl) hPc hKc hN hDc hO hS hAO) rfl hl.1 rfl (lv_room (Nat.le_of_ble_eq_true rfl)) d_Law_now_4 ⟨Nat.le_of_ble_eq_true rfl, Nat.le_of_ble_eq_true rfl⟩ hS (fun q _ h => hFc q h) hFc (fun r9 u9 t H locs ht hvm e4 hB hz1 hk1 hS => ?_) (fun X x H locs eX hcx hz1 hk1 hS => ?_)
  · obtain ⟨hP1, hK1, hD1⟩ := hB
    rw [ht] at hP1
    obtain ⟨hP, hD⟩ := va_joinP (wr := [(o9, .inl (cJ, 1, .inr (.inl g9)))]) (rx := [(h, .inr (11, [.ref rc, .ref d])), (rc, .inr (4, [.ref tp, .ref ln, .ref tb, .ref ct, .ref dp]))]) hP hD [0, 1] [2] rfl rfl (by decide) (by decide) hk1 hFc hP1 hD1
    clear hk1 hP1 hD1 hFc hPc hDc hz1
    have hP : va_P D classes ([(o9, .inl (cJ, 1, .inr (.inl g9))), (h, .inr (11, [.ref rc, .ref d])), (rc, .inr (4, [.ref tp, .ref ln, .ref tb, .ref ct, .ref dp]))] ++ (tplr cO e0 tb lv pr P.length pmo pst P ++ Q)) H := hP
    have hD : va_D A ([(o9, .inl (cJ, 1, .inr (.inl g9))), (h, .inr (11, [.ref rc, .ref d])), (rc, .inr (4, [.ref tp, .ref ln, .ref tb, .ref ct, .ref dp]))] ++ (tplr cO e0 tb lv pr P.length pmo pst P ++ Q)) := hD
    refine z_last hx hb hK hP hD hS 0 1 rfl rfl 0 rfl (by decide) (by decide) d_Law_now_7 (fun H locs hP hD hS => ?_)
    have hP : va_P D classes ([(o9, .inl (cJ, 1, .inr (.inl (vp_updL g9 0 r9)))), (h, .inr (11, [.ref rc, .ref d])), (rc, .inr (4, [.ref tp, .ref ln, .ref tb, .ref ct, .ref dp]))] ++ (tplr cO e0 tb lv pr P.length pmo pst P ++ Q)) H := hP
    have hD : va_D A ([(o9, .inl (cJ, 1, .inr (.inl (vp_updL g9 0 r9)))), (h, .inr (11, [.ref rc, .ref d])), (rc, .inr (4, [.ref tp, .ref ln, .ref tb, .ref ct, .ref dp]))] ++ (tplr cO e0 tb lv pr P.length pmo pst P ++ Q)) := hD
    refine lv_goto (tgt := 14) hx hb d_Law_now_8 rfl ?_
    refine lv_iconst (v := 0) hx hb d_Law_now_14 (by decide) ?_
    have hP9 := hP.part (cx := [(h, .inr (11, [.ref rc, .ref d])), (rc, .inr (4, [.ref tp, .ref ln, .ref tb, .ref ct, .ref dp])), (o9, .inl (cJ, 1, .inr (.inl (vp_updL g9 0 r9))))]) [1, 2, 0] rfl
    have hD9 := hD.part (cx := [(h, .inr (11, [.ref rc, .ref d])), (rc, .inr (4, [.ref tp, .ref ln, .ref tb, .ref ct, .ref dp])), (o9, .inl (cJ, 1, .inr (.inl (vp_updL g9 0 r9))))]) [1, 2, 0] (by decide) rfl
    have hK9 := hK.sub (tys' := [(cO, .object "java/lang/Object"), (cJ, .long)]) [0, 1] rfl
    refine W.widen (k := 1) (n := 6) (by omega) (by omega) ?_
    exact W.iret (v := 0) hx hb hr (fun t ht hW => ⟨⟨_, (u9, r9), rfl, ⟨rfl, e4⟩, ⟨by rw [ht]; exact hP9, va_K.moved hW.alike hK9, hD9⟩⟩, hS.F ht⟩) hS.2.2 d_Law_now_15
  · exact absurd eX (fun z => z)
set_option maxHeartbeats 4000000 in
set_option maxRecDepth 100000 in
theorem c_Law_order_okG (l : Launch) (D : va_G) (hfl : l.stackTraces = false) (B0 : State) (hG : zG B0) (sz : Nat) (h rc d tp ln ct dp : Nat) (cO : ClassId) (e0 tb pr : Nat) (lv pmo : Int32) (pst : Option (Nat × (Nat → Option Nat))) (P : List PR9) (Q : va_W) (k j w : Nat) (cJ : ClassId) (o9 : Nat) (g9 : Nat → Int64) (htk : tok Q cO pst P) (hk : k < P.length) (hj : j < (P.getD k pr9).2.2.1.length) (hw : w ≤ 3) : Met l y_Law_order [Cond.codeWith y_Law_order b_Law_order 6 (some .int) [(0, 11, 14, 13), (0, 11, 18, 19)]] ({ frames := 5, cells := 1, slots := 6, locals := 110 }) (zMo [.ref h, .int (nI k), .int (nI j), .int (nI w), .ref o9] D ([(h, .inr (11, [.ref rc, .ref d])), (rc, .inr (4, [.ref tp, .ref ln, .ref tb, .ref ct, .ref dp])), (o9, .inl (cJ, 1, .inr (.inl g9)))] ++ (tplr cO e0 tb lv pr P.length pmo pst P ++ Q)) [(cO, .object "java/lang/Object"), (cJ, .long)] sz B0) (va_Qi (fun r0 (u : (Unit) × Int64) => r0 = 0 ∧ (fun r0 (_ : Unit) => r0 = odV ((P.getD k pr9).2.2.1.getD j (0, oz0)).2 w) u.2 u.1) (fun (u : (Unit) × Int64) t => zW D (va_A ([(h, .inr (11, [.ref rc, .ref d])), (rc, .inr (4, [.ref tp, .ref ln, .ref tb, .ref ct, .ref dp])), (o9, .inl (cJ, 1, .inr (.inl g9)))] ++ (tplr cO e0 tb lv pr P.length pmo pst P ++ Q)) sz) ([(h, .inr (11, [.ref rc, .ref d])), (rc, .inr (4, [.ref tp, .ref ln, .ref tb, .ref ct, .ref dp])), (o9, .inl (cJ, 1, .inr (.inl (vp_updL g9 0 u.2))))] ++ (tplr cO e0 tb lv pr P.length pmo pst P ++ Q)) [(cO, .object "java/lang/Object"), (cJ, .long)] t) (va_A ([(h, .inr (11, [.ref rc, .ref d])), (rc, .inr (4, [.ref tp, .ref ln, .ref tb, .ref ct, .ref dp])), (o9, .inl (cJ, 1, .inr (.inl g9)))] ++ (tplr cO e0 tb lv pr P.length pmo pst P ++ Q)) sz)) 1 6 (va_A ([(h, .inr (11, [.ref rc, .ref d])), (rc, .inr (4, [.ref tp, .ref ln, .ref tb, .ref ct, .ref dp])), (o9, .inl (cJ, 1, .inr (.inl g9)))] ++ (tplr cO e0 tb lv pr P.length pmo pst P ++ Q)) sz) := by
  refine va_MetW (cc := b_Law_order) (maxL := 6) (ret := (some .int)) (hh := [(0, 11, 14, 13), (0, 11, 18, 19)]) (by decide) rfl ?_
  intro p e s m args below meth cd s₁ Bd hml hv
  obtain ⟨rfl, hsz, hP, hK, hN, hD0, hO⟩ := hv
  have hx := Bd.exec
  have hb := Bd.bytes
  have hr := Bd.returns
  have hts := hN.use (a := ([.ref h, .int (nI k), .int (nI j), .int (nI w), .ref o9]).toArray)
  have hown : s.vm.findClass R_Law = some m.cls := findClass_of_methodNamed Bd.named
  have hlocks := Bd.notSynchronized
  have htab := z_tab Bd
  subst hsz
  have hD := hD0.self (sz := s.heap.size)
  have hAO := z_AO hD0 hO
  clear hD0
  have hA : ∀ q : Nat, s.heap.size ≤ q → va_A ([(h, .inr (11, [.ref rc, .ref d])), (rc, .inr (4, [.ref tp, .ref ln, .ref tb, .ref ct, .ref dp])), (o9, .inl (cJ, 1, .inr (.inl g9)))] ++ (tplr cO e0 tb lv pr P.length pmo pst P ++ Q)) s.heap.size q := fun q h => Or.inr h
  have hS : va_S (va_A ([(h, .inr (11, [.ref rc, .ref d])), (rc, .inr (4, [.ref tp, .ref ln, .ref tb, .ref ct, .ref dp])), (o9, .inl (cJ, 1, .inr (.inl g9)))] ++ (tplr cO e0 tb lv pr P.length pmo pst P ++ Q)) s.heap.size) s.heap s.heap [] := va_S.rf
  generalize hAe : va_A ([(h, .inr (11, [.ref rc, .ref d])), (rc, .inr (4, [.ref tp, .ref ln, .ref tb, .ref ct, .ref dp])), (o9, .inl (cJ, 1, .inr (.inl g9)))] ++ (tplr cO e0 tb lv pr P.length pmo pst P ++ Q)) s.heap.size = A at hD hA hS hAO ⊢
  have hP : va_P D classes ([(h, .inr (11, [.ref rc, .ref d])), (rc, .inr (4, [.ref tp, .ref ln, .ref tb, .ref ct, .ref dp])), (o9, .inl (cJ, 1, .inr (.inl g9)))] ++ (tplr cO e0 tb lv pr P.length pmo pst P ++ Q)) s.heap := hP
  have hl := lv_entry ([.ref h, .int (nI k), .int (nI j), .int (nI w), .ref o9]) (n := 6) (Nat.le_of_ble_eq_true rfl)
  rw [lg_entry_eq]
  generalize (lg_sl ([.ref h, .int (nI k), .int (nI j), .int (nI w), .ref o9]) ++ List.replicate (6 - (lg_sl ([.ref h, .int (nI k), .int (nI j), .int (nI w), .ref o9])).length) Slot.unset).toArray = ls at hl ⊢
  have hl : lv_has ls 6 [(0, .ref h), (1, .int (nI k)), (2, .int (nI j)), (3, .int (nI w)), (4, .ref o9)] := hl
  refine lv_aload hx hb d_Law_order_0 (lv_at hl 4 rfl) ?_
  refine lv_iconst (v := 0) hx hb d_Law_order_2 (by decide) ?_
  refine lv_aload_n hx hb d_Law_order_3 rfl (lv_at hl 0 rfl) ?_
  refine lv_iload_n hx hb d_Law_order_4 rfl (lv_at hl 1 rfl) ?_
  refine lv_iload_n hx hb d_Law_order_5 rfl (lv_at hl 2 rfl) ?_
  refine lv_iload_n hx hb d_Law_order_6 rfl (lv_at hl 3 rfl) ?_
  have hPc := hP.part (cx := [(h, .inr (11, [.ref rc, .ref d])), (rc, .inr (4, [.ref tp, .ref ln, .ref tb, .ref ct, .ref dp]))]) [0, 1] rfl
  have hKc := hK.sub (tys' := [(cO, .object "java/lang/Object")]) [0] rfl
  have hDc := hD.part (cx := [(h, .inr (11, [.ref rc, .ref d])), (rc, .inr (4, [.ref tp, .ref ln, .ref tb, .ref ct, .ref dp]))]) [0, 1] (by decide) rfl
  have hFc := va_freeP (cx := [(h, .inr (11, [.ref rc, .ref d])), (rc, .inr (4, [.ref tp, .ref ln, .ref tb, .ref ct, .ref dp]))]) hD hS hA [0, 1] rfl
  refine z_callVTl (As := [.int (nI k), .int (nI j), .int (nI w)]) (rest := [.int 0, .ref o9]) ⟨hx, hb, hml, hown, hts⟩ (c_SS_order_ok l D hfl B0 hG s.heap.size h rc d tp ln ct dp cO e0 tb pr lv pmo pst P Q k j w htk hk hj hw) (z_cV hN wd_857 wd_59 wd_854 hd_SS_order rfl rfl ⟨Nat.le_of_ble_eq_true rfl, Nat.le_of_ble_eq_true rfl⟩ wd_855 wd_856) (z_preVo (va_recv (ci := 11) (q0 := 0) hK hP rfl rfl) hPc hKc hN hDc hO hS hAO) rfl hl.1 rfl (lv_room (Nat.le_of_ble_eq_true rfl)) d_Law_order_7 ⟨Nat.le_of_ble_eq_true rfl, Nat.le_of_ble_eq_true rfl⟩ hS (fun q _ h => hFc q h) hFc (fun r9 u9 t H locs ht hvm e7 hB hz1 hk1 hS => ?_) (fun X x H locs eX hcx hz1 hk1 hS => ?_)
  · obtain ⟨hP1, hK1, hD1⟩ := hB
    rw [ht] at hP1
    obtain ⟨hP, hD⟩ := va_joinP (wr := [(o9, .inl (cJ, 1, .inr (.inl g9)))]) (rx := [(h, .inr (11, [.ref rc, .ref d])), (rc, .inr (4, [.ref tp, .ref ln, .ref tb, .ref ct, .ref dp]))]) hP hD [0, 1] [2] rfl rfl (by decide) (by decide) hk1 hFc hP1 hD1
    clear hk1 hP1 hD1 hFc hPc hDc hz1
    have hP : va_P D classes ([(o9, .inl (cJ, 1, .inr (.inl g9))), (h, .inr (11, [.ref rc, .ref d])), (rc, .inr (4, [.ref tp, .ref ln, .ref tb, .ref ct, .ref dp]))] ++ (tplr cO e0 tb lv pr P.length pmo pst P ++ Q)) H := hP
    have hD : va_D A ([(o9, .inl (cJ, 1, .inr (.inl g9))), (h, .inr (11, [.ref rc, .ref d])), (rc, .inr (4, [.ref tp, .ref ln, .ref tb, .ref ct, .ref dp]))] ++ (tplr cO e0 tb lv pr P.length pmo pst P ++ Q)) := hD
    refine z_last hx hb hK hP hD hS 0 1 rfl rfl 0 rfl (by decide) (by decide) d_Law_order_10 (fun H locs hP hD hS => ?_)
    have hP : va_P D classes ([(o9, .inl (cJ, 1, .inr (.inl (vp_updL g9 0 r9)))), (h, .inr (11, [.ref rc, .ref d])), (rc, .inr (4, [.ref tp, .ref ln, .ref tb, .ref ct, .ref dp]))] ++ (tplr cO e0 tb lv pr P.length pmo pst P ++ Q)) H := hP
    have hD : va_D A ([(o9, .inl (cJ, 1, .inr (.inl (vp_updL g9 0 r9)))), (h, .inr (11, [.ref rc, .ref d])), (rc, .inr (4, [.ref tp, .ref ln, .ref tb, .ref ct, .ref dp]))] ++ (tplr cO e0 tb lv pr P.length pmo pst P ++ Q)) := hD
    refine lv_goto (tgt := 22) hx hb d_Law_order_11 rfl ?_
    refine lv_iconst (v := 0) hx hb d_Law_order_22 (by decide) ?_
    have hP9 := hP.part (cx := [(h, .inr (11, [.ref rc, .ref d])), (rc, .inr (4, [.ref tp, .ref ln, .ref tb, .ref ct, .ref dp])), (o9, .inl (cJ, 1, .inr (.inl (vp_updL g9 0 r9))))]) [1, 2, 0] rfl
    have hD9 := hD.part (cx := [(h, .inr (11, [.ref rc, .ref d])), (rc, .inr (4, [.ref tp, .ref ln, .ref tb, .ref ct, .ref dp])), (o9, .inl (cJ, 1, .inr (.inl (vp_updL g9 0 r9))))]) [1, 2, 0] (by decide) rfl
    have hK9 := hK.sub (tys' := [(cO, .object "java/lang/Object"), (cJ, .long)]) [0, 1] rfl
    refine W.widen (k := 1) (n := 6) (by omega) (by omega) ?_
    exact W.iret (v := 0) hx hb hr (fun t ht hW => ⟨⟨_, (u9, r9), rfl, ⟨rfl, e7⟩, ⟨by rw [ht]; exact hP9, va_K.moved hW.alike hK9, hD9⟩⟩, hS.F ht⟩) hS.2.2 d_Law_order_23
  · exact absurd eX (fun z => z)
set_option maxHeartbeats 4000000 in
set_option maxRecDepth 100000 in
theorem c_Law_order_noneG (l : Launch) (D : va_G) (hfl : l.stackTraces = false) (B0 : State) (hG : zG B0) (sz : Nat) (h rc d tp ln ct dp : Nat) (cO : ClassId) (e0 tb pr : Nat) (lv pmo : Int32) (pst : Option (Nat × (Nat → Option Nat))) (P : List PR9) (Q : va_W) (k : Nat) (i w : Int32) (cJ : ClassId) (o9 : Nat) (g9 : Nat → Int64) (htk : tok Q cO pst P) (hk : k < P.length) (hj : i < 0 ∨ ¬ i < nI (P.getD k pr9).2.2.1.length) (h0 : ¬ w < 0) (h3 : ¬ 3 < w) : Met l y_Law_order [Cond.codeWith y_Law_order b_Law_order 6 (some .int) [(0, 11, 14, 13), (0, 11, 18, 19)]] ({ frames := 5, cells := 1, slots := 6, locals := 110 }) (zMo [.ref h, .int (nI k), .int i, .int w, .ref o9] D ([(h, .inr (11, [.ref rc, .ref d])), (rc, .inr (4, [.ref tp, .ref ln, .ref tb, .ref ct, .ref dp])), (o9, .inl (cJ, 1, .inr (.inl g9)))] ++ (tplr cO e0 tb lv pr P.length pmo pst P ++ Q)) [(cO, .object "java/lang/Object"), (cJ, .long)] sz B0) (va_Qi (fun r0 (u : (Unit) × Int64) => r0 = 0 ∧ (fun r0 (_ : Unit) => r0 = -1) u.2 u.1) (fun (u : (Unit) × Int64) t => zW D (va_A ([(h, .inr (11, [.ref rc, .ref d])), (rc, .inr (4, [.ref tp, .ref ln, .ref tb, .ref ct, .ref dp])), (o9, .inl (cJ, 1, .inr (.inl g9)))] ++ (tplr cO e0 tb lv pr P.length pmo pst P ++ Q)) sz) ([(h, .inr (11, [.ref rc, .ref d])), (rc, .inr (4, [.ref tp, .ref ln, .ref tb, .ref ct, .ref dp])), (o9, .inl (cJ, 1, .inr (.inl (vp_updL g9 0 u.2))))] ++ (tplr cO e0 tb lv pr P.length pmo pst P ++ Q)) [(cO, .object "java/lang/Object"), (cJ, .long)] t) (va_A ([(h, .inr (11, [.ref rc, .ref d])), (rc, .inr (4, [.ref tp, .ref ln, .ref tb, .ref ct, .ref dp])), (o9, .inl (cJ, 1, .inr (.inl g9)))] ++ (tplr cO e0 tb lv pr P.length pmo pst P ++ Q)) sz)) 1 6 (va_A ([(h, .inr (11, [.ref rc, .ref d])), (rc, .inr (4, [.ref tp, .ref ln, .ref tb, .ref ct, .ref dp])), (o9, .inl (cJ, 1, .inr (.inl g9)))] ++ (tplr cO e0 tb lv pr P.length pmo pst P ++ Q)) sz) := by
  refine va_MetW (cc := b_Law_order) (maxL := 6) (ret := (some .int)) (hh := [(0, 11, 14, 13), (0, 11, 18, 19)]) (by decide) rfl ?_
  intro p e s m args below meth cd s₁ Bd hml hv
  obtain ⟨rfl, hsz, hP, hK, hN, hD0, hO⟩ := hv
  have hx := Bd.exec
  have hb := Bd.bytes
  have hr := Bd.returns
  have hts := hN.use (a := ([.ref h, .int (nI k), .int i, .int w, .ref o9]).toArray)
  have hown : s.vm.findClass R_Law = some m.cls := findClass_of_methodNamed Bd.named
  have hlocks := Bd.notSynchronized
  have htab := z_tab Bd
  subst hsz
  have hD := hD0.self (sz := s.heap.size)
  have hAO := z_AO hD0 hO
  clear hD0
  have hA : ∀ q : Nat, s.heap.size ≤ q → va_A ([(h, .inr (11, [.ref rc, .ref d])), (rc, .inr (4, [.ref tp, .ref ln, .ref tb, .ref ct, .ref dp])), (o9, .inl (cJ, 1, .inr (.inl g9)))] ++ (tplr cO e0 tb lv pr P.length pmo pst P ++ Q)) s.heap.size q := fun q h => Or.inr h
  have hS : va_S (va_A ([(h, .inr (11, [.ref rc, .ref d])), (rc, .inr (4, [.ref tp, .ref ln, .ref tb, .ref ct, .ref dp])), (o9, .inl (cJ, 1, .inr (.inl g9)))] ++ (tplr cO e0 tb lv pr P.length pmo pst P ++ Q)) s.heap.size) s.heap s.heap [] := va_S.rf
  generalize hAe : va_A ([(h, .inr (11, [.ref rc, .ref d])), (rc, .inr (4, [.ref tp, .ref ln, .ref tb, .ref ct, .ref dp])), (o9, .inl (cJ, 1, .inr (.inl g9)))] ++ (tplr cO e0 tb lv pr P.length pmo pst P ++ Q)) s.heap.size = A at hD hA hS hAO ⊢
  have hP : va_P D classes ([(h, .inr (11, [.ref rc, .ref d])), (rc, .inr (4, [.ref tp, .ref ln, .ref tb, .ref ct, .ref dp])), (o9, .inl (cJ, 1, .inr (.inl g9)))] ++ (tplr cO e0 tb lv pr P.length pmo pst P ++ Q)) s.heap := hP
  have hl := lv_entry ([.ref h, .int (nI k), .int i, .int w, .ref o9]) (n := 6) (Nat.le_of_ble_eq_true rfl)
  rw [lg_entry_eq]
  generalize (lg_sl ([.ref h, .int (nI k), .int i, .int w, .ref o9]) ++ List.replicate (6 - (lg_sl ([.ref h, .int (nI k), .int i, .int w, .ref o9])).length) Slot.unset).toArray = ls at hl ⊢
  have hl : lv_has ls 6 [(0, .ref h), (1, .int (nI k)), (2, .int i), (3, .int w), (4, .ref o9)] := hl
  refine lv_aload hx hb d_Law_order_0 (lv_at hl 4 rfl) ?_
  refine lv_iconst (v := 0) hx hb d_Law_order_2 (by decide) ?_
  refine lv_aload_n hx hb d_Law_order_3 rfl (lv_at hl 0 rfl) ?_
  refine lv_iload_n hx hb d_Law_order_4 rfl (lv_at hl 1 rfl) ?_
  refine lv_iload_n hx hb d_Law_order_5 rfl (lv_at hl 2 rfl) ?_
  refine lv_iload_n hx hb d_Law_order_6 rfl (lv_at hl 3 rfl) ?_
  have hPc := hP.part (cx := [(h, .inr (11, [.ref rc, .ref d])), (rc, .inr (4, [.ref tp, .ref ln, .ref tb, .ref ct, .ref dp]))]) [0, 1] rfl
  have hKc := hK.sub (tys' := [(cO, .object "java/lang/Object")]) [0] rfl
  have hDc := hD.part (cx := [(h, .inr (11, [.ref rc, .ref d])), (rc, .inr (4, [.ref tp, .ref ln, .ref tb, .ref ct, .ref dp]))]) [0, 1] (by decide) rfl
  have hFc := va_freeP (cx := [(h, .inr (11, [.ref rc, .ref d])), (rc, .inr (4, [.ref tp, .ref ln, .ref tb, .ref ct, .ref dp]))]) hD hS hA [0, 1] rfl
  refine z_callVTl (As := [.int (nI k), .int i, .int w]) (rest := [.int 0, .ref o9]) ⟨hx, hb, hml, hown, hts⟩ (c_SS_order_none l D hfl B0 hG s.heap.size h rc d tp ln ct dp cO e0 tb pr lv pmo pst P Q k i w htk hk hj h0 h3) (z_cV hN wd_857 wd_59 wd_854 hd_SS_order rfl rfl ⟨Nat.le_of_ble_eq_true rfl, Nat.le_of_ble_eq_true rfl⟩ wd_855 wd_856) (z_preVo (va_recv (ci := 11) (q0 := 0) hK hP rfl rfl) hPc hKc hN hDc hO hS hAO) rfl hl.1 rfl (lv_room (Nat.le_of_ble_eq_true rfl)) d_Law_order_7 ⟨Nat.le_of_ble_eq_true rfl, Nat.le_of_ble_eq_true rfl⟩ hS (fun q _ h => hFc q h) hFc (fun r9 u9 t H locs ht hvm e7 hB hz1 hk1 hS => ?_) (fun X x H locs eX hcx hz1 hk1 hS => ?_)
  · obtain ⟨hP1, hK1, hD1⟩ := hB
    rw [ht] at hP1
    obtain ⟨hP, hD⟩ := va_joinP (wr := [(o9, .inl (cJ, 1, .inr (.inl g9)))]) (rx := [(h, .inr (11, [.ref rc, .ref d])), (rc, .inr (4, [.ref tp, .ref ln, .ref tb, .ref ct, .ref dp]))]) hP hD [0, 1] [2] rfl rfl (by decide) (by decide) hk1 hFc hP1 hD1
    clear hk1 hP1 hD1 hFc hPc hDc hz1
    have hP : va_P D classes ([(o9, .inl (cJ, 1, .inr (.inl g9))), (h, .inr (11, [.ref rc, .ref d])), (rc, .inr (4, [.ref tp, .ref ln, .ref tb, .ref ct, .ref dp]))] ++ (tplr cO e0 tb lv pr P.length pmo pst P ++ Q)) H := hP
    have hD : va_D A ([(o9, .inl (cJ, 1, .inr (.inl g9))), (h, .inr (11, [.ref rc, .ref d])), (rc, .inr (4, [.ref tp, .ref ln, .ref tb, .ref ct, .ref dp]))] ++ (tplr cO e0 tb lv pr P.length pmo pst P ++ Q)) := hD
    refine z_last hx hb hK hP hD hS 0 1 rfl rfl 0 rfl (by decide) (by decide) d_Law_order_10 (fun H locs hP hD hS => ?_)
    have hP : va_P D classes ([(o9, .inl (cJ, 1, .inr (.inl (vp_updL g9 0 r9)))), (h, .inr (11, [.ref rc, .ref d])), (rc, .inr (4, [.ref tp, .ref ln, .ref tb, .ref ct, .ref dp]))] ++ (tplr cO e0 tb lv pr P.length pmo pst P ++ Q)) H := hP
    have hD : va_D A ([(o9, .inl (cJ, 1, .inr (.inl (vp_updL g9 0 r9)))), (h, .inr (11, [.ref rc, .ref d])), (rc, .inr (4, [.ref tp, .ref ln, .ref tb, .ref ct, .ref dp]))] ++ (tplr cO e0 tb lv pr P.length pmo pst P ++ Q)) := hD
    refine lv_goto (tgt := 22) hx hb d_Law_order_11 rfl ?_
    refine lv_iconst (v := 0) hx hb d_Law_order_22 (by decide) ?_
    have hP9 := hP.part (cx := [(h, .inr (11, [.ref rc, .ref d])), (rc, .inr (4, [.ref tp, .ref ln, .ref tb, .ref ct, .ref dp])), (o9, .inl (cJ, 1, .inr (.inl (vp_updL g9 0 r9))))]) [1, 2, 0] rfl
    have hD9 := hD.part (cx := [(h, .inr (11, [.ref rc, .ref d])), (rc, .inr (4, [.ref tp, .ref ln, .ref tb, .ref ct, .ref dp])), (o9, .inl (cJ, 1, .inr (.inl (vp_updL g9 0 r9))))]) [1, 2, 0] (by decide) rfl
    have hK9 := hK.sub (tys' := [(cO, .object "java/lang/Object"), (cJ, .long)]) [0, 1] rfl
    refine W.widen (k := 1) (n := 6) (by omega) (by omega) ?_
    exact W.iret (v := 0) hx hb hr (fun t ht hW => ⟨⟨_, (u9, r9), rfl, ⟨rfl, e7⟩, ⟨by rw [ht]; exact hP9, va_K.moved hW.alike hK9, hD9⟩⟩, hS.F ht⟩) hS.2.2 d_Law_order_23
  · exact absurd eX (fun z => z)
set_option maxHeartbeats 4000000 in
set_option maxRecDepth 100000 in
theorem c_Law_programme_badNG (l : Launch) (D : va_G) (hfl : l.stackTraces = false) (B0 : State) (hG : zG B0) (sz : Nat) (h rc d tp ln ct dp : Nat) (cO : ClassId) (e0 tb pr : Nat) (lv pmo : Int32) (pst : Option (Nat × (Nat → Option Nat))) (P : List PR9) (Q : va_W) (k w : Int32) (cJ : ClassId) (o9 : Nat) (g9 : Nat → Int64) (htk : tok Q cO pst P) (hk : k < 0 ∨ ¬ k < nI P.length) (h0 : ¬ w < 0) (h6 : ¬ 6 < w) : Met l y_Law_programme [Cond.codeWith y_Law_programme b_Law_programme 5 (some .int) [(0, 10, 13, 13), (0, 10, 17, 19)]] ({ frames := 7, cells := 1, slots := 6, locals := 105 }) (zMo [.ref h, .int k, .int w, .ref o9] D ([(h, .inr (11, [.ref rc, .ref d])), (rc, .inr (4, [.ref tp, .ref ln, .ref tb, .ref ct, .ref dp])), (o9, .inl (cJ, 1, .inr (.inl g9)))] ++ (tplr cO e0 tb lv pr P.length pmo pst P ++ Q)) [(cO, .object "java/lang/Object"), (cJ, .long)] sz B0) (va_Qi (fun r0 (_ : Unit) => r0 = 2) (fun (_u : Unit) t => zW D (va_A ([(h, .inr (11, [.ref rc, .ref d])), (rc, .inr (4, [.ref tp, .ref ln, .ref tb, .ref ct, .ref dp])), (o9, .inl (cJ, 1, .inr (.inl g9)))] ++ (tplr cO e0 tb lv pr P.length pmo pst P ++ Q)) sz) ([(h, .inr (11, [.ref rc, .ref d])), (rc, .inr (4, [.ref tp, .ref ln, .ref tb, .ref ct, .ref dp])), (o9, .inl (cJ, 1, .inr (.inl g9)))] ++ (tplr cO e0 tb lv pr P.length pmo pst P ++ Q)) [(cO, .object "java/lang/Object"), (cJ, .long)] t) (va_A ([(h, .inr (11, [.ref rc, .ref d])), (rc, .inr (4, [.ref tp, .ref ln, .ref tb, .ref ct, .ref dp])), (o9, .inl (cJ, 1, .inr (.inl g9)))] ++ (tplr cO e0 tb lv pr P.length pmo pst P ++ Q)) sz)) 1 6 (va_A ([(h, .inr (11, [.ref rc, .ref d])), (rc, .inr (4, [.ref tp, .ref ln, .ref tb, .ref ct, .ref dp])), (o9, .inl (cJ, 1, .inr (.inl g9)))] ++ (tplr cO e0 tb lv pr P.length pmo pst P ++ Q)) sz) := by
  refine va_MetW (cc := b_Law_programme) (maxL := 5) (ret := (some .int)) (hh := [(0, 10, 13, 13), (0, 10, 17, 19)]) (by decide) rfl ?_
  intro p e s m args below meth cd s₁ Bd hml hv
  obtain ⟨rfl, hsz, hP, hK, hN, hD0, hO⟩ := hv
  have hx := Bd.exec
  have hb := Bd.bytes
  have hr := Bd.returns
  have hts := hN.use (a := ([.ref h, .int k, .int w, .ref o9]).toArray)
  have hown : s.vm.findClass R_Law = some m.cls := findClass_of_methodNamed Bd.named
  have hlocks := Bd.notSynchronized
  have htab := z_tab Bd
  subst hsz
  have hD := hD0.self (sz := s.heap.size)
  have hAO := z_AO hD0 hO
  clear hD0
  have hA : ∀ q : Nat, s.heap.size ≤ q → va_A ([(h, .inr (11, [.ref rc, .ref d])), (rc, .inr (4, [.ref tp, .ref ln, .ref tb, .ref ct, .ref dp])), (o9, .inl (cJ, 1, .inr (.inl g9)))] ++ (tplr cO e0 tb lv pr P.length pmo pst P ++ Q)) s.heap.size q := fun q h => Or.inr h
  have hS : va_S (va_A ([(h, .inr (11, [.ref rc, .ref d])), (rc, .inr (4, [.ref tp, .ref ln, .ref tb, .ref ct, .ref dp])), (o9, .inl (cJ, 1, .inr (.inl g9)))] ++ (tplr cO e0 tb lv pr P.length pmo pst P ++ Q)) s.heap.size) s.heap s.heap [] := va_S.rf
  generalize hAe : va_A ([(h, .inr (11, [.ref rc, .ref d])), (rc, .inr (4, [.ref tp, .ref ln, .ref tb, .ref ct, .ref dp])), (o9, .inl (cJ, 1, .inr (.inl g9)))] ++ (tplr cO e0 tb lv pr P.length pmo pst P ++ Q)) s.heap.size = A at hD hA hS hAO ⊢
  have hP : va_P D classes ([(h, .inr (11, [.ref rc, .ref d])), (rc, .inr (4, [.ref tp, .ref ln, .ref tb, .ref ct, .ref dp])), (o9, .inl (cJ, 1, .inr (.inl g9)))] ++ (tplr cO e0 tb lv pr P.length pmo pst P ++ Q)) s.heap := hP
  have hl := lv_entry ([.ref h, .int k, .int w, .ref o9]) (n := 5) (Nat.le_of_ble_eq_true rfl)
  rw [lg_entry_eq]
  generalize (lg_sl ([.ref h, .int k, .int w, .ref o9]) ++ List.replicate (5 - (lg_sl ([.ref h, .int k, .int w, .ref o9])).length) Slot.unset).toArray = ls at hl ⊢
  have hl : lv_has ls 5 [(0, .ref h), (1, .int k), (2, .int w), (3, .ref o9)] := hl
  refine lv_aload_n hx hb d_Law_programme_0 rfl (lv_at hl 3 rfl) ?_
  refine lv_iconst (v := 0) hx hb d_Law_programme_1 (by decide) ?_
  refine lv_aload_n hx hb d_Law_programme_2 rfl (lv_at hl 0 rfl) ?_
  refine lv_iload_n hx hb d_Law_programme_3 rfl (lv_at hl 1 rfl) ?_
  refine lv_iload_n hx hb d_Law_programme_4 rfl (lv_at hl 2 rfl) ?_
  have hPc := hP.part (cx := [(h, .inr (11, [.ref rc, .ref d])), (rc, .inr (4, [.ref tp, .ref ln, .ref tb, .ref ct, .ref dp]))]) [0, 1] rfl
  have hKc := hK.sub (tys' := [(cO, .object "java/lang/Object")]) [0] rfl
  have hDc := hD.part (cx := [(h, .inr (11, [.ref rc, .ref d])), (rc, .inr (4, [.ref tp, .ref ln, .ref tb, .ref ct, .ref dp]))]) [0, 1] (by decide) rfl
  have hFc := va_freeP (cx := [(h, .inr (11, [.ref rc, .ref d])), (rc, .inr (4, [.ref tp, .ref ln, .ref tb, .ref ct, .ref dp]))]) hD hS hA [0, 1] rfl
  refine z_callVTi (As := [.int k, .int w]) (rest := [.int 0, .ref o9]) ⟨hx, hb, hml, hown, hts⟩ (c_SS_programme_badN l D hfl B0 hG s.heap.size h rc d tp ln ct dp cO e0 tb pr lv pmo pst P Q k w htk hk h0 h6) (z_cV hN wd_827 wd_59 wd_824 hd_SS_programme rfl rfl ⟨Nat.le_of_ble_eq_true rfl, Nat.le_of_ble_eq_true rfl⟩ wd_825 wd_826) (z_preVo (va_recv (ci := 11) (q0 := 0) hK hP rfl rfl) hPc hKc hN hDc hO hS hAO) rfl hl.1 rfl (lv_room (Nat.le_of_ble_eq_true rfl)) d_Law_programme_5 ⟨Nat.le_of_ble_eq_true rfl, Nat.le_of_ble_eq_true rfl⟩ hS (fun q _ h => hFc q h) hFc (fun r9 u9 t H locs ht hvm e5 hB hz1 hk1 hS => ?_) (fun X x H locs eX hcx hz1 hk1 hS => ?_)
  · exact absurd e5 (fun z => z)
  · subst eX
    have hP : va_P D classes ([(h, .inr (11, [.ref rc, .ref d])), (rc, .inr (4, [.ref tp, .ref ln, .ref tb, .ref ct, .ref dp])), (o9, .inl (cJ, 1, .inr (.inl g9)))] ++ (tplr cO e0 tb lv pr P.length pmo pst P ++ Q)) H := z_Pkept hP hk1
    refine z_catch2N htab (by decide) (by decide) (by decide) (by decide) hown (hts _ wd_695) (hts _ wd_770) (z_no hG hO (by decide +kernel)) (hts _ wd_777) hcx ?_
    clear hcx hz1 hk1
    refine lv_astore (lv' := [(4, .ref x), (0, .ref h), (1, .int k), (2, .int w), (3, .ref o9)]) hx hb d_Law_programme_17 hl (by decide) rfl (fun ls hl => ?_)
    refine lv_iconst (v := 2) hx hb d_Law_programme_19 (by decide) ?_
    have hP9 := hP.part (cx := [(h, .inr (11, [.ref rc, .ref d])), (rc, .inr (4, [.ref tp, .ref ln, .ref tb, .ref ct, .ref dp])), (o9, .inl (cJ, 1, .inr (.inl g9)))]) [0, 1, 2] rfl
    have hD9 := hD.part (cx := [(h, .inr (11, [.ref rc, .ref d])), (rc, .inr (4, [.ref tp, .ref ln, .ref tb, .ref ct, .ref dp])), (o9, .inl (cJ, 1, .inr (.inl g9)))]) [0, 1, 2] (by decide) rfl
    have hK9 := hK.sub (tys' := [(cO, .object "java/lang/Object"), (cJ, .long)]) [0, 1] rfl
    refine W.widen (k := 1) (n := 6) (by omega) (by omega) ?_
    exact W.iret (v := 2) hx hb hr (fun t ht hW => ⟨⟨_, (), rfl, rfl, ⟨by rw [ht]; exact hP9, va_K.moved hW.alike hK9, hD9⟩⟩, hS.F ht⟩) hS.2.2 d_Law_programme_20
set_option maxHeartbeats 4000000 in
set_option maxRecDepth 100000 in
theorem c_Law_stream_badNG (l : Launch) (D : va_G) (hfl : l.stackTraces = false) (B0 : State) (hG : zG B0) (sz : Nat) (h rc d tp ln ct dp : Nat) (cO : ClassId) (e0 tb pr : Nat) (lv pmo : Int32) (pst : Option (Nat × (Nat → Option Nat))) (P : List PR9) (Q : va_W) (k j : Int32) (cJ : ClassId) (o9 : Nat) (g9 : Nat → Int64) (htk : tok Q cO pst P) (hk : k < 0 ∨ ¬ k < nI P.length) : Met l y_Law_stream [Cond.codeWith y_Law_stream b_Law_stream 5 (some .int) [(0, 10, 13, 19)]] ({ frames := 7, cells := 1, slots := 6, locals := 106 }) (zMo [.ref h, .int k, .int j, .ref o9] D ([(h, .inr (11, [.ref rc, .ref d])), (rc, .inr (4, [.ref tp, .ref ln, .ref tb, .ref ct, .ref dp])), (o9, .inl (cJ, 1, .inr (.inl g9)))] ++ (tplr cO e0 tb lv pr P.length pmo pst P ++ Q)) [(cO, .object "java/lang/Object"), (cJ, .long)] sz B0) (va_Qi (fun r0 (_ : Unit) => r0 = 1) (fun (_u : Unit) t => zW D (va_A ([(h, .inr (11, [.ref rc, .ref d])), (rc, .inr (4, [.ref tp, .ref ln, .ref tb, .ref ct, .ref dp])), (o9, .inl (cJ, 1, .inr (.inl g9)))] ++ (tplr cO e0 tb lv pr P.length pmo pst P ++ Q)) sz) ([(h, .inr (11, [.ref rc, .ref d])), (rc, .inr (4, [.ref tp, .ref ln, .ref tb, .ref ct, .ref dp])), (o9, .inl (cJ, 1, .inr (.inl g9)))] ++ (tplr cO e0 tb lv pr P.length pmo pst P ++ Q)) [(cO, .object "java/lang/Object"), (cJ, .long)] t) (va_A ([(h, .inr (11, [.ref rc, .ref d])), (rc, .inr (4, [.ref tp, .ref ln, .ref tb, .ref ct, .ref dp])), (o9, .inl (cJ, 1, .inr (.inl g9)))] ++ (tplr cO e0 tb lv pr P.length pmo pst P ++ Q)) sz)) 1 6 (va_A ([(h, .inr (11, [.ref rc, .ref d])), (rc, .inr (4, [.ref tp, .ref ln, .ref tb, .ref ct, .ref dp])), (o9, .inl (cJ, 1, .inr (.inl g9)))] ++ (tplr cO e0 tb lv pr P.length pmo pst P ++ Q)) sz) := by
  refine va_MetW (cc := b_Law_stream) (maxL := 5) (ret := (some .int)) (hh := [(0, 10, 13, 19)]) (by decide) rfl ?_
  intro p e s m args below meth cd s₁ Bd hml hv
  obtain ⟨rfl, hsz, hP, hK, hN, hD0, hO⟩ := hv
  have hx := Bd.exec
  have hb := Bd.bytes
  have hr := Bd.returns
  have hts := hN.use (a := ([.ref h, .int k, .int j, .ref o9]).toArray)
  have hown : s.vm.findClass R_Law = some m.cls := findClass_of_methodNamed Bd.named
  have hlocks := Bd.notSynchronized
  have htab := z_tab Bd
  subst hsz
  have hD := hD0.self (sz := s.heap.size)
  have hAO := z_AO hD0 hO
  clear hD0
  have hA : ∀ q : Nat, s.heap.size ≤ q → va_A ([(h, .inr (11, [.ref rc, .ref d])), (rc, .inr (4, [.ref tp, .ref ln, .ref tb, .ref ct, .ref dp])), (o9, .inl (cJ, 1, .inr (.inl g9)))] ++ (tplr cO e0 tb lv pr P.length pmo pst P ++ Q)) s.heap.size q := fun q h => Or.inr h
  have hS : va_S (va_A ([(h, .inr (11, [.ref rc, .ref d])), (rc, .inr (4, [.ref tp, .ref ln, .ref tb, .ref ct, .ref dp])), (o9, .inl (cJ, 1, .inr (.inl g9)))] ++ (tplr cO e0 tb lv pr P.length pmo pst P ++ Q)) s.heap.size) s.heap s.heap [] := va_S.rf
  generalize hAe : va_A ([(h, .inr (11, [.ref rc, .ref d])), (rc, .inr (4, [.ref tp, .ref ln, .ref tb, .ref ct, .ref dp])), (o9, .inl (cJ, 1, .inr (.inl g9)))] ++ (tplr cO e0 tb lv pr P.length pmo pst P ++ Q)) s.heap.size = A at hD hA hS hAO ⊢
  have hP : va_P D classes ([(h, .inr (11, [.ref rc, .ref d])), (rc, .inr (4, [.ref tp, .ref ln, .ref tb, .ref ct, .ref dp])), (o9, .inl (cJ, 1, .inr (.inl g9)))] ++ (tplr cO e0 tb lv pr P.length pmo pst P ++ Q)) s.heap := hP
  have hl := lv_entry ([.ref h, .int k, .int j, .ref o9]) (n := 5) (Nat.le_of_ble_eq_true rfl)
  rw [lg_entry_eq]
  generalize (lg_sl ([.ref h, .int k, .int j, .ref o9]) ++ List.replicate (5 - (lg_sl ([.ref h, .int k, .int j, .ref o9])).length) Slot.unset).toArray = ls at hl ⊢
  have hl : lv_has ls 5 [(0, .ref h), (1, .int k), (2, .int j), (3, .ref o9)] := hl
  refine lv_aload_n hx hb d_Law_stream_0 rfl (lv_at hl 3 rfl) ?_
  refine lv_iconst (v := 0) hx hb d_Law_stream_1 (by decide) ?_
  refine lv_aload_n hx hb d_Law_stream_2 rfl (lv_at hl 0 rfl) ?_
  refine lv_iload_n hx hb d_Law_stream_3 rfl (lv_at hl 1 rfl) ?_
  refine lv_iload_n hx hb d_Law_stream_4 rfl (lv_at hl 2 rfl) ?_
  have hPc := hP.part (cx := [(h, .inr (11, [.ref rc, .ref d])), (rc, .inr (4, [.ref tp, .ref ln, .ref tb, .ref ct, .ref dp]))]) [0, 1] rfl
  have hKc := hK.sub (tys' := [(cO, .object "java/lang/Object")]) [0] rfl
  have hDc := hD.part (cx := [(h, .inr (11, [.ref rc, .ref d])), (rc, .inr (4, [.ref tp, .ref ln, .ref tb, .ref ct, .ref dp]))]) [0, 1] (by decide) rfl
  have hFc := va_freeP (cx := [(h, .inr (11, [.ref rc, .ref d])), (rc, .inr (4, [.ref tp, .ref ln, .ref tb, .ref ct, .ref dp]))]) hD hS hA [0, 1] rfl
  refine z_callVTi (As := [.int k, .int j]) (rest := [.int 0, .ref o9]) ⟨hx, hb, hml, hown, hts⟩ (c_SS_stream_badN l D hfl B0 hG s.heap.size h rc d tp ln ct dp cO e0 tb pr lv pmo pst P Q k j htk hk) (z_cV hN wd_840 wd_59 wd_837 hd_SS_stream rfl rfl ⟨Nat.le_of_ble_eq_true rfl, Nat.le_of_ble_eq_true rfl⟩ wd_838 wd_839) (z_preVo (va_recv (ci := 11) (q0 := 0) hK hP rfl rfl) hPc hKc hN hDc hO hS hAO) rfl hl.1 rfl (lv_room (Nat.le_of_ble_eq_true rfl)) d_Law_stream_5 ⟨Nat.le_of_ble_eq_true rfl, Nat.le_of_ble_eq_true rfl⟩ hS (fun q _ h => hFc q h) hFc (fun r9 u9 t H locs ht hvm e5 hB hz1 hk1 hS => ?_) (fun X x H locs eX hcx hz1 hk1 hS => ?_)
  · exact absurd e5 (fun z => z)
  · subst eX
    have hP : va_P D classes ([(h, .inr (11, [.ref rc, .ref d])), (rc, .inr (4, [.ref tp, .ref ln, .ref tb, .ref ct, .ref dp])), (o9, .inl (cJ, 1, .inr (.inl g9)))] ++ (tplr cO e0 tb lv pr P.length pmo pst P ++ Q)) H := z_Pkept hP hk1
    refine z_catch1h htab (by decide) (by decide) hown (hts _ wd_770) (hts _ wd_777) hcx ?_
    clear hcx hz1 hk1
    refine lv_astore (lv' := [(4, .ref x), (0, .ref h), (1, .int k), (2, .int j), (3, .ref o9)]) hx hb d_Law_stream_13 hl (by decide) rfl (fun ls hl => ?_)
    refine lv_iconst (v := 1) hx hb d_Law_stream_15 (by decide) ?_
    have hP9 := hP.part (cx := [(h, .inr (11, [.ref rc, .ref d])), (rc, .inr (4, [.ref tp, .ref ln, .ref tb, .ref ct, .ref dp])), (o9, .inl (cJ, 1, .inr (.inl g9)))]) [0, 1, 2] rfl
    have hD9 := hD.part (cx := [(h, .inr (11, [.ref rc, .ref d])), (rc, .inr (4, [.ref tp, .ref ln, .ref tb, .ref ct, .ref dp])), (o9, .inl (cJ, 1, .inr (.inl g9)))]) [0, 1, 2] (by decide) rfl
    have hK9 := hK.sub (tys' := [(cO, .object "java/lang/Object"), (cJ, .long)]) [0, 1] rfl
    refine W.widen (k := 1) (n := 6) (by omega) (by omega) ?_
    exact W.iret (v := 1) hx hb hr (fun t ht hW => ⟨⟨_, (), rfl, rfl, ⟨by rw [ht]; exact hP9, va_K.moved hW.alike hK9, hD9⟩⟩, hS.F ht⟩) hS.2.2 d_Law_stream_16
set_option maxHeartbeats 4000000 in
set_option maxRecDepth 100000 in
theorem c_Law_now_badNG (l : Launch) (D : va_G) (hfl : l.stackTraces = false) (B0 : State) (hG : zG B0) (sz : Nat) (h rc d tp ln ct dp : Nat) (cO : ClassId) (e0 tb pr : Nat) (lv pmo : Int32) (pst : Option (Nat × (Nat → Option Nat))) (P : List PR9) (Q : va_W) (k : Int32) (cJ : ClassId) (o9 : Nat) (g9 : Nat → Int64) (htk : tok Q cO pst P) (hk : k < 0 ∨ ¬ k < nI P.length) : Met l y_Law_now [Cond.codeWith y_Law_now b_Law_now 4 (some .int) [(0, 8, 11, 19)]] ({ frames := 7, cells := 1, slots := 6, locals := 104 }) (zMo [.ref h, .int k, .ref o9] D ([(h, .inr (11, [.ref rc, .ref d])), (rc, .inr (4, [.ref tp, .ref ln, .ref tb, .ref ct, .ref dp])), (o9, .inl (cJ, 1, .inr (.inl g9)))] ++ (tplr cO e0 tb lv pr P.length pmo pst P ++ Q)) [(cO, .object "java/lang/Object"), (cJ, .long)] sz B0) (va_Qi (fun r0 (_ : Unit) => r0 = 1) (fun (_u : Unit) t => zW D (va_A ([(h, .inr (11, [.ref rc, .ref d])), (rc, .inr (4, [.ref tp, .ref ln, .ref tb, .ref ct, .ref dp])), (o9, .inl (cJ, 1, .inr (.inl g9)))] ++ (tplr cO e0 tb lv pr P.length pmo pst P ++ Q)) sz) ([(h, .inr (11, [.ref rc, .ref d])), (rc, .inr (4, [.ref tp, .ref ln, .ref tb, .ref ct, .ref dp])), (o9, .inl (cJ, 1, .inr (.inl g9)))] ++ (tplr cO e0 tb lv pr P.length pmo pst P ++ Q)) [(cO, .object "java/lang/Object"), (cJ, .long)] t) (va_A ([(h, .inr (11, [.ref rc, .ref d])), (rc, .inr (4, [.ref tp, .ref ln, .ref tb, .ref ct, .ref dp])), (o9, .inl (cJ, 1, .inr (.inl g9)))] ++ (tplr cO e0 tb lv pr P.length pmo pst P ++ Q)) sz)) 1 6 (va_A ([(h, .inr (11, [.ref rc, .ref d])), (rc, .inr (4, [.ref tp, .ref ln, .ref tb, .ref ct, .ref dp])), (o9, .inl (cJ, 1, .inr (.inl g9)))] ++ (tplr cO e0 tb lv pr P.length pmo pst P ++ Q)) sz) := by
  refine va_MetW (cc := b_Law_now) (maxL := 4) (ret := (some .int)) (hh := [(0, 8, 11, 19)]) (by decide) rfl ?_
  intro p e s m args below meth cd s₁ Bd hml hv
  obtain ⟨rfl, hsz, hP, hK, hN, hD0, hO⟩ := hv
  have hx := Bd.exec
  have hb := Bd.bytes
  have hr := Bd.returns
  have hts := hN.use (a := ([.ref h, .int k, .ref o9]).toArray)
  have hown : s.vm.findClass R_Law = some m.cls := findClass_of_methodNamed Bd.named
  have hlocks := Bd.notSynchronized
  have htab := z_tab Bd
  subst hsz
  have hD := hD0.self (sz := s.heap.size)
  have hAO := z_AO hD0 hO
  clear hD0
  have hA : ∀ q : Nat, s.heap.size ≤ q → va_A ([(h, .inr (11, [.ref rc, .ref d])), (rc, .inr (4, [.ref tp, .ref ln, .ref tb, .ref ct, .ref dp])), (o9, .inl (cJ, 1, .inr (.inl g9)))] ++ (tplr cO e0 tb lv pr P.length pmo pst P ++ Q)) s.heap.size q := fun q h => Or.inr h
  have hS : va_S (va_A ([(h, .inr (11, [.ref rc, .ref d])), (rc, .inr (4, [.ref tp, .ref ln, .ref tb, .ref ct, .ref dp])), (o9, .inl (cJ, 1, .inr (.inl g9)))] ++ (tplr cO e0 tb lv pr P.length pmo pst P ++ Q)) s.heap.size) s.heap s.heap [] := va_S.rf
  generalize hAe : va_A ([(h, .inr (11, [.ref rc, .ref d])), (rc, .inr (4, [.ref tp, .ref ln, .ref tb, .ref ct, .ref dp])), (o9, .inl (cJ, 1, .inr (.inl g9)))] ++ (tplr cO e0 tb lv pr P.length pmo pst P ++ Q)) s.heap.size = A at hD hA hS hAO ⊢
  have hP : va_P D classes ([(h, .inr (11, [.ref rc, .ref d])), (rc, .inr (4, [.ref tp, .ref ln, .ref tb, .ref ct, .ref dp])), (o9, .inl (cJ, 1, .inr (.inl g9)))] ++ (tplr cO e0 tb lv pr P.length pmo pst P ++ Q)) s.heap := hP
  have hl := lv_entry ([.ref h, .int k, .ref o9]) (n := 4) (Nat.le_of_ble_eq_true rfl)
  rw [lg_entry_eq]
  generalize (lg_sl ([.ref h, .int k, .ref o9]) ++ List.replicate (4 - (lg_sl ([.ref h, .int k, .ref o9])).length) Slot.unset).toArray = ls at hl ⊢
  have hl : lv_has ls 4 [(0, .ref h), (1, .int k), (2, .ref o9)] := hl
  refine lv_aload_n hx hb d_Law_now_0 rfl (lv_at hl 2 rfl) ?_
  refine lv_iconst (v := 0) hx hb d_Law_now_1 (by decide) ?_
  refine lv_aload_n hx hb d_Law_now_2 rfl (lv_at hl 0 rfl) ?_
  refine lv_iload_n hx hb d_Law_now_3 rfl (lv_at hl 1 rfl) ?_
  have hPc := hP.part (cx := [(h, .inr (11, [.ref rc, .ref d])), (rc, .inr (4, [.ref tp, .ref ln, .ref tb, .ref ct, .ref dp]))]) [0, 1] rfl
  have hKc := hK.sub (tys' := [(cO, .object "java/lang/Object")]) [0] rfl
  have hDc := hD.part (cx := [(h, .inr (11, [.ref rc, .ref d])), (rc, .inr (4, [.ref tp, .ref ln, .ref tb, .ref ct, .ref dp]))]) [0, 1] (by decide) rfl
  have hFc := va_freeP (cx := [(h, .inr (11, [.ref rc, .ref d])), (rc, .inr (4, [.ref tp, .ref ln, .ref tb, .ref ct, .ref dp]))]) hD hS hA [0, 1] rfl
  refine z_callVTl (As := [.int k]) (rest := [.int 0, .ref o9]) ⟨hx, hb, hml, hown, hts⟩ (c_SS_now_badN l D hfl B0 hG s.heap.size h rc d tp ln ct dp cO e0 tb pr lv pmo pst P Q k htk hk) (z_cV hN wd_850 wd_59 wd_847 hd_SS_now rfl rfl ⟨Nat.le_of_ble_eq_true rfl, Nat.le_of_ble_eq_true rfl⟩ wd_848 wd_849) (z_preVo (va_recv (ci := 11) (q0 := 0) hK hP rfl rfl) hPc hKc hN hDc hO hS hAO) rfl hl.1 rfl (lv_room (Nat.le_of_ble_eq_true rfl)) d_Law_now_4 ⟨Nat.le_of_ble_eq_true rfl, Nat.le_of_ble_eq_true rfl⟩ hS (fun q _ h => hFc q h) hFc (fun r9 u9 t H locs ht hvm e4 hB hz1 hk1 hS => ?_) (fun X x H locs eX hcx hz1 hk1 hS => ?_)
  · exact absurd e4 (fun z => z)
  · subst eX
    have hP : va_P D classes ([(h, .inr (11, [.ref rc, .ref d])), (rc, .inr (4, [.ref tp, .ref ln, .ref tb, .ref ct, .ref dp])), (o9, .inl (cJ, 1, .inr (.inl g9)))] ++ (tplr cO e0 tb lv pr P.length pmo pst P ++ Q)) H := z_Pkept hP hk1
    refine z_catch1h htab (by decide) (by decide) hown (hts _ wd_770) (hts _ wd_777) hcx ?_
    clear hcx hz1 hk1
    refine lv_astore_n (lv' := [(3, .ref x), (0, .ref h), (1, .int k), (2, .ref o9)]) hx hb d_Law_now_11 rfl hl (by decide) rfl (fun ls hl => ?_)
    refine lv_iconst (v := 1) hx hb d_Law_now_12 (by decide) ?_
    have hP9 := hP.part (cx := [(h, .inr (11, [.ref rc, .ref d])), (rc, .inr (4, [.ref tp, .ref ln, .ref tb, .ref ct, .ref dp])), (o9, .inl (cJ, 1, .inr (.inl g9)))]) [0, 1, 2] rfl
    have hD9 := hD.part (cx := [(h, .inr (11, [.ref rc, .ref d])), (rc, .inr (4, [.ref tp, .ref ln, .ref tb, .ref ct, .ref dp])), (o9, .inl (cJ, 1, .inr (.inl g9)))]) [0, 1, 2] (by decide) rfl
    have hK9 := hK.sub (tys' := [(cO, .object "java/lang/Object"), (cJ, .long)]) [0, 1] rfl
    refine W.widen (k := 1) (n := 6) (by omega) (by omega) ?_
    exact W.iret (v := 1) hx hb hr (fun t ht hW => ⟨⟨_, (), rfl, rfl, ⟨by rw [ht]; exact hP9, va_K.moved hW.alike hK9, hD9⟩⟩, hS.F ht⟩) hS.2.2 d_Law_now_13
set_option maxHeartbeats 4000000 in
set_option maxRecDepth 100000 in
theorem c_Law_order_badNG (l : Launch) (D : va_G) (hfl : l.stackTraces = false) (B0 : State) (hG : zG B0) (sz : Nat) (h rc d tp ln ct dp : Nat) (cO : ClassId) (e0 tb pr : Nat) (lv pmo : Int32) (pst : Option (Nat × (Nat → Option Nat))) (P : List PR9) (Q : va_W) (k j w : Int32) (cJ : ClassId) (o9 : Nat) (g9 : Nat → Int64) (htk : tok Q cO pst P) (hk : k < 0 ∨ ¬ k < nI P.length) (h0 : ¬ w < 0) (h3 : ¬ 3 < w) : Met l y_Law_order [Cond.codeWith y_Law_order b_Law_order 6 (some .int) [(0, 11, 14, 13), (0, 11, 18, 19)]] ({ frames := 7, cells := 1, slots := 6, locals := 107 }) (zMo [.ref h, .int k, .int j, .int w, .ref o9] D ([(h, .inr (11, [.ref rc, .ref d])), (rc, .inr (4, [.ref tp, .ref ln, .ref tb, .ref ct, .ref dp])), (o9, .inl (cJ, 1, .inr (.inl g9)))] ++ (tplr cO e0 tb lv pr P.length pmo pst P ++ Q)) [(cO, .object "java/lang/Object"), (cJ, .long)] sz B0) (va_Qi (fun r0 (_ : Unit) => r0 = 2) (fun (_u : Unit) t => zW D (va_A ([(h, .inr (11, [.ref rc, .ref d])), (rc, .inr (4, [.ref tp, .ref ln, .ref tb, .ref ct, .ref dp])), (o9, .inl (cJ, 1, .inr (.inl g9)))] ++ (tplr cO e0 tb lv pr P.length pmo pst P ++ Q)) sz) ([(h, .inr (11, [.ref rc, .ref d])), (rc, .inr (4, [.ref tp, .ref ln, .ref tb, .ref ct, .ref dp])), (o9, .inl (cJ, 1, .inr (.inl g9)))] ++ (tplr cO e0 tb lv pr P.length pmo pst P ++ Q)) [(cO, .object "java/lang/Object"), (cJ, .long)] t) (va_A ([(h, .inr (11, [.ref rc, .ref d])), (rc, .inr (4, [.ref tp, .ref ln, .ref tb, .ref ct, .ref dp])), (o9, .inl (cJ, 1, .inr (.inl g9)))] ++ (tplr cO e0 tb lv pr P.length pmo pst P ++ Q)) sz)) 1 6 (va_A ([(h, .inr (11, [.ref rc, .ref d])), (rc, .inr (4, [.ref tp, .ref ln, .ref tb, .ref ct, .ref dp])), (o9, .inl (cJ, 1, .inr (.inl g9)))] ++ (tplr cO e0 tb lv pr P.length pmo pst P ++ Q)) sz) := by
  refine va_MetW (cc := b_Law_order) (maxL := 6) (ret := (some .int)) (hh := [(0, 11, 14, 13), (0, 11, 18, 19)]) (by decide) rfl ?_
  intro p e s m args below meth cd s₁ Bd hml hv
  obtain ⟨rfl, hsz, hP, hK, hN, hD0, hO⟩ := hv
  have hx := Bd.exec
  have hb := Bd.bytes
  have hr := Bd.returns
  have hts := hN.use (a := ([.ref h, .int k, .int j, .int w, .ref o9]).toArray)
  have hown : s.vm.findClass R_Law = some m.cls := findClass_of_methodNamed Bd.named
  have hlocks := Bd.notSynchronized
  have htab := z_tab Bd
  subst hsz
  have hD := hD0.self (sz := s.heap.size)
  have hAO := z_AO hD0 hO
  clear hD0
  have hA : ∀ q : Nat, s.heap.size ≤ q → va_A ([(h, .inr (11, [.ref rc, .ref d])), (rc, .inr (4, [.ref tp, .ref ln, .ref tb, .ref ct, .ref dp])), (o9, .inl (cJ, 1, .inr (.inl g9)))] ++ (tplr cO e0 tb lv pr P.length pmo pst P ++ Q)) s.heap.size q := fun q h => Or.inr h
  have hS : va_S (va_A ([(h, .inr (11, [.ref rc, .ref d])), (rc, .inr (4, [.ref tp, .ref ln, .ref tb, .ref ct, .ref dp])), (o9, .inl (cJ, 1, .inr (.inl g9)))] ++ (tplr cO e0 tb lv pr P.length pmo pst P ++ Q)) s.heap.size) s.heap s.heap [] := va_S.rf
  generalize hAe : va_A ([(h, .inr (11, [.ref rc, .ref d])), (rc, .inr (4, [.ref tp, .ref ln, .ref tb, .ref ct, .ref dp])), (o9, .inl (cJ, 1, .inr (.inl g9)))] ++ (tplr cO e0 tb lv pr P.length pmo pst P ++ Q)) s.heap.size = A at hD hA hS hAO ⊢
  have hP : va_P D classes ([(h, .inr (11, [.ref rc, .ref d])), (rc, .inr (4, [.ref tp, .ref ln, .ref tb, .ref ct, .ref dp])), (o9, .inl (cJ, 1, .inr (.inl g9)))] ++ (tplr cO e0 tb lv pr P.length pmo pst P ++ Q)) s.heap := hP
  have hl := lv_entry ([.ref h, .int k, .int j, .int w, .ref o9]) (n := 6) (Nat.le_of_ble_eq_true rfl)
  rw [lg_entry_eq]
  generalize (lg_sl ([.ref h, .int k, .int j, .int w, .ref o9]) ++ List.replicate (6 - (lg_sl ([.ref h, .int k, .int j, .int w, .ref o9])).length) Slot.unset).toArray = ls at hl ⊢
  have hl : lv_has ls 6 [(0, .ref h), (1, .int k), (2, .int j), (3, .int w), (4, .ref o9)] := hl
  refine lv_aload hx hb d_Law_order_0 (lv_at hl 4 rfl) ?_
  refine lv_iconst (v := 0) hx hb d_Law_order_2 (by decide) ?_
  refine lv_aload_n hx hb d_Law_order_3 rfl (lv_at hl 0 rfl) ?_
  refine lv_iload_n hx hb d_Law_order_4 rfl (lv_at hl 1 rfl) ?_
  refine lv_iload_n hx hb d_Law_order_5 rfl (lv_at hl 2 rfl) ?_
  refine lv_iload_n hx hb d_Law_order_6 rfl (lv_at hl 3 rfl) ?_
  have hPc := hP.part (cx := [(h, .inr (11, [.ref rc, .ref d])), (rc, .inr (4, [.ref tp, .ref ln, .ref tb, .ref ct, .ref dp]))]) [0, 1] rfl
  have hKc := hK.sub (tys' := [(cO, .object "java/lang/Object")]) [0] rfl
  have hDc := hD.part (cx := [(h, .inr (11, [.ref rc, .ref d])), (rc, .inr (4, [.ref tp, .ref ln, .ref tb, .ref ct, .ref dp]))]) [0, 1] (by decide) rfl
  have hFc := va_freeP (cx := [(h, .inr (11, [.ref rc, .ref d])), (rc, .inr (4, [.ref tp, .ref ln, .ref tb, .ref ct, .ref dp]))]) hD hS hA [0, 1] rfl
  refine z_callVTl (As := [.int k, .int j, .int w]) (rest := [.int 0, .ref o9]) ⟨hx, hb, hml, hown, hts⟩ (c_SS_order_badN l D hfl B0 hG s.heap.size h rc d tp ln ct dp cO e0 tb pr lv pmo pst P Q k j w htk hk h0 h3) (z_cV hN wd_857 wd_59 wd_854 hd_SS_order rfl rfl ⟨Nat.le_of_ble_eq_true rfl, Nat.le_of_ble_eq_true rfl⟩ wd_855 wd_856) (z_preVo (va_recv (ci := 11) (q0 := 0) hK hP rfl rfl) hPc hKc hN hDc hO hS hAO) rfl hl.1 rfl (lv_room (Nat.le_of_ble_eq_true rfl)) d_Law_order_7 ⟨Nat.le_of_ble_eq_true rfl, Nat.le_of_ble_eq_true rfl⟩ hS (fun q _ h => hFc q h) hFc (fun r9 u9 t H locs ht hvm e7 hB hz1 hk1 hS => ?_) (fun X x H locs eX hcx hz1 hk1 hS => ?_)
  · exact absurd e7 (fun z => z)
  · subst eX
    have hP : va_P D classes ([(h, .inr (11, [.ref rc, .ref d])), (rc, .inr (4, [.ref tp, .ref ln, .ref tb, .ref ct, .ref dp])), (o9, .inl (cJ, 1, .inr (.inl g9)))] ++ (tplr cO e0 tb lv pr P.length pmo pst P ++ Q)) H := z_Pkept hP hk1
    refine z_catch2N htab (by decide) (by decide) (by decide) (by decide) hown (hts _ wd_695) (hts _ wd_770) (z_no hG hO (by decide +kernel)) (hts _ wd_777) hcx ?_
    clear hcx hz1 hk1
    refine lv_astore (lv' := [(5, .ref x), (0, .ref h), (1, .int k), (2, .int j), (3, .int w), (4, .ref o9)]) hx hb d_Law_order_18 hl (by decide) rfl (fun ls hl => ?_)
    refine lv_iconst (v := 2) hx hb d_Law_order_20 (by decide) ?_
    have hP9 := hP.part (cx := [(h, .inr (11, [.ref rc, .ref d])), (rc, .inr (4, [.ref tp, .ref ln, .ref tb, .ref ct, .ref dp])), (o9, .inl (cJ, 1, .inr (.inl g9)))]) [0, 1, 2] rfl
    have hD9 := hD.part (cx := [(h, .inr (11, [.ref rc, .ref d])), (rc, .inr (4, [.ref tp, .ref ln, .ref tb, .ref ct, .ref dp])), (o9, .inl (cJ, 1, .inr (.inl g9)))]) [0, 1, 2] (by decide) rfl
    have hK9 := hK.sub (tys' := [(cO, .object "java/lang/Object"), (cJ, .long)]) [0, 1] rfl
    refine W.widen (k := 1) (n := 6) (by omega) (by omega) ?_
    exact W.iret (v := 2) hx hb hr (fun t ht hW => ⟨⟨_, (), rfl, rfl, ⟨by rw [ht]; exact hP9, va_K.moved hW.alike hK9, hD9⟩⟩, hS.F ht⟩) hS.2.2 d_Law_order_21
