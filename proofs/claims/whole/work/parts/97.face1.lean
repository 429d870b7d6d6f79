theorem wd_253 : (Jvm.Cond.fieldLinkNest "StreamSplitter" (205 : Nat) "StreamSplitter$Lane" "clock" "J" "StreamSplitter") ∈ lw_ok := List.mem_filter.mpr ⟨List.mem_of_getElem? (i := 253) (by decide +kernel), rfl⟩
theorem d_SS_clock_39 : decode b_SS_clock 39 = .ok (.aload_n 2, 1) := by decide +kernel
theorem d_SS_clock_40 : decode b_SS_clock 40 = .ok (.getfield 205, 3) := by decide +kernel
/-! The clock of a lane; done pieces -/
def clkOf (Ls : List LZ) (pid : Nat) : Int64 := match Ls.find? (fun z => z.2.1 == pid) with
  | none => -1
  | some z => z.2.2.2.2.2.1
theorem clk_none {Ls : List LZ} {pid : Nat} (h : lnF Ls pid = none) : clkOf Ls pid = -1 := by
  unfold lnF at h
  unfold clkOf
  cases hz : Ls.find? (fun z => z.2.1 == pid) with
  | none => rfl
  | some z => rw [hz] at h; cases h
theorem clk_some {Ls : List LZ} {pid a : Nat} (h : lnF Ls pid = some a) : ∃ z ∈ Ls, z.1 = a ∧ clkOf Ls pid = z.2.2.2.2.2.1 := by
  unfold lnF at h
  unfold clkOf
  cases hz : Ls.find? (fun z => z.2.1 == pid) with
  | none => rw [hz] at h; cases h
  | some z =>
    rw [hz] at h
    exact ⟨z, List.mem_of_find?_eq_some hz, Option.some.inj h, rfl⟩

set_option maxHeartbeats 4000000 in
set_option maxRecDepth 100000 in
theorem c_SS_clock_ok (l : Launch) (D : va_G) (hfl : l.stackTraces = false) (B0 : State) (hG : zG B0) (sz : Nat) (h rc d tp tb ct dp : Nat) (cB cN : ClassId) (ln hd : Nat) (hf : Nat → Option Nat) (pid : Nat) (Ls : List LZ) (Q : va_W) (hpid : pid < 8192) (hLN : ∀ k, k < 256 → hf k = lhd k Ls) (hok : lok Ls) : MetT l y_SS_clock [Cond.code y_SS_clock b_SS_clock 3 (some .long)] ({ frames := 1, cells := 1, slots := 6, locals := 22 }) (zMo [.ref h, .int (nI pid)] D ([(h, .inr (11, [.ref rc, .ref d])), (rc, .inr (4, [.ref tp, .ref ln, .ref tb, .ref ct, .ref dp])), (ln, .inr (2, [.ref hd])), (hd, .inl (cN, 256, .inr (.inr (.inr (.inr hf)))))] ++ (lpl cB Ls ++ Q)) [(cN, .object "StreamSplitter$Lane")] sz B0) (zQl (fun r0 (_ : Unit) => r0 = clkOf Ls pid) (fun (_u : Unit) t => zW D (va_A ([(h, .inr (11, [.ref rc, .ref d])), (rc, .inr (4, [.ref tp, .ref ln, .ref tb, .ref ct, .ref dp])), (ln, .inr (2, [.ref hd])), (hd, .inl (cN, 256, .inr (.inr (.inr (.inr hf)))))] ++ (lpl cB Ls ++ Q)) sz) ([(h, .inr (11, [.ref rc, .ref d])), (rc, .inr (4, [.ref tp, .ref ln, .ref tb, .ref ct, .ref dp])), (ln, .inr (2, [.ref hd])), (hd, .inl (cN, 256, .inr (.inr (.inr (.inr hf)))))] ++ (lpl cB Ls ++ Q)) [(cN, .object "StreamSplitter$Lane")] t) (va_A ([(h, .inr (11, [.ref rc, .ref d])), (rc, .inr (4, [.ref tp, .ref ln, .ref tb, .ref ct, .ref dp])), (ln, .inr (2, [.ref hd])), (hd, .inl (cN, 256, .inr (.inr (.inr (.inr hf)))))] ++ (lpl cB Ls ++ Q)) sz) (fun _ => False)) 1 6 (va_A ([(h, .inr (11, [.ref rc, .ref d])), (rc, .inr (4, [.ref tp, .ref ln, .ref tb, .ref ct, .ref dp])), (ln, .inr (2, [.ref hd])), (hd, .inl (cN, 256, .inr (.inr (.inr (.inr hf)))))] ++ (lpl cB Ls ++ Q)) sz) := by
  refine MetT.ofW (cc := b_SS_clock) (maxL := 3) (ret := (some .long)) (by decide) rfl ?_
  intro p e s m args below meth cd s₁ Bd hml hem hv
  obtain ⟨rfl, hsz, hP, hK, hN, hD0, hO⟩ := hv
  have hx := Bd.exec
  have hb := Bd.bytes
  have hr := Bd.returns
  have hts := hN.use (a := ([.ref h, .int (nI pid)]).toArray)
  have hown : s.vm.findClass R_SS = some m.cls := findClass_of_methodNamed Bd.named
  have hlocks := Bd.notSynchronized
  subst hsz
  have hD := hD0.self (sz := s.heap.size)
  have hAO := z_AO hD0 hO
  clear hD0
  have hA : ∀ q : Nat, s.heap.size ≤ q → va_A ([(h, .inr (11, [.ref rc, .ref d])), (rc, .inr (4, [.ref tp, .ref ln, .ref tb, .ref ct, .ref dp])), (ln, .inr (2, [.ref hd])), (hd, .inl (cN, 256, .inr (.inr (.inr (.inr hf)))))] ++ (lpl cB Ls ++ Q)) s.heap.size q := fun q h => Or.inr h
  have hS : va_S (va_A ([(h, .inr (11, [.ref rc, .ref d])), (rc, .inr (4, [.ref tp, .ref ln, .ref tb, .ref ct, .ref dp])), (ln, .inr (2, [.ref hd])), (hd, .inl (cN, 256, .inr (.inr (.inr (.inr hf)))))] ++ (lpl cB Ls ++ Q)) s.heap.size) s.heap s.heap [] := va_S.rf
  generalize hAe : va_A ([(h, .inr (11, [.ref rc, .ref d])), (rc, .inr (4, [.ref tp, .ref ln, .ref tb, .ref ct, .ref dp])), (ln, .inr (2, [.ref hd])), (hd, .inl (cN, 256, .inr (.inr (.inr (.inr hf)))))] ++ (lpl cB Ls ++ Q)) s.heap.size = A at hD hA hS hAO ⊢
  have hP : va_P D classes ([(h, .inr (11, [.ref rc, .ref d])), (rc, .inr (4, [.ref tp, .ref ln, .ref tb, .ref ct, .ref dp])), (ln, .inr (2, [.ref hd])), (hd, .inl (cN, 256, .inr (.inr (.inr (.inr hf)))))] ++ (lpl cB Ls ++ Q)) s.heap := hP
  have hl := lv_entry ([.ref h, .int (nI pid)]) (n := 3) (Nat.le_of_ble_eq_true rfl)
  rw [lg_entry_eq]
  generalize (lg_sl ([.ref h, .int (nI pid)]) ++ List.replicate (3 - (lg_sl ([.ref h, .int (nI pid)])).length) Slot.unset).toArray = ls at hl ⊢
  have hl : lv_has ls 3 [(0, .ref h), (1, .int (nI pid))] := hl
  refine lv_iload_n hx hb d_SS_clock_0 rfl (lv_at hl 1 rfl) ?_
  have hPc := hP.sub (ws' := []) [] rfl
  have hKc := hK.sub (tys' := []) [] rfl
  refine z_ci (va_runS (As := [.int (nI pid)]) (rest := []) ⟨hx, hb, hml, hown, hts⟩ (c_SS_isNoPid l D (nI pid) ) (z_cS hN wd_883 wd_59 wd_881 hd_SS_isNoPid rfl rfl ⟨Nat.le_of_ble_eq_true rfl, Nat.le_of_ble_eq_true rfl⟩ wd_882) (z_preS hPc hKc hN) rfl rfl hl.1 rfl (lv_room (Nat.le_of_ble_eq_true rfl)) d_SS_clock_1 ⟨Nat.le_of_ble_eq_true rfl, Nat.le_of_ble_eq_true rfl⟩) (fun r1 e1 => ?_)
  subst e1
  refine lv_if_eq (tgt := 17) hx hb d_SS_clock_4 rfl (fun h4 => ?_) (fun h9 => absurd (if_neg (fun z => z.elim (nI_pos (by omega)) (Int32.not_lt.mpr (nI_le (a := pid) (b := 8191) (by omega) (by decide))))) h9)
  refine lv_aload_n hx hb d_SS_clock_17 rfl (lv_at hl 0 rfl) ?_
  refine va_get (D := D) (ci := 11) (v := .ref rc) (C := R_SS) (T := F_SS) (N := 2) hx hb hts i_SS hown hK hP 0 rfl rfl 0 (by decide) (hts _ wd_198) (fun _ h9 => h9) rfl d_SS_clock_18 ?_
  refine va_getN (D := D) (ci := 4) (v := .ref ln) (C := R_Receiver) (T := F_Receiver) (N := 5) hx hb hts i_Receiver hown hK hP 1 rfl rfl 1 (by decide) (hts _ wd_178) (fun _ h9 => h9) rfl d_SS_clock_21 ?_
  refine lv_iload_n hx hb d_SS_clock_24 rfl (lv_at hl 1 rfl) ?_
  have hPc := hP.part (cx := [(ln, .inr (2, [.ref hd])), (hd, .inl (cN, 256, .inr (.inr (.inr (.inr hf)))))]) [2, 3] rfl
  have hKc := hK.sub (tys' := [(cN, .object "StreamSplitter$Lane")]) [0] rfl
  refine z_cq (va_runV (As := [.int (nI pid)]) (rest := []) ⟨hx, hb, hml, hown, hts⟩ (c_Lanes_find l D cB cN ln hd hf pid Ls Q hpid hLN hok) (z_cV hN wd_233 wd_62 wd_885 hd_Lanes_find rfl rfl ⟨Nat.le_of_ble_eq_true rfl, Nat.le_of_ble_eq_true rfl⟩ wd_231 wd_232) (z_preV (va_recv (ci := 2) (q0 := 2) hK hP rfl rfl) hPc hKc hN) rfl rfl hl.1 rfl (lv_room (Nat.le_of_ble_eq_true rfl)) d_SS_clock_25 ⟨Nat.le_of_ble_eq_true rfl, Nat.le_of_ble_eq_true rfl⟩) (fun r25 e25 => ?_)
  subst e25
  refine z_astoreq_n (lv' := [(2, va_rf (lnF Ls pid)), (0, .ref h), (1, .int (nI pid))]) hx hb d_SS_clock_28 rfl hl (by decide) rfl (fun ls hl => ?_)
  refine z_aloadq_n hx hb d_SS_clock_29 rfl (lv_at hl 0 rfl) ?_
  cases h30 : lnF Ls pid with
  | none =>
    rw [h30] at hl
    have hl : lv_has ls 3 [(2, .null), (0, .ref h), (1, .int (nI pid))] := hl
    try rw [h30]
    refine lv_ifnonnullN hx hb d_SS_clock_30 ?_
    refine lv_ldc2 hx hb hown (hts _ wd_859) d_SS_clock_33 ?_
    refine lv_goto (tgt := 43) hx hb d_SS_clock_36 rfl ?_
    have hP9 := hP.part (cx := [(h, .inr (11, [.ref rc, .ref d])), (rc, .inr (4, [.ref tp, .ref ln, .ref tb, .ref ct, .ref dp])), (ln, .inr (2, [.ref hd])), (hd, .inl (cN, 256, .inr (.inr (.inr (.inr hf)))))]) [0, 1, 2, 3] rfl
    have hD9 := hD.part (cx := [(h, .inr (11, [.ref rc, .ref d])), (rc, .inr (4, [.ref tp, .ref ln, .ref tb, .ref ct, .ref dp])), (ln, .inr (2, [.ref hd])), (hd, .inl (cN, 256, .inr (.inr (.inr (.inr hf)))))]) [0, 1, 2, 3] (by decide) rfl
    have hK9 := hK.sub (tys' := [(cN, .object "StreamSplitter$Lane")]) [0] rfl
    refine W.widen (k := 1) (n := 6) (by omega) (by omega) ?_
    exact W.mono MQ.toT (W.lret (v := (-1)) hx hb hr (fun t ht hW => Or.inl ⟨_, (), rfl, (clk_none h30).symm, ⟨by rw [ht]; exact hP9, va_K.moved hW.alike hK9, hD9⟩, hS.F ht⟩) hS.2.2 d_SS_clock_43)
  | some x30 =>
    rw [h30] at hl
    have hl : lv_has ls 3 [(2, .ref x30), (0, .ref h), (1, .int (nI pid))] := hl
    try rw [h30]
    refine lv_ifnonnull (x := x30) (tgt := 39) hx hb d_SS_clock_30 rfl ?_
    obtain ⟨z, hzm, hza, hzc⟩ := clk_some h30
    subst hza
    obtain ⟨q0, hq0⟩ := lp_get (X := [(h, .inr (11, [.ref rc, .ref d])), (rc, .inr (4, [.ref tp, .ref ln, .ref tb, .ref ct, .ref dp])), (ln, .inr (2, [.ref hd])), (hd, .inl (cN, 256, .inr (.inr (.inr (.inr hf)))))]) (Q := Q) (cB := cB) (Ls := Ls) (z := z) hzm
    refine lv_aload_n hx hb d_SS_clock_39 rfl (lv_at hl 0 rfl) ?_
    refine va_getN (D := D) (ci := 1) (v := .long z.2.2.2.2.2.1) (C := R_Lane) (T := F_Lane) (N := 8) hx hb hts i_Lane hown hK hP q0 hq0 rfl 4 (by decide) (hts _ wd_253) (fun _ h9 => h9) rfl d_SS_clock_40 ?_
    have hP9 := hP.part (cx := [(h, .inr (11, [.ref rc, .ref d])), (rc, .inr (4, [.ref tp, .ref ln, .ref tb, .ref ct, .ref dp])), (ln, .inr (2, [.ref hd])), (hd, .inl (cN, 256, .inr (.inr (.inr (.inr hf)))))]) [0, 1, 2, 3] rfl
    have hD9 := hD.part (cx := [(h, .inr (11, [.ref rc, .ref d])), (rc, .inr (4, [.ref tp, .ref ln, .ref tb, .ref ct, .ref dp])), (ln, .inr (2, [.ref hd])), (hd, .inl (cN, 256, .inr (.inr (.inr (.inr hf)))))]) [0, 1, 2, 3] (by decide) rfl
    have hK9 := hK.sub (tys' := [(cN, .object "StreamSplitter$Lane")]) [0] rfl
    refine W.widen (k := 1) (n := 6) (by omega) (by omega) ?_
    exact W.mono MQ.toT (W.lret (v := z.2.2.2.2.2.1) hx hb hr (fun t ht hW => Or.inl ⟨_, (), rfl, hzc.symm, ⟨by rw [ht]; exact hP9, va_K.moved hW.alike hK9, hD9⟩, hS.F ht⟩) hS.2.2 d_SS_clock_43)
set_option maxHeartbeats 4000000 in
set_option maxRecDepth 100000 in
theorem c_SS_writerToF (l : Launch) (D : va_G) (sz : Nat) (h rc d tp tb ct dp : Nat) (cB cN : ClassId) (ln hd : Nat) (hf : Nat → Option Nat) (pid : Nat) (Ls : List LZ) (Q : va_W) (la : Nat) (x : Int32) (hpid : pid < 8192) (hLN : ∀ k, k < 256 → hf k = lhd k Ls) (hok : lok Ls) (hF : lnF Ls pid = some la) : Met l y_SS_writerTo [Cond.code y_SS_writerTo b_SS_writerTo 3 (some (.object "StreamSplitter$Writer"))] ({ frames := 2, cells := 2, slots := 14, locals := 45 }) (zM [.ref h, .int (nI pid), .int x] D ([(h, .inr (11, [.ref rc, .ref d])), (rc, .inr (4, [.ref tp, .ref ln, .ref tb, .ref ct, .ref dp])), (ln, .inr (2, [.ref hd])), (hd, .inl (cN, 256, .inr (.inr (.inr (.inr hf)))))] ++ (lpl cB Ls ++ Q)) [(cN, .object "StreamSplitter$Lane")] sz) (va_Qr (fun (_ : Unit) => True) (fun (_u : Unit) ra t => zW D (va_A ([(h, .inr (11, [.ref rc, .ref d])), (rc, .inr (4, [.ref tp, .ref ln, .ref tb, .ref ct, .ref dp])), (ln, .inr (2, [.ref hd])), (hd, .inl (cN, 256, .inr (.inr (.inr (.inr hf)))))] ++ (lpl cB Ls ++ Q)) sz) ([(h, .inr (11, [.ref rc, .ref d])), (rc, .inr (4, [.ref tp, .ref ln, .ref tb, .ref ct, .ref dp])), (ln, .inr (2, [.ref hd])), (hd, .inl (cN, 256, .inr (.inr (.inr (.inr hf))))), (ra, .inr (10, [.ref tp, .ref la, .int x, .int 0, .int 0, .int 0]))] ++ (lpl cB Ls ++ Q)) [(cN, .object "StreamSplitter$Lane")] t) (va_A ([(h, .inr (11, [.ref rc, .ref d])), (rc, .inr (4, [.ref tp, .ref ln, .ref tb, .ref ct, .ref dp])), (ln, .inr (2, [.ref hd])), (hd, .inl (cN, 256, .inr (.inr (.inr (.inr hf)))))] ++ (lpl cB Ls ++ Q)) sz)) 2 14 (va_A ([(h, .inr (11, [.ref rc, .ref d])), (rc, .inr (4, [.ref tp, .ref ln, .ref tb, .ref ct, .ref dp])), (ln, .inr (2, [.ref hd])), (hd, .inl (cN, 256, .inr (.inr (.inr (.inr hf)))))] ++ (lpl cB Ls ++ Q)) sz) := by
  refine Met.ofW (cc := b_SS_writerTo) (maxL := 3) (ret := (some (.object "StreamSplitter$Writer"))) (by decide) rfl ?_
  intro p e s m args below meth cd s₁ Bd hml hv
  obtain ⟨rfl, hsz, hP, hK, hN, hD0⟩ := hv
  have hx := Bd.exec
  have hb := Bd.bytes
  have hr := Bd.returns
  have hts := hN.use (a := ([.ref h, .int (nI pid), .int x]).toArray)
  have hown : s.vm.findClass R_SS = some m.cls := findClass_of_methodNamed Bd.named
  have hlocks := Bd.notSynchronized
  subst hsz
  have hD := hD0.self (sz := s.heap.size)
  clear hD0
  have hA : ∀ q : Nat, s.heap.size ≤ q → va_A ([(h, .inr (11, [.ref rc, .ref d])), (rc, .inr (4, [.ref tp, .ref ln, .ref tb, .ref ct, .ref dp])), (ln, .inr (2, [.ref hd])), (hd, .inl (cN, 256, .inr (.inr (.inr (.inr hf)))))] ++ (lpl cB Ls ++ Q)) s.heap.size q := fun q h => Or.inr h
  have hS : va_S (va_A ([(h, .inr (11, [.ref rc, .ref d])), (rc, .inr (4, [.ref tp, .ref ln, .ref tb, .ref ct, .ref dp])), (ln, .inr (2, [.ref hd])), (hd, .inl (cN, 256, .inr (.inr (.inr (.inr hf)))))] ++ (lpl cB Ls ++ Q)) s.heap.size) s.heap s.heap [] := va_S.rf
  generalize hAe : va_A ([(h, .inr (11, [.ref rc, .ref d])), (rc, .inr (4, [.ref tp, .ref ln, .ref tb, .ref ct, .ref dp])), (ln, .inr (2, [.ref hd])), (hd, .inl (cN, 256, .inr (.inr (.inr (.inr hf)))))] ++ (lpl cB Ls ++ Q)) s.heap.size = A at hD hA hS ⊢
  have hP : va_P D classes ([(h, .inr (11, [.ref rc, .ref d])), (rc, .inr (4, [.ref tp, .ref ln, .ref tb, .ref ct, .ref dp])), (ln, .inr (2, [.ref hd])), (hd, .inl (cN, 256, .inr (.inr (.inr (.inr hf)))))] ++ (lpl cB Ls ++ Q)) s.heap := hP
  have hl := lv_entry ([.ref h, .int (nI pid), .int x]) (n := 3) (Nat.le_of_ble_eq_true rfl)
  rw [lg_entry_eq]
  generalize (lg_sl ([.ref h, .int (nI pid), .int x]) ++ List.replicate (3 - (lg_sl ([.ref h, .int (nI pid), .int x])).length) Slot.unset).toArray = ls at hl ⊢
  have hl : lv_has ls 3 [(0, .ref h), (1, .int (nI pid)), (2, .int x)] := hl
  refine va_new (ci := 10) (fs := [.null, .null, .int 0, .int 0, .int 0, .int 0]) (C := R_Writer) (T := F_Writer) (N := 6) hx hb hts i_Writer t_Writer t_Writer_ok hown (hts _ wd_945) (hts _ wd_946) (hts _ wd_85) hK hP hD hS hA rfl (fs_Writer) (by show 0 + 1 ≤ 2; omega) (by show 0 + 6 ≤ 14; omega) d_SS_writerTo_0 (fun q0 H hP hD hS => ?_)
  have hP := hP.swap
  have hD := hD.swap
  have hP : va_P D classes ([(h, .inr (11, [.ref rc, .ref d])), (rc, .inr (4, [.ref tp, .ref ln, .ref tb, .ref ct, .ref dp])), (ln, .inr (2, [.ref hd])), (hd, .inl (cN, 256, .inr (.inr (.inr (.inr hf))))), (q0, .inr (10, [.null, .null, .int 0, .int 0, .int 0, .int 0]))] ++ (lpl cB Ls ++ Q)) H := hP
  have hD : va_D A ([(h, .inr (11, [.ref rc, .ref d])), (rc, .inr (4, [.ref tp, .ref ln, .ref tb, .ref ct, .ref dp])), (ln, .inr (2, [.ref hd])), (hd, .inl (cN, 256, .inr (.inr (.inr (.inr hf))))), (q0, .inr (10, [.null, .null, .int 0, .int 0, .int 0, .int 0]))] ++ (lpl cB Ls ++ Q)) := hD
  refine lv_dup hx hb d_SS_writerTo_3 rfl ?_
  refine lv_aload_n hx hb d_SS_writerTo_4 rfl (lv_at hl 0 rfl) ?_
  refine va_get (D := D) (ci := 11) (v := .ref rc) (C := R_SS) (T := F_SS) (N := 2) hx hb hts i_SS hown hK hP 0 rfl rfl 0 (by decide) (hts _ wd_198) (fun _ h9 => h9) rfl d_SS_writerTo_5 ?_
  refine va_getN (D := D) (ci := 4) (v := .ref tp) (C := R_Receiver) (T := F_Receiver) (N := 5) hx hb hts i_Receiver hown hK hP 1 rfl rfl 0 (by decide) (hts _ wd_176) (fun _ h9 => h9) rfl d_SS_writerTo_8 ?_
  refine lv_aload_n hx hb d_SS_writerTo_11 rfl (lv_at hl 0 rfl) ?_
  refine va_get (D := D) (ci := 11) (v := .ref rc) (C := R_SS) (T := F_SS) (N := 2) hx hb hts i_SS hown hK hP 0 rfl rfl 0 (by decide) (hts _ wd_198) (fun _ h9 => h9) rfl d_SS_writerTo_12 ?_
  refine va_getN (D := D) (ci := 4) (v := .ref ln) (C := R_Receiver) (T := F_Receiver) (N := 5) hx hb hts i_Receiver hown hK hP 1 rfl rfl 1 (by decide) (hts _ wd_178) (fun _ h9 => h9) rfl d_SS_writerTo_15 ?_
  refine lv_iload_n hx hb d_SS_writerTo_18 rfl (lv_at hl 1 rfl) ?_
  have hPc := hP.part (cx := [(ln, .inr (2, [.ref hd])), (hd, .inl (cN, 256, .inr (.inr (.inr (.inr hf)))))]) [2, 3] rfl
  have hKc := hK.sub (tys' := [(cN, .object "StreamSplitter$Lane")]) [0] rfl
  refine z_cq (va_runV (As := [.int (nI pid)]) (rest := [.ref tp, .ref q0, .ref q0]) ⟨hx, hb, hml, hown, hts⟩ (c_Lanes_findOrMakeF l D cB cN ln hd hf pid Ls Q la hpid hLN hok hF) (z_cV hN wd_229 wd_62 wd_947 hd_Lanes_findOrMake rfl rfl ⟨Nat.le_of_ble_eq_true rfl, Nat.le_of_ble_eq_true rfl⟩ wd_227 wd_228) (z_preV (va_recv (ci := 2) (q0 := 2) hK hP rfl rfl) hPc hKc hN) rfl rfl hl.1 rfl (lv_room (Nat.le_of_ble_eq_true rfl)) d_SS_writerTo_19 ⟨Nat.le_of_ble_eq_true rfl, Nat.le_of_ble_eq_true rfl⟩) (fun r19 e19 => ?_)
  subst e19
  refine z_topq (w := some la) rfl ?_
  refine lv_iload_n hx hb d_SS_writerTo_22 rfl (lv_at hl 2 rfl) ?_
  have hPc := hP.sub (ws' := [(q0, .inr (10, [.null, .null, .int 0, .int 0, .int 0, .int 0]))]) [4] rfl
  have hKc := hK.sub (tys' := []) [] rfl
  have hDc := hD.sub (ws' := [(q0, .inr (10, [.null, .null, .int 0, .int 0, .int 0, .int 0]))]) [4] (by decide) rfl
  have hFc := va_free (wc := [(q0, .inr (10, [.null, .null, .int 0, .int 0, .int 0, .int 0]))]) hD hS hA [4] rfl
  refine va_callv (va_runI (As := [.ref tp, .ref la, .int x]) (rest := [.ref q0]) ⟨hx, hb, hml, hown, hts⟩ (c_Writer_init l D H.size q0 tp la x ) (z_cI hN wd_950 wd_85 wd_948 hd_Writer_init rfl rfl ⟨Nat.le_of_ble_eq_true rfl, Nat.le_of_ble_eq_true rfl⟩ wd_949 rfl) (z_preSm hPc hKc hN hDc) rfl rfl hl.1 rfl (lv_room (Nat.le_of_ble_eq_true rfl)) d_SS_writerTo_23 ⟨Nat.le_of_ble_eq_true rfl, Nat.le_of_ble_eq_true rfl⟩) hS (fun q _ h => hFc q h) hFc (fun u23 t H locs ht hvm e23 hB hz1 hk1 hS => ?_)
  obtain ⟨hP1, hK1, hD1⟩ := hB
  rw [ht] at hP1
  obtain ⟨hP, hD⟩ := va_joinQ (cx := [(q0, .inr (10, [.null, .null, .int 0, .int 0, .int 0, .int 0]))]) (wr := [(h, .inr (11, [.ref rc, .ref d])), (rc, .inr (4, [.ref tp, .ref ln, .ref tb, .ref ct, .ref dp])), (ln, .inr (2, [.ref hd])), (hd, .inl (cN, 256, .inr (.inr (.inr (.inr hf)))))]) (w1 := [(q0, .inr (10, [.ref tp, .ref la, .int x, .int 0, .int 0, .int 0]))]) hP hD [4] [0, 1, 2, 3] rfl rfl (by decide) (by decide) hk1 hFc hP1 hD1
  clear hk1 hP1 hD1 hFc hPc hDc hz1
  have hP : va_P D classes ([(h, .inr (11, [.ref rc, .ref d])), (rc, .inr (4, [.ref tp, .ref ln, .ref tb, .ref ct, .ref dp])), (ln, .inr (2, [.ref hd])), (hd, .inl (cN, 256, .inr (.inr (.inr (.inr hf))))), (q0, .inr (10, [.ref tp, .ref la, .int x, .int 0, .int 0, .int 0]))] ++ (lpl cB Ls ++ Q)) H := hP
  have hD : va_D A ([(h, .inr (11, [.ref rc, .ref d])), (rc, .inr (4, [.ref tp, .ref ln, .ref tb, .ref ct, .ref dp])), (ln, .inr (2, [.ref hd])), (hd, .inl (cN, 256, .inr (.inr (.inr (.inr hf))))), (q0, .inr (10, [.ref tp, .ref la, .int x, .int 0, .int 0, .int 0]))] ++ (lpl cB Ls ++ Q)) := hD
  have hP9 := hP.part (cx := [(h, .inr (11, [.ref rc, .ref d])), (rc, .inr (4, [.ref tp, .ref ln, .ref tb, .ref ct, .ref dp])), (ln, .inr (2, [.ref hd])), (hd, .inl (cN, 256, .inr (.inr (.inr (.inr hf))))), (q0, .inr (10, [.ref tp, .ref la, .int x, .int 0, .int 0, .int 0]))]) [0, 1, 2, 3, 4] rfl
  have hD9 := hD.part (cx := [(h, .inr (11, [.ref rc, .ref d])), (rc, .inr (4, [.ref tp, .ref ln, .ref tb, .ref ct, .ref dp])), (ln, .inr (2, [.ref hd])), (hd, .inl (cN, 256, .inr (.inr (.inr (.inr hf))))), (q0, .inr (10, [.ref tp, .ref la, .int x, .int 0, .int 0, .int 0]))]) [0, 1, 2, 3, 4] (by decide) rfl
  have hK9 := hK.sub (tys' := [(cN, .object "StreamSplitter$Lane")]) [0] rfl
  refine W.widen (k := 2) (n := 14) (by omega) (by omega) ?_
  exact W.aret (v := (.ref q0)) hx hb hr (Or.inl ⟨_, rfl⟩) (Or.inr ⟨_, rfl⟩) (fun t ht hW => ⟨⟨(), _, rfl, trivial, ⟨by rw [ht]; exact hP9, va_K.moved hW.alike hK9, hD9⟩⟩, hS.F ht⟩) hS.2.2 d_SS_writerTo_26
set_option maxHeartbeats 4000000 in
set_option maxRecDepth 100000 in
theorem c_SS_writerToM (l : Launch) (D : va_G) (sz : Nat) (h rc d tp tb ct dp : Nat) (cB cN : ClassId) (ln hd : Nat) (hf : Nat → Option Nat) (pid : Nat) (Ls : List LZ) (Q : va_W) (x : Int32) (hpid : pid < 8192) (hLN : ∀ k, k < 256 → hf k = lhd k Ls) (hok : lok Ls) (hF : lnF Ls pid = none) : Met l y_SS_writerTo [Cond.code y_SS_writerTo b_SS_writerTo 3 (some (.object "StreamSplitter$Writer"))] ({ frames := 3, cells := 2, slots := 14, locals := 57 }) (zM [.ref h, .int (nI pid), .int x] D ([(h, .inr (11, [.ref rc, .ref d])), (rc, .inr (4, [.ref tp, .ref ln, .ref tb, .ref ct, .ref dp])), (ln, .inr (2, [.ref hd])), (hd, .inl (cN, 256, .inr (.inr (.inr (.inr hf)))))] ++ (lpl cB Ls ++ Q)) [(cN, .object "StreamSplitter$Lane")] sz) (va_Qr (fun (u : Nat) => True) (fun (u : Nat) ra t => zW D (va_A ([(h, .inr (11, [.ref rc, .ref d])), (rc, .inr (4, [.ref tp, .ref ln, .ref tb, .ref ct, .ref dp])), (ln, .inr (2, [.ref hd])), (hd, .inl (cN, 256, .inr (.inr (.inr (.inr hf)))))] ++ (lpl cB Ls ++ Q)) sz) ([(h, .inr (11, [.ref rc, .ref d])), (rc, .inr (4, [.ref tp, .ref ln, .ref tb, .ref ct, .ref dp])), (ln, .inr (2, [.ref hd])), (hd, .inl (cN, 256, .inr (.inr (.inr (.inr (va_up hf (pid % 256) (some u))))))), (ra, .inr (10, [.ref tp, .ref u, .int x, .int 0, .int 0, .int 0]))] ++ (lpl cB ((u, pid, hf (pid % 256), -1, 0, -1, 0, none, none) :: Ls) ++ Q)) [(cN, .object "StreamSplitter$Lane")] t) (va_A ([(h, .inr (11, [.ref rc, .ref d])), (rc, .inr (4, [.ref tp, .ref ln, .ref tb, .ref ct, .ref dp])), (ln, .inr (2, [.ref hd])), (hd, .inl (cN, 256, .inr (.inr (.inr (.inr hf)))))] ++ (lpl cB Ls ++ Q)) sz)) 2 14 (va_A ([(h, .inr (11, [.ref rc, .ref d])), (rc, .inr (4, [.ref tp, .ref ln, .ref tb, .ref ct, .ref dp])), (ln, .inr (2, [.ref hd])), (hd, .inl (cN, 256, .inr (.inr (.inr (.inr hf)))))] ++ (lpl cB Ls ++ Q)) sz) := by
  refine Met.ofW (cc := b_SS_writerTo) (maxL := 3) (ret := (some (.object "StreamSplitter$Writer"))) (by decide) rfl ?_
  intro p e s m args below meth cd s₁ Bd hml hv
  obtain ⟨rfl, hsz, hP, hK, hN, hD0⟩ := hv
  have hx := Bd.exec
  have hb := Bd.bytes
  have hr := Bd.returns
  have hts := hN.use (a := ([.ref h, .int (nI pid), .int x]).toArray)
  have hown : s.vm.findClass R_SS = some m.cls := findClass_of_methodNamed Bd.named
  have hlocks := Bd.notSynchronized
  subst hsz
  have hD := hD0.self (sz := s.heap.size)
  clear hD0
  have hA : ∀ q : Nat, s.heap.size ≤ q → va_A ([(h, .inr (11, [.ref rc, .ref d])), (rc, .inr (4, [.ref tp, .ref ln, .ref tb, .ref ct, .ref dp])), (ln, .inr (2, [.ref hd])), (hd, .inl (cN, 256, .inr (.inr (.inr (.inr hf)))))] ++ (lpl cB Ls ++ Q)) s.heap.size q := fun q h => Or.inr h
  have hS : va_S (va_A ([(h, .inr (11, [.ref rc, .ref d])), (rc, .inr (4, [.ref tp, .ref ln, .ref tb, .ref ct, .ref dp])), (ln, .inr (2, [.ref hd])), (hd, .inl (cN, 256, .inr (.inr (.inr (.inr hf)))))] ++ (lpl cB Ls ++ Q)) s.heap.size) s.heap s.heap [] := va_S.rf
  generalize hAe : va_A ([(h, .inr (11, [.ref rc, .ref d])), (rc, .inr (4, [.ref tp, .ref ln, .ref tb, .ref ct, .ref dp])), (ln, .inr (2, [.ref hd])), (hd, .inl (cN, 256, .inr (.inr (.inr (.inr hf)))))] ++ (lpl cB Ls ++ Q)) s.heap.size = A at hD hA hS ⊢
  have hP : va_P D classes ([(h, .inr (11, [.ref rc, .ref d])), (rc, .inr (4, [.ref tp, .ref ln, .ref tb, .ref ct, .ref dp])), (ln, .inr (2, [.ref hd])), (hd, .inl (cN, 256, .inr (.inr (.inr (.inr hf)))))] ++ (lpl cB Ls ++ Q)) s.heap := hP
  have hl := lv_entry ([.ref h, .int (nI pid), .int x]) (n := 3) (Nat.le_of_ble_eq_true rfl)
  rw [lg_entry_eq]
  generalize (lg_sl ([.ref h, .int (nI pid), .int x]) ++ List.replicate (3 - (lg_sl ([.ref h, .int (nI pid), .int x])).length) Slot.unset).toArray = ls at hl ⊢
  have hl : lv_has ls 3 [(0, .ref h), (1, .int (nI pid)), (2, .int x)] := hl
  refine va_new (ci := 10) (fs := [.null, .null, .int 0, .int 0, .int 0, .int 0]) (C := R_Writer) (T := F_Writer) (N := 6) hx hb hts i_Writer t_Writer t_Writer_ok hown (hts _ wd_945) (hts _ wd_946) (hts _ wd_85) hK hP hD hS hA rfl (fs_Writer) (by show 0 + 1 ≤ 2; omega) (by show 0 + 6 ≤ 14; omega) d_SS_writerTo_0 (fun q0 H hP hD hS => ?_)
  have hP := hP.swap
  have hD := hD.swap
  have hP : va_P D classes ([(h, .inr (11, [.ref rc, .ref d])), (rc, .inr (4, [.ref tp, .ref ln, .ref tb, .ref ct, .ref dp])), (ln, .inr (2, [.ref hd])), (hd, .inl (cN, 256, .inr (.inr (.inr (.inr hf))))), (q0, .inr (10, [.null, .null, .int 0, .int 0, .int 0, .int 0]))] ++ (lpl cB Ls ++ Q)) H := hP
  have hD : va_D A ([(h, .inr (11, [.ref rc, .ref d])), (rc, .inr (4, [.ref tp, .ref ln, .ref tb, .ref ct, .ref dp])), (ln, .inr (2, [.ref hd])), (hd, .inl (cN, 256, .inr (.inr (.inr (.inr hf))))), (q0, .inr (10, [.null, .null, .int 0, .int 0, .int 0, .int 0]))] ++ (lpl cB Ls ++ Q)) := hD
  refine lv_dup hx hb d_SS_writerTo_3 rfl ?_
  refine lv_aload_n hx hb d_SS_writerTo_4 rfl (lv_at hl 0 rfl) ?_
  refine va_get (D := D) (ci := 11) (v := .ref rc) (C := R_SS) (T := F_SS) (N := 2) hx hb hts i_SS hown hK hP 0 rfl rfl 0 (by decide) (hts _ wd_198) (fun _ h9 => h9) rfl d_SS_writerTo_5 ?_
  refine va_getN (D := D) (ci := 4) (v := .ref tp) (C := R_Receiver) (T := F_Receiver) (N := 5) hx hb hts i_Receiver hown hK hP 1 rfl rfl 0 (by decide) (hts _ wd_176) (fun _ h9 => h9) rfl d_SS_writerTo_8 ?_
  refine lv_aload_n hx hb d_SS_writerTo_11 rfl (lv_at hl 0 rfl) ?_
  refine va_get (D := D) (ci := 11) (v := .ref rc) (C := R_SS) (T := F_SS) (N := 2) hx hb hts i_SS hown hK hP 0 rfl rfl 0 (by decide) (hts _ wd_198) (fun _ h9 => h9) rfl d_SS_writerTo_12 ?_
  refine va_getN (D := D) (ci := 4) (v := .ref ln) (C := R_Receiver) (T := F_Receiver) (N := 5) hx hb hts i_Receiver hown hK hP 1 rfl rfl 1 (by decide) (hts _ wd_178) (fun _ h9 => h9) rfl d_SS_writerTo_15 ?_
  refine lv_iload_n hx hb d_SS_writerTo_18 rfl (lv_at hl 1 rfl) ?_
  have hPc := hP.part (cx := [(ln, .inr (2, [.ref hd])), (hd, .inl (cN, 256, .inr (.inr (.inr (.inr hf)))))]) [2, 3] rfl
  have hKc := hK.sub (tys' := [(cN, .object "StreamSplitter$Lane")]) [0] rfl
  have hDc := hD.part (cx := [(ln, .inr (2, [.ref hd])), (hd, .inl (cN, 256, .inr (.inr (.inr (.inr hf)))))]) [2, 3] (by decide) rfl
  have hFc := va_freeP (cx := [(ln, .inr (2, [.ref hd])), (hd, .inl (cN, 256, .inr (.inr (.inr (.inr hf)))))]) hD hS hA [2, 3] rfl
  refine va_callr (va_runV (As := [.int (nI pid)]) (rest := [.ref tp, .ref q0, .ref q0]) ⟨hx, hb, hml, hown, hts⟩ (c_Lanes_findOrMakeM l D H.size cB cN ln hd hf pid Ls Q hpid hLN hok hF) (z_cV hN wd_229 wd_62 wd_947 hd_Lanes_findOrMake rfl rfl ⟨Nat.le_of_ble_eq_true rfl, Nat.le_of_ble_eq_true rfl⟩ wd_227 wd_228) (z_preVm (va_recv (ci := 2) (q0 := 2) hK hP rfl rfl) hPc hKc hN hDc) rfl rfl hl.1 rfl (lv_room (Nat.le_of_ble_eq_true rfl)) d_SS_writerTo_19 ⟨Nat.le_of_ble_eq_true rfl, Nat.le_of_ble_eq_true rfl⟩) hS (fun q _ h => hFc q h) hFc (fun u19 la t H locs ht hvm e19 hB hz1 hk1 hS => ?_)
  obtain ⟨hP1, hK1, hD1⟩ := hB
  rw [ht] at hP1
  obtain ⟨hP, hD⟩ := va_joinP (wr := [(h, .inr (11, [.ref rc, .ref d])), (rc, .inr (4, [.ref tp, .ref ln, .ref tb, .ref ct, .ref dp])), (q0, .inr (10, [.null, .null, .int 0, .int 0, .int 0, .int 0]))]) (rx := [(ln, .inr (2, [.ref hd])), (hd, .inl (cN, 256, .inr (.inr (.inr (.inr (va_up hf (pid % 256) (some la)))))))]) hP hD [2, 3] [0, 1, 4] rfl rfl (by decide) (by decide) hk1 hFc hP1 hD1
  clear hk1 hP1 hD1 hFc hPc hDc hz1
  have hP : va_P D classes ([(h, .inr (11, [.ref rc, .ref d])), (rc, .inr (4, [.ref tp, .ref ln, .ref tb, .ref ct, .ref dp])), (q0, .inr (10, [.null, .null, .int 0, .int 0, .int 0, .int 0])), (ln, .inr (2, [.ref hd])), (hd, .inl (cN, 256, .inr (.inr (.inr (.inr (va_up hf (pid % 256) (some la)))))))] ++ (lpl cB ((la, pid, hf (pid % 256), -1, 0, -1, 0, none, none) :: Ls) ++ Q)) H := hP
  have hD : va_D A ([(h, .inr (11, [.ref rc, .ref d])), (rc, .inr (4, [.ref tp, .ref ln, .ref tb, .ref ct, .ref dp])), (q0, .inr (10, [.null, .null, .int 0, .int 0, .int 0, .int 0])), (ln, .inr (2, [.ref hd])), (hd, .inl (cN, 256, .inr (.inr (.inr (.inr (va_up hf (pid % 256) (some la)))))))] ++ (lpl cB ((la, pid, hf (pid % 256), -1, 0, -1, 0, none, none) :: Ls) ++ Q)) := hD
  refine lv_iload_n hx hb d_SS_writerTo_22 rfl (lv_at hl 2 rfl) ?_
  have hPc := hP.sub (ws' := [(q0, .inr (10, [.null, .null, .int 0, .int 0, .int 0, .int 0]))]) [2] rfl
  have hKc := hK.sub (tys' := []) [] rfl
  have hDc := hD.sub (ws' := [(q0, .inr (10, [.null, .null, .int 0, .int 0, .int 0, .int 0]))]) [2] (by decide) rfl
  have hFc := va_free (wc := [(q0, .inr (10, [.null, .null, .int 0, .int 0, .int 0, .int 0]))]) hD hS hA [2] rfl
  refine va_callv (va_runI (As := [.ref tp, .ref la, .int x]) (rest := [.ref q0]) ⟨hx, hb, hml, hown, hts⟩ (c_Writer_init l D H.size q0 tp la x ) (z_cI hN wd_950 wd_85 wd_948 hd_Writer_init rfl rfl ⟨Nat.le_of_ble_eq_true rfl, Nat.le_of_ble_eq_true rfl⟩ wd_949 rfl) (z_preSm hPc hKc hN hDc) rfl rfl hl.1 rfl (lv_room (Nat.le_of_ble_eq_true rfl)) d_SS_writerTo_23 ⟨Nat.le_of_ble_eq_true rfl, Nat.le_of_ble_eq_true rfl⟩) hS (fun q _ h => hFc q h) hFc (fun u23 t H locs ht hvm e23 hB hz1 hk1 hS => ?_)
  obtain ⟨hP1, hK1, hD1⟩ := hB
  rw [ht] at hP1
  obtain ⟨hP, hD⟩ := va_joinQ (cx := [(q0, .inr (10, [.null, .null, .int 0, .int 0, .int 0, .int 0]))]) (wr := [(h, .inr (11, [.ref rc, .ref d])), (rc, .inr (4, [.ref tp, .ref ln, .ref tb, .ref ct, .ref dp])), (ln, .inr (2, [.ref hd])), (hd, .inl (cN, 256, .inr (.inr (.inr (.inr (va_up hf (pid % 256) (some la)))))))]) (w1 := [(q0, .inr (10, [.ref tp, .ref la, .int x, .int 0, .int 0, .int 0]))]) hP hD [2] [0, 1, 3, 4] rfl rfl (by decide) (by decide) hk1 hFc hP1 hD1
  clear hk1 hP1 hD1 hFc hPc hDc hz1
  have hP : va_P D classes ([(h, .inr (11, [.ref rc, .ref d])), (rc, .inr (4, [.ref tp, .ref ln, .ref tb, .ref ct, .ref dp])), (ln, .inr (2, [.ref hd])), (hd, .inl (cN, 256, .inr (.inr (.inr (.inr (va_up hf (pid % 256) (some la))))))), (q0, .inr (10, [.ref tp, .ref la, .int x, .int 0, .int 0, .int 0]))] ++ (lpl cB ((la, pid, hf (pid % 256), -1, 0, -1, 0, none, none) :: Ls) ++ Q)) H := hP
  have hD : va_D A ([(h, .inr (11, [.ref rc, .ref d])), (rc, .inr (4, [.ref tp, .ref ln, .ref tb, .ref ct, .ref dp])), (ln, .inr (2, [.ref hd])), (hd, .inl (cN, 256, .inr (.inr (.inr (.inr (va_up hf (pid % 256) (some la))))))), (q0, .inr (10, [.ref tp, .ref la, .int x, .int 0, .int 0, .int 0]))] ++ (lpl cB ((la, pid, hf (pid % 256), -1, 0, -1, 0, none, none) :: Ls) ++ Q)) := hD
  have hP9 := hP.part (cx := [(h, .inr (11, [.ref rc, .ref d])), (rc, .inr (4, [.ref tp, .ref ln, .ref tb, .ref ct, .ref dp])), (ln, .inr (2, [.ref hd])), (hd, .inl (cN, 256, .inr (.inr (.inr (.inr (va_up hf (pid % 256) (some la))))))), (q0, .inr (10, [.ref tp, .ref la, .int x, .int 0, .int 0, .int 0]))]) [0, 1, 2, 3, 4] rfl
  have hD9 := hD.part (cx := [(h, .inr (11, [.ref rc, .ref d])), (rc, .inr (4, [.ref tp, .ref ln, .ref tb, .ref ct, .ref dp])), (ln, .inr (2, [.ref hd])), (hd, .inl (cN, 256, .inr (.inr (.inr (.inr (va_up hf (pid % 256) (some la))))))), (q0, .inr (10, [.ref tp, .ref la, .int x, .int 0, .int 0, .int 0]))]) [0, 1, 2, 3, 4] (by decide) rfl
  have hK9 := hK.sub (tys' := [(cN, .object "StreamSplitter$Lane")]) [0] rfl
  refine W.widen (k := 2) (n := 14) (by omega) (by omega) ?_
  exact W.aret (v := (.ref q0)) hx hb hr (Or.inl ⟨_, rfl⟩) (Or.inr ⟨_, rfl⟩) (fun t ht hW => ⟨⟨la, _, rfl, trivial, ⟨by rw [ht]; exact hP9, va_K.moved hW.alike hK9, hD9⟩⟩, hS.F ht⟩) hS.2.2 d_SS_writerTo_26
