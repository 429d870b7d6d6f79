set_option maxHeartbeats 4000000 in
set_option maxRecDepth 100000 in
theorem c_Lanes_findOrMakeM (l : Launch) (D : va_G) (sz : Nat) (cB cN : ClassId) (ln hd : Nat) (hf : Nat → Option Nat) (pid : Nat) (Ls : List LZ) (Q : va_W) (hpid : pid < 8192) (hLN : ∀ k, k < 256 → hf k = lhd k Ls) (hok : lok Ls) (hF : lnF Ls pid = none) : Met l y_Lanes_findOrMake [Cond.code y_Lanes_findOrMake b_Lanes_findOrMake 4 (some (.object "StreamSplitter$Lane"))] ({ frames := 2, cells := 1, slots := 8, locals := 34 }) (zM [.ref ln, .int (nI pid)] D ([(ln, .inr (2, [.ref hd])), (hd, .inl (cN, 256, .inr (.inr (.inr (.inr hf)))))] ++ (lpl cB Ls ++ Q)) [(cN, .object "StreamSplitter$Lane")] sz) (va_Qr (fun (_ : Unit) => True) (fun (_u : Unit) ra t => zW D (va_A ([(ln, .inr (2, [.ref hd])), (hd, .inl (cN, 256, .inr (.inr (.inr (.inr hf)))))] ++ (lpl cB Ls ++ Q)) sz) ([(ln, .inr (2, [.ref hd])), (hd, .inl (cN, 256, .inr (.inr (.inr (.inr (va_up hf (pid % 256) (some ra)))))))] ++ (lpl cB ((ra, pid, hf (pid % 256), -1, 0, -1, 0, none, none) :: Ls) ++ Q)) [(cN, .object "StreamSplitter$Lane")] t) (va_A ([(ln, .inr (2, [.ref hd])), (hd, .inl (cN, 256, .inr (.inr (.inr (.inr hf)))))] ++ (lpl cB Ls ++ Q)) sz)) 1 8 (va_A ([(ln, .inr (2, [.ref hd])), (hd, .inl (cN, 256, .inr (.inr (.inr (.inr hf)))))] ++ (lpl cB Ls ++ Q)) sz) := by
  refine Met.ofW (cc := b_Lanes_findOrMake) (maxL := 4) (ret := (some (.object "StreamSplitter$Lane"))) (by decide) rfl ?_
  intro p e s m args below meth cd s₁ Bd hml hv
  obtain ⟨rfl, hsz, hP, hK, hN, hD0⟩ := hv
  have hx := Bd.exec
  have hb := Bd.bytes
  have hr := Bd.returns
  have hts := hN.use (a := ([.ref ln, .int (nI pid)]).toArray)
  have hown : s.vm.findClass R_Lanes = some m.cls := findClass_of_methodNamed Bd.named
  have hlocks := Bd.notSynchronized
  subst hsz
  have hD := hD0.self (sz := s.heap.size)
  clear hD0
  have hA : ∀ q : Nat, s.heap.size ≤ q → va_A ([(ln, .inr (2, [.ref hd])), (hd, .inl (cN, 256, .inr (.inr (.inr (.inr hf)))))] ++ (lpl cB Ls ++ Q)) s.heap.size q := fun q h => Or.inr h
  have hS : va_S (va_A ([(ln, .inr (2, [.ref hd])), (hd, .inl (cN, 256, .inr (.inr (.inr (.inr hf)))))] ++ (lpl cB Ls ++ Q)) s.heap.size) s.heap s.heap [] := va_S.rf
  generalize hAe : va_A ([(ln, .inr (2, [.ref hd])), (hd, .inl (cN, 256, .inr (.inr (.inr (.inr hf)))))] ++ (lpl cB Ls ++ Q)) s.heap.size = A at hD hA hS ⊢
  have hP : va_P D classes ([(ln, .inr (2, [.ref hd])), (hd, .inl (cN, 256, .inr (.inr (.inr (.inr hf)))))] ++ (lpl cB Ls ++ Q)) s.heap := hP
  have hl := lv_entry ([.ref ln, .int (nI pid)]) (n := 4) (Nat.le_of_ble_eq_true rfl)
  rw [lg_entry_eq]
  generalize (lg_sl ([.ref ln, .int (nI pid)]) ++ List.replicate (4 - (lg_sl ([.ref ln, .int (nI pid)])).length) Slot.unset).toArray = ls at hl ⊢
  have hl : lv_has ls 4 [(0, .ref ln), (1, .int (nI pid))] := hl
  refine lv_aload_n hx hb d_Lanes_findOrMake_0 rfl (lv_at hl 0 rfl) ?_
  refine lv_iload_n hx hb d_Lanes_findOrMake_1 rfl (lv_at hl 1 rfl) ?_
  have hPc := hP.part (cx := [(ln, .inr (2, [.ref hd])), (hd, .inl (cN, 256, .inr (.inr (.inr (.inr hf)))))]) [0, 1] rfl
  have hKc := hK.sub (tys' := [(cN, .object "StreamSplitter$Lane")]) [0] rfl
  refine z_cq (va_runV (As := [.int (nI pid)]) (rest := []) ⟨hx, hb, hml, hown, hts⟩ (c_Lanes_find l D cB cN ln hd hf pid Ls Q hpid hLN hok) (z_cV hN wd_233 wd_62 wd_230 hd_Lanes_find rfl rfl ⟨Nat.le_of_ble_eq_true rfl, Nat.le_of_ble_eq_true rfl⟩ wd_231 wd_232) (z_preV (va_recv (ci := 2) (q0 := 0) hK hP rfl rfl) hPc hKc hN) rfl rfl hl.1 rfl (lv_room (Nat.le_of_ble_eq_true rfl)) d_Lanes_findOrMake_2 ⟨Nat.le_of_ble_eq_true rfl, Nat.le_of_ble_eq_true rfl⟩) (fun r2 e2 => ?_)
  subst e2
  refine z_topq (w := none) hF ?_
  refine lv_astore_nN (lv' := [(2, .null), (0, .ref ln), (1, .int (nI pid))]) hx hb d_Lanes_findOrMake_5 rfl hl (by decide) rfl (fun ls hl => ?_)
  refine lv_aload_nN hx hb d_Lanes_findOrMake_6 rfl (lv_at hl 0 rfl) ?_
  refine lv_ifnullN (tgt := 12) hx hb d_Lanes_findOrMake_7 rfl ?_
  refine lv_iload_n hx hb d_Lanes_findOrMake_12 rfl (lv_at hl 2 rfl) ?_
  refine lv_sipush (v := 255) hx hb d_Lanes_findOrMake_13 (by decide) ?_
  refine lv_iand hx hb d_Lanes_findOrMake_16 ?_
  refine z_topi (w := nI (pid % 256)) (wr_256 (by omega)) ?_
  refine lv_istore_n (lv' := [(3, .int (nI (pid % 256))), (2, .null), (0, .ref ln), (1, .int (nI pid))]) hx hb d_Lanes_findOrMake_17 rfl hl (by decide) rfl (fun ls hl => ?_)
  refine lv_aload_n hx hb d_Lanes_findOrMake_18 rfl (lv_at hl 2 rfl) ?_
  refine va_get (D := D) (ci := 2) (v := .ref hd) (C := R_Lanes) (T := F_Lanes) (N := 1) hx hb hts i_Lanes hown hK hP 0 rfl rfl 0 (by decide) (hts _ wd_127) (fun _ h9 => h9) rfl d_Lanes_findOrMake_19 ?_
  refine lv_iload_n hx hb d_Lanes_findOrMake_22 rfl (lv_at hl 0 rfl) ?_
  refine va_new (ci := 1) (fs := [.int 0, .null, .int 0, .int 0, .long 0, .int 0, .null, .null]) (C := R_Lane) (T := F_Lane) (N := 8) hx hb hts i_Lane t_Lane t_Lane_ok hown (hts _ wd_125) (hts _ wd_234) (hts _ wd_74) hK hP hD hS hA rfl (fs_Lane) (by show 0 + 1 ≤ 1; omega) (by show 0 + 8 ≤ 8; omega) d_Lanes_findOrMake_23 (fun q23 H hP hD hS => ?_)
  have hP := hP.swap
  have hD := hD.swap
  have hP : va_P D classes ([(ln, .inr (2, [.ref hd])), (hd, .inl (cN, 256, .inr (.inr (.inr (.inr hf))))), (q23, .inr (1, [.int 0, .null, .int 0, .int 0, .long 0, .int 0, .null, .null]))] ++ (lpl cB Ls ++ Q)) H := hP
  have hD : va_D A ([(ln, .inr (2, [.ref hd])), (hd, .inl (cN, 256, .inr (.inr (.inr (.inr hf))))), (q23, .inr (1, [.int 0, .null, .int 0, .int 0, .long 0, .int 0, .null, .null]))] ++ (lpl cB Ls ++ Q)) := hD
  refine lv_dup hx hb d_Lanes_findOrMake_26 rfl ?_
  refine lv_iload_n hx hb d_Lanes_findOrMake_27 rfl (lv_at hl 3 rfl) ?_
  refine lv_aload_n hx hb d_Lanes_findOrMake_28 rfl (lv_at hl 2 rfl) ?_
  refine va_get (D := D) (ci := 2) (v := .ref hd) (C := R_Lanes) (T := F_Lanes) (N := 1) hx hb hts i_Lanes hown hK hP 0 rfl rfl 0 (by decide) (hts _ wd_127) (fun _ h9 => h9) rfl d_Lanes_findOrMake_29 ?_
  refine lv_iload_n hx hb d_Lanes_findOrMake_32 rfl (lv_at hl 0 rfl) ?_
  refine z_aldq hx hb hK hP 1 0 rfl rfl (pid % 256) rfl (by omega) (by omega) d_Lanes_findOrMake_33 ?_
  cases hq34 : hf (pid % 256) with
  | none =>
    have hPc := hP.sub (ws' := [(q23, .inr (1, [.int 0, .null, .int 0, .int 0, .long 0, .int 0, .null, .null]))]) [2] rfl
    have hKc := hK.sub (tys' := []) [] rfl
    have hDc := hD.sub (ws' := [(q23, .inr (1, [.int 0, .null, .int 0, .int 0, .long 0, .int 0, .null, .null]))]) [2] (by decide) rfl
    have hFc := va_free (wc := [(q23, .inr (1, [.int 0, .null, .int 0, .int 0, .long 0, .int 0, .null, .null]))]) hD hS hA [2] rfl
    refine va_callv (va_runI (As := [.int (nI pid), .null]) (rest := [.ref q23, .int (nI (pid % 256)), .ref hd]) ⟨hx, hb, hml, hown, hts⟩ (c_Lane_init0 l D H.size q23 (nI pid) ) (z_cI hN wd_237 wd_74 wd_235 hd_Lane_init rfl rfl ⟨Nat.le_of_ble_eq_true rfl, Nat.le_of_ble_eq_true rfl⟩ wd_236 rfl) (z_preSm hPc hKc hN hDc) rfl rfl hl.1 rfl (lv_room (Nat.le_of_ble_eq_true rfl)) d_Lanes_findOrMake_34 ⟨Nat.le_of_ble_eq_true rfl, Nat.le_of_ble_eq_true rfl⟩) hS (fun q _ h => hFc q h) hFc (fun u34 t H locs ht hvm e34 hB hz1 hk1 hS => ?_)
    obtain ⟨hP1, hK1, hD1⟩ := hB
    rw [ht] at hP1
    obtain ⟨hP, hD⟩ := va_joinQ (cx := [(q23, .inr (1, [.int 0, .null, .int 0, .int 0, .long 0, .int 0, .null, .null]))]) (wr := [(ln, .inr (2, [.ref hd])), (hd, .inl (cN, 256, .inr (.inr (.inr (.inr hf)))))]) (w1 := [(q23, .inr (1, [.int (nI pid), .null, .int (-1), .int 0, .long (-1), .int 0, .null, .null]))]) hP hD [2] [0, 1] rfl rfl (by decide) (by decide) hk1 hFc hP1 hD1
    clear hk1 hP1 hD1 hFc hPc hDc hz1
    have hP : va_P D classes ([(ln, .inr (2, [.ref hd])), (hd, .inl (cN, 256, .inr (.inr (.inr (.inr hf))))), (q23, .inr (1, [.int (nI pid), .null, .int (-1), .int 0, .long (-1), .int 0, .null, .null]))] ++ (lpl cB Ls ++ Q)) H := hP
    have hD : va_D A ([(ln, .inr (2, [.ref hd])), (hd, .inl (cN, 256, .inr (.inr (.inr (.inr hf))))), (q23, .inr (1, [.int (nI pid), .null, .int (-1), .int 0, .long (-1), .int 0, .null, .null]))] ++ (lpl cB Ls ++ Q)) := hD
    refine z_astq hx hb hK hP hD hS 1 0 2 1 rfl rfl rfl rfl (pid % 256) rfl (by omega) (by omega) d_Lanes_findOrMake_37 (fun H locs hP hD hS => ?_)
    have hP : va_P D classes ([(ln, .inr (2, [.ref hd])), (hd, .inl (cN, 256, .inr (.inr (.inr (.inr (va_up hf (pid % 256) (some q23))))))), (q23, .inr (1, [.int (nI pid), .null, .int (-1), .int 0, .long (-1), .int 0, .null, .null]))] ++ (lpl cB Ls ++ Q)) H := hP
    have hD : va_D A ([(ln, .inr (2, [.ref hd])), (hd, .inl (cN, 256, .inr (.inr (.inr (.inr (va_up hf (pid % 256) (some q23))))))), (q23, .inr (1, [.int (nI pid), .null, .int (-1), .int 0, .long (-1), .int 0, .null, .null]))] ++ (lpl cB Ls ++ Q)) := hD
    refine lv_aload_n hx hb d_Lanes_findOrMake_38 rfl (lv_at hl 2 rfl) ?_
    refine va_get (D := D) (ci := 2) (v := .ref hd) (C := R_Lanes) (T := F_Lanes) (N := 1) hx hb hts i_Lanes hown hK hP 0 rfl rfl 0 (by decide) (hts _ wd_127) (fun _ h9 => h9) rfl d_Lanes_findOrMake_39 ?_
    refine lv_iload_n hx hb d_Lanes_findOrMake_42 rfl (lv_at hl 0 rfl) ?_
    refine z_aldq hx hb hK hP 1 0 rfl rfl (pid % 256) rfl (by omega) (by omega) d_Lanes_findOrMake_43 ?_
    refine z_topq (w := some q23) (va_up_self _ _ _) ?_
    have hP := hP.part (cx := [(ln, .inr (2, [.ref hd])), (hd, .inl (cN, 256, .inr (.inr (.inr (.inr (va_up hf (pid % 256) (some q23))))))), (q23, .inr (1, [.int (nI pid), .null, .int (-1), .int 0, .long (-1), .int 0, .null, .null]))]) [0, 1, 2] rfl
    have hD := hD.part (cx := [(ln, .inr (2, [.ref hd])), (hd, .inl (cN, 256, .inr (.inr (.inr (.inr (va_up hf (pid % 256) (some q23))))))), (q23, .inr (1, [.int (nI pid), .null, .int (-1), .int 0, .long (-1), .int 0, .null, .null]))]) [0, 1, 2] (by decide) rfl
    have hP : va_P D classes ([(ln, .inr (2, [.ref hd])), (hd, .inl (cN, 256, .inr (.inr (.inr (.inr (va_up hf (pid % 256) (some q23)))))))] ++ (lpl cB ((q23, pid, none, -1, 0, -1, 0, none, none) :: Ls) ++ Q)) H := hP
    have hD : va_D A ([(ln, .inr (2, [.ref hd])), (hd, .inl (cN, 256, .inr (.inr (.inr (.inr (va_up hf (pid % 256) (some q23)))))))] ++ (lpl cB ((q23, pid, none, -1, 0, -1, 0, none, none) :: Ls) ++ Q)) := hD
    have hP9 := hP.part (cx := [(ln, .inr (2, [.ref hd])), (hd, .inl (cN, 256, .inr (.inr (.inr (.inr (va_up hf (pid % 256) (some q23)))))))]) [0, 1] rfl
    have hD9 := hD.part (cx := [(ln, .inr (2, [.ref hd])), (hd, .inl (cN, 256, .inr (.inr (.inr (.inr (va_up hf (pid % 256) (some q23)))))))]) [0, 1] (by decide) rfl
    have hK9 := hK.sub (tys' := [(cN, .object "StreamSplitter$Lane")]) [0] rfl
    refine W.widen (k := 1) (n := 8) (by omega) (by omega) ?_
    exact W.aret (v := (.ref q23)) hx hb hr (Or.inl ⟨_, rfl⟩) (Or.inr ⟨_, rfl⟩) (fun t ht hW => ⟨⟨(), _, rfl, trivial, ⟨by rw [ht]; exact hP9, va_K.moved hW.alike hK9, hD9⟩⟩, hS.F ht⟩) hS.2.2 d_Lanes_findOrMake_44
  | some y9 =>
    have hPc := hP.sub (ws' := [(q23, .inr (1, [.int 0, .null, .int 0, .int 0, .long 0, .int 0, .null, .null]))]) [2] rfl
    have hKc := hK.sub (tys' := []) [] rfl
    have hDc := hD.sub (ws' := [(q23, .inr (1, [.int 0, .null, .int 0, .int 0, .long 0, .int 0, .null, .null]))]) [2] (by decide) rfl
    have hFc := va_free (wc := [(q23, .inr (1, [.int 0, .null, .int 0, .int 0, .long 0, .int 0, .null, .null]))]) hD hS hA [2] rfl
    refine va_callv (va_runI (As := [.int (nI pid), .ref y9]) (rest := [.ref q23, .int (nI (pid % 256)), .ref hd]) ⟨hx, hb, hml, hown, hts⟩ (c_Lane_init1 l D H.size q23 y9 (nI pid) ) (z_cI hN wd_237 wd_74 wd_235 hd_Lane_init rfl rfl ⟨Nat.le_of_ble_eq_true rfl, Nat.le_of_ble_eq_true rfl⟩ wd_236 rfl) (z_preSm hPc hKc hN hDc) rfl rfl hl.1 rfl (lv_room (Nat.le_of_ble_eq_true rfl)) d_Lanes_findOrMake_34 ⟨Nat.le_of_ble_eq_true rfl, Nat.le_of_ble_eq_true rfl⟩) hS (fun q _ h => hFc q h) hFc (fun u34 t H locs ht hvm e34 hB hz1 hk1 hS => ?_)
    obtain ⟨hP1, hK1, hD1⟩ := hB
    rw [ht] at hP1
    obtain ⟨hP, hD⟩ := va_joinQ (cx := [(q23, .inr (1, [.int 0, .null, .int 0, .int 0, .long 0, .int 0, .null, .null]))]) (wr := [(ln, .inr (2, [.ref hd])), (hd, .inl (cN, 256, .inr (.inr (.inr (.inr hf)))))]) (w1 := [(q23, .inr (1, [.int (nI pid), .ref y9, .int (-1), .int 0, .long (-1), .int 0, .null, .null]))]) hP hD [2] [0, 1] rfl rfl (by decide) (by decide) hk1 hFc hP1 hD1
    clear hk1 hP1 hD1 hFc hPc hDc hz1
    have hP : va_P D classes ([(ln, .inr (2, [.ref hd])), (hd, .inl (cN, 256, .inr (.inr (.inr (.inr hf))))), (q23, .inr (1, [.int (nI pid), .ref y9, .int (-1), .int 0, .long (-1), .int 0, .null, .null]))] ++ (lpl cB Ls ++ Q)) H := hP
    have hD : va_D A ([(ln, .inr (2, [.ref hd])), (hd, .inl (cN, 256, .inr (.inr (.inr (.inr hf))))), (q23, .inr (1, [.int (nI pid), .ref y9, .int (-1), .int 0, .long (-1), .int 0, .null, .null]))] ++ (lpl cB Ls ++ Q)) := hD
    refine z_astq hx hb hK hP hD hS 1 0 2 1 rfl rfl rfl rfl (pid % 256) rfl (by omega) (by omega) d_Lanes_findOrMake_37 (fun H locs hP hD hS => ?_)
    have hP : va_P D classes ([(ln, .inr (2, [.ref hd])), (hd, .inl (cN, 256, .inr (.inr (.inr (.inr (va_up hf (pid % 256) (some q23))))))), (q23, .inr (1, [.int (nI pid), .ref y9, .int (-1), .int 0, .long (-1), .int 0, .null, .null]))] ++ (lpl cB Ls ++ Q)) H := hP
    have hD : va_D A ([(ln, .inr (2, [.ref hd])), (hd, .inl (cN, 256, .inr (.inr (.inr (.inr (va_up hf (pid % 256) (some q23))))))), (q23, .inr (1, [.int (nI pid), .ref y9, .int (-1), .int 0, .long (-1), .int 0, .null, .null]))] ++ (lpl cB Ls ++ Q)) := hD
    refine lv_aload_n hx hb d_Lanes_findOrMake_38 rfl (lv_at hl 2 rfl) ?_
    refine va_get (D := D) (ci := 2) (v := .ref hd) (C := R_Lanes) (T := F_Lanes) (N := 1) hx hb hts i_Lanes hown hK hP 0 rfl rfl 0 (by decide) (hts _ wd_127) (fun _ h9 => h9) rfl d_Lanes_findOrMake_39 ?_
    refine lv_iload_n hx hb d_Lanes_findOrMake_42 rfl (lv_at hl 0 rfl) ?_
    refine z_aldq hx hb hK hP 1 0 rfl rfl (pid % 256) rfl (by omega) (by omega) d_Lanes_findOrMake_43 ?_
    refine z_topq (w := some q23) (va_up_self _ _ _) ?_
    have hP := hP.part (cx := [(ln, .inr (2, [.ref hd])), (hd, .inl (cN, 256, .inr (.inr (.inr (.inr (va_up hf (pid % 256) (some q23))))))), (q23, .inr (1, [.int (nI pid), .ref y9, .int (-1), .int 0, .long (-1), .int 0, .null, .null]))]) [0, 1, 2] rfl
    have hD := hD.part (cx := [(ln, .inr (2, [.ref hd])), (hd, .inl (cN, 256, .inr (.inr (.inr (.inr (va_up hf (pid % 256) (some q23))))))), (q23, .inr (1, [.int (nI pid), .ref y9, .int (-1), .int 0, .long (-1), .int 0, .null, .null]))]) [0, 1, 2] (by decide) rfl
    have hP : va_P D classes ([(ln, .inr (2, [.ref hd])), (hd, .inl (cN, 256, .inr (.inr (.inr (.inr (va_up hf (pid % 256) (some q23)))))))] ++ (lpl cB ((q23, pid, (some y9), -1, 0, -1, 0, none, none) :: Ls) ++ Q)) H := hP
    have hD : va_D A ([(ln, .inr (2, [.ref hd])), (hd, .inl (cN, 256, .inr (.inr (.inr (.inr (va_up hf (pid % 256) (some q23)))))))] ++ (lpl cB ((q23, pid, (some y9), -1, 0, -1, 0, none, none) :: Ls) ++ Q)) := hD
    have hP9 := hP.part (cx := [(ln, .inr (2, [.ref hd])), (hd, .inl (cN, 256, .inr (.inr (.inr (.inr (va_up hf (pid % 256) (some q23)))))))]) [0, 1] rfl
    have hD9 := hD.part (cx := [(ln, .inr (2, [.ref hd])), (hd, .inl (cN, 256, .inr (.inr (.inr (.inr (va_up hf (pid % 256) (some q23)))))))]) [0, 1] (by decide) rfl
    have hK9 := hK.sub (tys' := [(cN, .object "StreamSplitter$Lane")]) [0] rfl
    refine W.widen (k := 1) (n := 8) (by omega) (by omega) ?_
    exact W.aret (v := (.ref q23)) hx hb hr (Or.inl ⟨_, rfl⟩) (Or.inr ⟨_, rfl⟩) (fun t ht hW => ⟨⟨(), _, rfl, trivial, ⟨by rw [ht]; exact hP9, va_K.moved hW.alike hK9, hD9⟩⟩, hS.F ht⟩) hS.2.2 d_Lanes_findOrMake_44
