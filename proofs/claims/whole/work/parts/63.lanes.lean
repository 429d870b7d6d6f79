theorem wd_241 : (Jvm.Cond.fieldLinkNest "StreamSplitter$Lanes" (15 : Nat) "StreamSplitter$Lane" "pid" "I" "StreamSplitter") ∈ lw_ok := List.mem_filter.mpr ⟨List.mem_of_getElem? (i := 241) (by decide +kernel), rfl⟩
theorem wd_246 : (Jvm.Cond.fieldLinkNest "StreamSplitter$Lanes" (19 : Nat) "StreamSplitter$Lane" "next" "LStreamSplitter$Lane;" "StreamSplitter") ∈ lw_ok := List.mem_filter.mpr ⟨List.mem_of_getElem? (i := 246) (by decide +kernel), rfl⟩
theorem d_Lanes_find_15 : decode b_Lanes_find 15 = .ok (.aload_n 2, 1) := by decide +kernel
theorem d_Lanes_find_16 : decode b_Lanes_find 16 = .ok (.getfield 15, 3) := by decide +kernel
theorem d_Lanes_find_19 : decode b_Lanes_find 19 = .ok (.iload_n 1, 1) := by decide +kernel
theorem d_Lanes_find_20 : decode b_Lanes_find 20 = .ok (.if_icmp .ne 5, 3) := by decide +kernel
theorem d_Lanes_find_23 : decode b_Lanes_find 23 = .ok (.aload_n 2, 1) := by decide +kernel
theorem d_Lanes_find_24 : decode b_Lanes_find 24 = .ok (.areturn, 1) := by decide +kernel
theorem d_Lanes_find_25 : decode b_Lanes_find 25 = .ok (.aload_n 2, 1) := by decide +kernel
theorem d_Lanes_find_26 : decode b_Lanes_find 26 = .ok (.getfield 19, 3) := by decide +kernel
theorem d_Lanes_find_29 : decode b_Lanes_find 29 = .ok (.astore_n 2, 1) := by decide +kernel
theorem d_Lanes_find_30 : decode b_Lanes_find 30 = .ok (.goto (-19), 3) := by decide +kernel
theorem d_Lanes_findOrMake_10 : decode b_Lanes_findOrMake 10 = .ok (.aload_n 2, 1) := by decide +kernel
theorem d_Lanes_findOrMake_11 : decode b_Lanes_findOrMake 11 = .ok (.areturn, 1) := by decide +kernel
set_option maxHeartbeats 4000000 in
set_option maxRecDepth 100000 in
theorem c_Lanes_find (l : Launch) (D : va_G) (cB cN : ClassId) (ln hd : Nat) (hf : Nat → Option Nat) (pid : Nat) (Ls : List LZ) (Q : va_W) (hpid : pid < 8192) (hLN : ∀ k, k < 256 → hf k = lhd k Ls) (hok : lok Ls) : Met l y_Lanes_find [Cond.code y_Lanes_find b_Lanes_find 3 (some (.object "StreamSplitter$Lane"))] ({ frames := 0, cells := 0, slots := 0, locals := 0 }) (zP [.ref ln, .int (nI pid)] D ([(ln, .inr (2, [.ref hd])), (hd, .inl (cN, 256, .inr (.inr (.inr (.inr hf)))))] ++ (lpl cB Ls ++ Q)) [(cN, .object "StreamSplitter$Lane")]) (va_Sq (fun r => r = lnF Ls pid)) 0 0 (fun _ => False) := by
  refine Met.ofW (cc := b_Lanes_find) (maxL := 3) (ret := (some (.object "StreamSplitter$Lane"))) (by decide) rfl ?_
  intro p e s m args below meth cd s₁ Bd hml hv
  obtain ⟨rfl, hP, hK, hN⟩ := hv
  have hx := Bd.exec
  have hb := Bd.bytes
  have hr := Bd.returns
  have hts := hN.use (a := ([.ref ln, .int (nI pid)]).toArray)
  have hown : s.vm.findClass R_Lanes = some m.cls := findClass_of_methodNamed Bd.named
  have hlocks := Bd.notSynchronized
  have hP : va_P D classes ([(ln, .inr (2, [.ref hd])), (hd, .inl (cN, 256, .inr (.inr (.inr (.inr hf)))))] ++ (lpl cB Ls ++ Q)) s.heap := hP
  have hl := lv_entry ([.ref ln, .int (nI pid)]) (n := 3) (Nat.le_of_ble_eq_true rfl)
  rw [lg_entry_eq]
  generalize (lg_sl ([.ref ln, .int (nI pid)]) ++ List.replicate (3 - (lg_sl ([.ref ln, .int (nI pid)])).length) Slot.unset).toArray = ls at hl ⊢
  have hl : lv_has ls 3 [(0, .ref ln), (1, .int (nI pid))] := hl
  refine lv_aload_n hx hb d_Lanes_find_0 rfl (lv_at hl 0 rfl) ?_
  refine va_get (D := D) (ci := 2) (v := .ref hd) (C := R_Lanes) (T := F_Lanes) (N := 1) hx hb hts i_Lanes hown hK hP 0 rfl rfl 0 (by decide) (hts _ wd_127) (fun _ h9 => h9) rfl d_Lanes_find_1 ?_
  refine lv_iload_n hx hb d_Lanes_find_4 rfl (lv_at hl 1 rfl) ?_
  refine lv_sipush (v := 255) hx hb d_Lanes_find_5 (by decide) ?_
  refine lv_iand hx hb d_Lanes_find_8 ?_
  refine z_topi (w := nI (pid % 256)) (wr_256 (by omega)) ?_
  refine z_aldq hx hb hK hP 1 0 rfl rfl (pid % 256) rfl (by omega) (by omega) d_Lanes_find_9 ?_
  refine z_topq (w := lhd (pid % 256) Ls) (hLN _ (by omega)) ?_
  refine z_astoreq_n (lv' := [(2, va_rf (lhd (pid % 256) Ls)), (0, .ref ln), (1, .int (nI pid))]) hx hb d_Lanes_find_10 rfl hl (by decide) rfl (fun ls hl => ?_)
  have loop11 : ∀ (N : Nat) (T : List LZ) (ls : Array Slot) (hm : T.length < N) (hT : ∃ Q9, Ls = Q9 ++ T ∧ ∀ y ∈ Q9, y.2.1 ≠ pid) (hl : lv_has ls 3 [(0, .ref ln), (1, .int (nI pid)), (2, va_rf (lhd (pid % 256) T))]), W p l e ({ frames := 0, cells := 0, slots := 0, locals := 0 }) s m ([.ref ln, .int (nI pid)]).toArray below meth cd s.heap [] 0 0 (MQ below (va_Sq (fun r => r = lnF Ls pid)) ([.ref ln, .int (nI pid)]).toArray s 0 0 (fun _ => False)) (F0 m 11 ls []) := by
    intro N11
    induction N11 with
    | zero => intro T ls hm hT hl; exact absurd hm (Nat.not_lt_zero _)
    | succ N11 ih11 =>
      intro T ls hm hT hl
      refine z_aloadq_n hx hb d_Lanes_find_11 rfl (lv_at hl 2 rfl) ?_
      cases h12 : lhd (pid % 256) T with
      | none =>
        rw [h12] at hl
        have hl : lv_has ls 3 [(0, .ref ln), (1, .int (nI pid)), (2, .null)] := hl
        try rw [h12]
        refine lv_ifnullN (tgt := 33) hx hb d_Lanes_find_12 rfl ?_
        refine lv_null hx hb d_Lanes_find_33 ?_
        exact W.aret (v := va_rf none) hx hb hr (Or.inl ⟨_, rfl⟩) (va_rf_or _) (fun t ht hW => ⟨_, rfl, (by obtain ⟨Q9, hLs, hQ9⟩ := hT; exact (lf_none (fun y hy => by rw [hLs] at hy; rcases List.mem_append.mp hy with q | q; exact hQ9 y q; exact fun e => lhd_none h12 y q (by rw [e]))).symm), ht⟩) (fun _ h => by cases h) d_Lanes_find_34
      | some x12 =>
        rw [h12] at hl
        have hl : lv_has ls 3 [(0, .ref ln), (1, .int (nI pid)), (2, .ref x12)] := hl
        try rw [h12]
        refine lv_ifnull (x := x12) hx hb d_Lanes_find_12 ?_
        obtain ⟨T1, z, T2, hTe, hza, hzk, hT1⟩ := lhd_some h12
        subst hza
        obtain ⟨Q9, hLs, hQ9⟩ := hT
        have hLs2 : Ls = (Q9 ++ T1) ++ z :: T2 := by rw [hLs, hTe, List.append_assoc]
        have hz := lok_app (T1 := Q9 ++ T1) (by rw [← hLs2]; exact hok)
        obtain ⟨q0, hq0⟩ := lp_get (X := [(ln, .inr (2, [.ref hd])), (hd, .inl (cN, 256, .inr (.inr (.inr (.inr hf)))))]) (Q := Q) (cB := cB) (Ls := Ls) (z := z) (by rw [hLs2]; exact List.mem_append_right _ List.mem_cons_self)
        refine lv_aload_n hx hb d_Lanes_find_15 rfl (lv_at hl 2 rfl) ?_
        refine va_getN (D := D) (ci := 1) (v := .int (nI z.2.1)) (C := R_Lane) (T := F_Lane) (N := 8) hx hb hts i_Lane hown hK hP q0 hq0 rfl 0 (by decide) (hts _ wd_241) (fun _ h9 => h9) rfl d_Lanes_find_16 ?_
        refine lv_iload_n hx hb d_Lanes_find_19 rfl (lv_at hl 1 rfl) ?_
        refine lv_icmp_ne (tgt := 25) hx hb d_Lanes_find_20 rfl (fun h20 => ?_) (fun h20 => ?_)
        · have h20 : ¬ z.2.1 = pid := fun q => h20 (by rw [q])
          refine lv_aload_n hx hb d_Lanes_find_25 rfl (lv_at hl 2 rfl) ?_
          refine va_getN (D := D) (ci := 1) (v := va_rf z.2.2.1) (C := R_Lane) (T := F_Lane) (N := 8) hx hb hts i_Lane hown hK hP q0 hq0 rfl 1 (by decide) (hts _ wd_246) (fun _ h9 => h9) rfl d_Lanes_find_26 ?_
          refine z_topq (w := lhd (pid % 256) T2) (by rw [hz.2.1, hzk]) ?_
          refine z_astoreq_n (lv' := [(2, va_rf (lhd (pid % 256) T2)), (0, .ref ln), (1, .int (nI pid))]) hx hb d_Lanes_find_29 rfl hl (by decide) rfl (fun ls hl => ?_)
          refine lv_goto (tgt := 11) hx hb d_Lanes_find_30 rfl ?_
          exact ih11 T2 ls (by rw [hTe, List.length_append, List.length_cons] at hm; omega) (⟨(Q9 ++ T1) ++ [z], by rw [hLs2]; simp, lf_go hQ9 hT1 h20 hzk⟩) (lv_sub hl [1, 2, 0] rfl)
        · have h20 : z.2.1 = pid := nI_inj (by omega) (by omega) (by first | exact h20 | exact Classical.not_not.mp h20)
          refine lv_aload_n hx hb d_Lanes_find_23 rfl (lv_at hl 2 rfl) ?_
          exact W.aret (v := va_rf (some z.1)) hx hb hr (Or.inl ⟨_, rfl⟩) (va_rf_or _) (fun t ht hW => ⟨_, rfl, (by rw [hLs2]; exact (lf_some (lf_pre hQ9 hT1 h20 hzk) h20).symm), ht⟩) (fun _ h => by cases h) d_Lanes_find_24
  exact loop11 _ Ls ls (Nat.lt_succ_self _) (⟨[], rfl, fun _ h => by cases h⟩) (lv_sub hl [1, 2, 0] rfl)
set_option maxHeartbeats 4000000 in
set_option maxRecDepth 100000 in
theorem c_Lanes_findOrMakeF (l : Launch) (D : va_G) (cB cN : ClassId) (ln hd : Nat) (hf : Nat → Option Nat) (pid : Nat) (Ls : List LZ) (Q : va_W) (a : Nat) (hpid : pid < 8192) (hLN : ∀ k, k < 256 → hf k = lhd k Ls) (hok : lok Ls) (hF : lnF Ls pid = some a) : Met l y_Lanes_findOrMake [Cond.code y_Lanes_findOrMake b_Lanes_findOrMake 4 (some (.object "StreamSplitter$Lane"))] ({ frames := 1, cells := 0, slots := 0, locals := 22 }) (zP [.ref ln, .int (nI pid)] D ([(ln, .inr (2, [.ref hd])), (hd, .inl (cN, 256, .inr (.inr (.inr (.inr hf)))))] ++ (lpl cB Ls ++ Q)) [(cN, .object "StreamSplitter$Lane")]) (va_Sq (fun r => r = some a)) 0 0 (fun _ => False) := by
  refine Met.ofW (cc := b_Lanes_findOrMake) (maxL := 4) (ret := (some (.object "StreamSplitter$Lane"))) (by decide) rfl ?_
  intro p e s m args below meth cd s₁ Bd hml hv
  obtain ⟨rfl, hP, hK, hN⟩ := hv
  have hx := Bd.exec
  have hb := Bd.bytes
  have hr := Bd.returns
  have hts := hN.use (a := ([.ref ln, .int (nI pid)]).toArray)
  have hown : s.vm.findClass R_Lanes = some m.cls := findClass_of_methodNamed Bd.named
  have hlocks := Bd.notSynchronized
  have hP : va_P D classes ([(ln, .inr (2, [.ref hd])), (hd, .inl (cN, 256, .inr (.inr (.inr (.inr hf)))))] ++ (lpl cB Ls ++ Q)) s.heap := hP
  have hl := lv_entry ([.ref ln, .int (nI pid)]) (n := 4) (Nat.le_of_ble_eq_true rfl)
  rw [lg_entry_eq]
  generalize (lg_sl ([.ref ln, .int (nI pid)]) ++ List.replicate (4 - (lg_sl ([.ref ln, .int (nI pid)])).length) Slot.unset).toArray = ls at hl ⊢
  have hl : lv_has ls 4 [(0, .ref ln), (1, .int (nI pid))] := hl
  refine lv_aload_n hx hb d_Lanes_findOrMake_0 rfl (lv_at hl 0 rfl) ?_
  refine lv_iload_n hx hb d_Lanes_findOrMake_1 rfl (lv_at hl 1 rfl) ?_
  have hPc := hP.part (cx := [(ln, .inr (2, [.ref hd])), (hd, .inl (cN, 256, .inr (.inr (.inr (.inr hf)))))]) [0, 1] rfl
  have hKc := hK.sub (tys' := [(cN, .object "StreamSplitter$Lane")]) [0] rfl
  refine z_cq (va_runV (As := [.int (nI pid)]) (rest := []) ⟨hx, hb, hml, hown, hts⟩ (c_Lanes_find l D cB cN ln hd hf pid Ls Q hpid hLN hok) (z_cV hN wd_233 wd_62 wd_230 hd_Lanes_find rfl rfl ⟨Nat.le_of_ble_eq_true rfl, Nat.le_of_ble_eq_true rfl⟩ wd_231 wd_232) (z_preV (va_recv (ci := 2) (q0 := 0) hK hP rfl rfl) hPc hKc hN) rfl rfl hl.1 rfl (lv_room (Nat.le_of_ble_eq_true rfl)) d_Lanes_findOrMake_2 ⟨Nat.le_of_ble_eq_true rfl, Nat.le_of_ble_eq_true rfl⟩) (fun r2 e2 => ?_)
  subst e2
  refine z_topq (w := some a) hF ?_
  refine lv_astore_n (lv' := [(2, .ref a), (0, .ref ln), (1, .int (nI pid))]) hx hb d_Lanes_findOrMake_5 rfl hl (by decide) rfl (fun ls hl => ?_)
  refine lv_aload_n hx hb d_Lanes_findOrMake_6 rfl (lv_at hl 0 rfl) ?_
  refine lv_ifnull hx hb d_Lanes_findOrMake_7 ?_
  refine lv_aload_n hx hb d_Lanes_findOrMake_10 rfl (lv_at hl 0 rfl) ?_
  exact W.aret (v := va_rf (some a)) hx hb hr (Or.inl ⟨_, rfl⟩) (va_rf_or _) (fun t ht hW => ⟨_, rfl, rfl, ht⟩) (fun _ h => by cases h) d_Lanes_findOrMake_11
