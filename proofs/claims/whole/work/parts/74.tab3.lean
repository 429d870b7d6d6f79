theorem wd_417 : (Jvm.Cond.classLink "StreamSplitter$Programme" (55 : Nat) "StreamSplitter$Order") ∈ lw_ok := List.mem_filter.mpr ⟨List.mem_of_getElem? (i := 417) (by decide +kernel), rfl⟩
theorem wd_418 : (Jvm.Cond.constantLong "StreamSplitter$Programme" (81 : Nat) (8589934591 : Int64)) ∈ lw_ok := List.mem_filter.mpr ⟨List.mem_of_getElem? (i := 418) (by decide +kernel), rfl⟩
theorem wd_419 : (Jvm.Cond.constantLong "StreamSplitter$Programme" (93 : Nat) (4294967296 : Int64)) ∈ lw_ok := List.mem_filter.mpr ⟨List.mem_of_getElem? (i := 419) (by decide +kernel), rfl⟩
theorem wd_442 : (Jvm.Cond.fieldLinkNest "StreamSplitter$Programme" (78 : Nat) "StreamSplitter$Order" "time" "J" "StreamSplitter") ∈ lw_ok := List.mem_filter.mpr ⟨List.mem_of_getElem? (i := 442) (by decide +kernel), rfl⟩
theorem wd_592 : (Jvm.Cond.fieldLink "StreamSplitter$Programme" (27 : Nat) "StreamSplitter$Programme" "now" "J") ∈ lw_ok := List.mem_filter.mpr ⟨List.mem_of_getElem? (i := 592) (by decide +kernel), rfl⟩
theorem wd_595 : (Jvm.Cond.fieldLink "StreamSplitter$Programme" (31 : Nat) "StreamSplitter$Programme" "waiting" "Ljava/util/ArrayList;") ∈ lw_ok := List.mem_filter.mpr ⟨List.mem_of_getElem? (i := 595) (by decide +kernel), rfl⟩
theorem wd_1487 : (Jvm.Cond.castable "StreamSplitter$Order" "StreamSplitter$Order") ∈ lw_ok := List.mem_filter.mpr ⟨List.mem_of_getElem? (i := 1487) (by decide +kernel), rfl⟩
theorem d_Programme_firstDue_0 : decode b_Programme_firstDue 0 = .ok (.iconst 0, 1) := by decide +kernel
theorem d_Programme_firstDue_1 : decode b_Programme_firstDue 1 = .ok (.istore_n 1, 1) := by decide +kernel
theorem d_Programme_firstDue_2 : decode b_Programme_firstDue 2 = .ok (.iload_n 1, 1) := by decide +kernel
theorem d_Programme_firstDue_3 : decode b_Programme_firstDue 3 = .ok (.aload_n 0, 1) := by decide +kernel
theorem d_Programme_firstDue_4 : decode b_Programme_firstDue 4 = .ok (.getfield 31, 3) := by decide +kernel
theorem d_Programme_firstDue_7 : decode b_Programme_firstDue 7 = .ok (.invokevirtual 47, 3) := by decide +kernel
theorem d_Programme_firstDue_10 : decode b_Programme_firstDue 10 = .ok (.if_icmp .ge 41, 3) := by decide +kernel
theorem d_Programme_firstDue_13 : decode b_Programme_firstDue 13 = .ok (.aload_n 0, 1) := by decide +kernel
theorem d_Programme_firstDue_14 : decode b_Programme_firstDue 14 = .ok (.getfield 27, 3) := by decide +kernel
theorem d_Programme_firstDue_17 : decode b_Programme_firstDue 17 = .ok (.aload_n 0, 1) := by decide +kernel
theorem d_Programme_firstDue_18 : decode b_Programme_firstDue 18 = .ok (.getfield 31, 3) := by decide +kernel
theorem d_Programme_firstDue_21 : decode b_Programme_firstDue 21 = .ok (.iload_n 1, 1) := by decide +kernel
theorem d_Programme_firstDue_22 : decode b_Programme_firstDue 22 = .ok (.invokevirtual 51, 3) := by decide +kernel
theorem d_Programme_firstDue_25 : decode b_Programme_firstDue 25 = .ok (.checkcast 55, 3) := by decide +kernel
theorem d_Programme_firstDue_28 : decode b_Programme_firstDue 28 = .ok (.getfield 78, 3) := by decide +kernel
theorem d_Programme_firstDue_31 : decode b_Programme_firstDue 31 = .ok (.lsub, 1) := by decide +kernel
theorem d_Programme_firstDue_32 : decode b_Programme_firstDue 32 = .ok (.ldc2_w 81, 3) := by decide +kernel
theorem d_Programme_firstDue_35 : decode b_Programme_firstDue 35 = .ok (.land, 1) := by decide +kernel
theorem d_Programme_firstDue_36 : decode b_Programme_firstDue 36 = .ok (.ldc2_w 93, 3) := by decide +kernel
theorem d_Programme_firstDue_39 : decode b_Programme_firstDue 39 = .ok (.lcmp, 1) := by decide +kernel
theorem d_Programme_firstDue_40 : decode b_Programme_firstDue 40 = .ok (.ifCond .ge 5, 3) := by decide +kernel
theorem d_Programme_firstDue_43 : decode b_Programme_firstDue 43 = .ok (.iload_n 1, 1) := by decide +kernel
theorem d_Programme_firstDue_44 : decode b_Programme_firstDue 44 = .ok (.ireturn, 1) := by decide +kernel
theorem d_Programme_firstDue_45 : decode b_Programme_firstDue 45 = .ok (.iinc 1 1, 3) := by decide +kernel
theorem d_Programme_firstDue_48 : decode b_Programme_firstDue 48 = .ok (.goto (-46), 3) := by decide +kernel
theorem d_Programme_firstDue_51 : decode b_Programme_firstDue 51 = .ok (.iconst (-1), 1) := by decide +kernel
theorem d_Programme_firstDue_52 : decode b_Programme_firstDue 52 = .ok (.ireturn, 1) := by decide +kernel
def oz0 : Int64 × Int32 × Int32 × Int64 := (0, 0, 0, 0)
/-- the orders that wait: addresses and what they say -/
def isW (WS : va_W) (cO : ClassId) (wa : Nat) (W : List (Nat × Int64 × Int32 × Int32 × Int64)) : Prop := ∃ b mo g, isL WS cO wa b W.length mo g ∧ ∀ j, j < W.length → g j = some (W.getD j (0, oz0)).1 ∧ ((W.getD j (0, oz0)).1, orE (W.getD j (0, oz0)).2) ∈ WS
def due9 (nw : Int64) (o : Int64 × Int32 × Int32 × Int64) : Prop := (nw - o.1) &&& 8589934591 < 4294967296
def fdR (nw : Int64) (W : List (Nat × Int64 × Int32 × Int32 × Int64)) (r : Int32) : Prop := (r = -1 ∧ ∀ j, j < W.length → ¬ due9 nw (W.getD j (0, oz0)).2) ∨ ∃ j, j < W.length ∧ due9 nw (W.getD j (0, oz0)).2 ∧ (∀ i, i < j → ¬ due9 nw (W.getD i (0, oz0)).2) ∧ r = nI j

set_option maxHeartbeats 4000000 in
set_option maxRecDepth 100000 in
theorem c_Programme_firstDue (l : Launch) (D : va_G) (cO : ClassId) (WS : va_W) (z : PZ) (Wl : List (Nat × Int64 × Int32 × Int32 × Int64)) (hm : (z.1, pgE z) ∈ WS) (hW : isW WS cO z.2.2.2.2.2.2.2.2 Wl) : Met l y_Programme_firstDue [Cond.code y_Programme_firstDue b_Programme_firstDue 2 (some .int)] ({ frames := 3, cells := 0, slots := 0, locals := 64 }) (zP [.ref z.1] D ([] ++ WS) [(cO, .object "java/lang/Object")]) (vp_Si (fun r => fdR z.2.2.2.2.2.2.2.1 Wl r)) 0 0 (fun _ => False) := by
  refine Met.ofW (cc := b_Programme_firstDue) (maxL := 2) (ret := (some .int)) (by decide) rfl ?_
  intro p e s m args below meth cd s₁ Bd hml hv
  obtain ⟨rfl, hP, hK, hN⟩ := hv
  have hx := Bd.exec
  have hb := Bd.bytes
  have hr := Bd.returns
  have hts := hN.use (a := ([.ref z.1]).toArray)
  have hown : s.vm.findClass R_Programme = some m.cls := findClass_of_methodNamed Bd.named
  have hlocks := Bd.notSynchronized
  have hP : va_P D classes ([] ++ WS) s.heap := hP
  have hl := lv_entry ([.ref z.1]) (n := 2) (Nat.le_of_ble_eq_true rfl)
  rw [lg_entry_eq]
  generalize (lg_sl ([.ref z.1]) ++ List.replicate (2 - (lg_sl ([.ref z.1])).length) Slot.unset).toArray = ls at hl ⊢
  have hl : lv_has ls 2 [(0, .ref z.1)] := hl
  obtain ⟨q0, hq0⟩ := List.getElem?_of_mem hm
  obtain ⟨wb, mo, g, ⟨hLm, hL6, hLa⟩, hE⟩ := hW
  obtain ⟨q1, hq1⟩ := List.getElem?_of_mem hLm
  refine lv_iconst (v := 0) hx hb d_Programme_firstDue_0 (by decide) ?_
  refine lv_istore_n (lv' := [(1, .int 0), (0, .ref z.1)]) hx hb d_Programme_firstDue_1 rfl hl (by decide) rfl (fun ls hl => ?_)
  have loop2 : ∀ (N : Nat) (j : Nat) (ls : Array Slot) (hm : Wl.length - j < N) (hj : j ≤ Wl.length) (hne : ∀ i, i < j → ¬ due9 z.2.2.2.2.2.2.2.1 (Wl.getD i (0, oz0)).2) (hl : lv_has ls 2 [(0, .ref z.1), (1, .int (nI j))]), W p l e ({ frames := 3, cells := 0, slots := 0, locals := 64 }) s m ([.ref z.1]).toArray below meth cd s.heap [] 0 0 (MQ below (vp_Si (fun r => fdR z.2.2.2.2.2.2.2.1 Wl r)) ([.ref z.1]).toArray s 0 0 (fun _ => False)) (F0 m 2 ls []) := by
    intro N2
    induction N2 with
    | zero => intro j ls hm hj hne hl; exact absurd hm (Nat.not_lt_zero _)
    | succ N2 ih2 =>
      intro j ls hm hj hne hl
      refine lv_iload_n hx hb d_Programme_firstDue_2 rfl (lv_at hl 1 rfl) ?_
      refine lv_aload_n hx hb d_Programme_firstDue_3 rfl (lv_at hl 0 rfl) ?_
      refine va_get (D := D) (ci := 7) (v := .ref z.2.2.2.2.2.2.2.2) (C := R_Programme) (T := F_Programme) (N := 8) hx hb hts i_Programme hown hK hP q0 hq0 rfl 7 (by decide) (hts _ wd_595) (fun _ h9 => h9) rfl d_Programme_firstDue_4 ?_
      have hPc : va_P D classes [(z.2.2.2.2.2.2.2.2, .inr (12, [.ref wb, .int (nI Wl.length), .int mo]))] s.heap := z_Pm1 hLm hP
      have hKc := hK.sub (tys' := []) [] rfl
      refine z_ci (va_runV (As := []) (rest := [.int (nI j)]) ⟨hx, hb, hml, hown, hts⟩ (c_AL_size l D z.2.2.2.2.2.2.2.2 wb (nI Wl.length) mo ) (z_cV hN wd_305 wd_66 wd_329 hd_AL_size rfl rfl ⟨Nat.le_of_ble_eq_true rfl, Nat.le_of_ble_eq_true rfl⟩ wd_303 wd_304) (z_preV (va_recv (ci := 12) (q0 := q1) hK hP rfl hq1) hPc hKc hN) rfl rfl hl.1 rfl (lv_room (Nat.le_of_ble_eq_true rfl)) d_Programme_firstDue_7 ⟨Nat.le_of_ble_eq_true rfl, Nat.le_of_ble_eq_true rfl⟩) (fun r7 e7 => ?_)
      subst e7
      refine lv_icmp_ge (tgt := 51) hx hb d_Programme_firstDue_10 rfl (fun h10 => ?_) (fun h10 => ?_)
      · have h10 := (nI_leI (by omega) (by omega)).mp h10
        refine lv_iconst (v := (-1)) hx hb d_Programme_firstDue_51 (by decide) ?_
        exact W.iret (v := (-1)) hx hb hr (fun t ht hW => ⟨_, rfl, Or.inl ⟨rfl, fun i hi => hne i (by omega)⟩, ht⟩) (fun _ h => by cases h) d_Programme_firstDue_52
      · have h10 := mt (nI_leI (by omega) (by omega)).mpr h10
        refine lv_aload_n hx hb d_Programme_firstDue_13 rfl (lv_at hl 0 rfl) ?_
        refine va_get (D := D) (ci := 7) (v := .long z.2.2.2.2.2.2.2.1) (C := R_Programme) (T := F_Programme) (N := 8) hx hb hts i_Programme hown hK hP q0 hq0 rfl 6 (by decide) (hts _ wd_592) (fun _ h9 => h9) rfl d_Programme_firstDue_14 ?_
        refine lv_aload_n hx hb d_Programme_firstDue_17 rfl (lv_at hl 0 rfl) ?_
        refine va_get (D := D) (ci := 7) (v := .ref z.2.2.2.2.2.2.2.2) (C := R_Programme) (T := F_Programme) (N := 8) hx hb hts i_Programme hown hK hP q0 hq0 rfl 7 (by decide) (hts _ wd_595) (fun _ h9 => h9) rfl d_Programme_firstDue_18 ?_
        refine lv_iload_n hx hb d_Programme_firstDue_21 rfl (lv_at hl 1 rfl) ?_
        obtain ⟨hga, ham⟩ := hE j (by omega)
        obtain ⟨q2, hq2⟩ := List.getElem?_of_mem ham
        have hPc : va_P D classes [(z.2.2.2.2.2.2.2.2, .inr (12, [.ref wb, .int (nI Wl.length), .int mo])), (wb, .inl (cO, 10, .inr (.inr (.inr (.inr g)))))] s.heap := z_Pm2 hLm (hLa.resolve_left (by omega)) hP
        have hKc := hK.sub (tys' := [(cO, .object "java/lang/Object")]) [0] rfl
        refine z_cq (va_runV (As := [.int (nI j)]) (rest := [.long z.2.2.2.2.2.2.2.1]) ⟨hx, hb, hml, hown, hts⟩ (c_AL_get l D cO z.2.2.2.2.2.2.2.2 wb Wl.length mo g j (by omega) (by omega)) (z_cV hN wd_309 wd_66 wd_330 hd_AL_get rfl rfl ⟨Nat.le_of_ble_eq_true rfl, Nat.le_of_ble_eq_true rfl⟩ wd_307 wd_308) (z_preV (va_recv (ci := 12) (q0 := q1) hK hP rfl hq1) hPc hKc hN) rfl rfl hl.1 rfl (lv_room (Nat.le_of_ble_eq_true rfl)) d_Programme_firstDue_22 ⟨Nat.le_of_ble_eq_true rfl, Nat.le_of_ble_eq_true rfl⟩) (fun r22 e22 => ?_)
        subst e22
        refine z_topq (w := some ((Wl.getD j (0, oz0)).1)) hga ?_
        refine va_castY hx hb hown (hts _ wd_417) (hN _ wd_1487) (va_recv (ci := 6) (q0 := q2) hK hP rfl hq2) d_Programme_firstDue_25 ?_
        refine va_getN (D := D) (ci := 6) (v := .long ((Wl.getD j (0, oz0)).2.1)) (C := R_Order) (T := F_Order) (N := 4) hx hb hts i_Order hown hK hP q2 hq2 rfl 0 (by decide) (hts _ wd_442) (fun _ h9 => h9) rfl d_Programme_firstDue_28 ?_
        refine lv_lsub hx hb d_Programme_firstDue_31 ?_
        refine lv_ldc2 hx hb hown (hts _ wd_418) d_Programme_firstDue_32 ?_
        refine lv_land hx hb d_Programme_firstDue_35 ?_
        refine lv_ldc2 hx hb hown (hts _ wd_419) d_Programme_firstDue_36 ?_
        refine W.lcmp hx hb d_Programme_firstDue_39 ?_
        refine lv_if_ge (tgt := 45) hx hb d_Programme_firstDue_40 rfl (fun h40 => ?_) (fun h40 => ?_)
        · have h40 : ¬ due9 z.2.2.2.2.2.2.2.1 (Wl.getD j (0, oz0)).2 := Int64.not_lt.mpr ((lg_cmp_ge _ _).mp h40)
          refine lv_iinc (k := 1) (v := nI (j + 1)) (lv' := [(1, .int (nI (j + 1))), (0, .ref z.1)]) hx hb d_Programme_firstDue_45 hl rfl (nI_1 j) (by decide) rfl (fun ls hl => ?_)
          refine lv_goto (tgt := 2) hx hb d_Programme_firstDue_48 rfl ?_
          exact ih2 (j + 1) ls (by omega) (by omega) (fun i hi => by by_cases c9 : i = j; rw [c9]; exact h40; exact hne i (by omega)) (lv_sub hl [1, 0] rfl)
        · have h40 : due9 z.2.2.2.2.2.2.2.1 (Wl.getD j (0, oz0)).2 := Int64.not_le.mp (mt (lg_cmp_ge _ _).mpr h40)
          refine lv_iload_n hx hb d_Programme_firstDue_43 rfl (lv_at hl 1 rfl) ?_
          exact W.iret (v := (nI j)) hx hb hr (fun t ht hW => ⟨_, rfl, Or.inr ⟨j, by omega, h40, hne, rfl⟩, ht⟩) (fun _ h => by cases h) d_Programme_firstDue_44
  exact loop2 _ 0 ls (Nat.lt_succ_self _) (Nat.zero_le _) (fun i hi => absurd hi (Nat.not_lt_zero i)) (lv_sub hl [1, 0] rfl)
