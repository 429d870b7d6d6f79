theorem wd_128 : (Jvm.Cond.fieldLinkNest "StreamSplitter$Receiver" (104 : Nat) "StreamSplitter$Lanes" "heads" "[LStreamSplitter$Lane;" "StreamSplitter") ∈ lw_ok := List.mem_filter.mpr ⟨List.mem_of_getElem? (i := 128) (by decide +kernel), rfl⟩
theorem wd_247 : (Jvm.Cond.fieldLinkNest "StreamSplitter$Receiver" (108 : Nat) "StreamSplitter$Lane" "next" "LStreamSplitter$Lane;" "StreamSplitter") ∈ lw_ok := List.mem_filter.mpr ⟨List.mem_of_getElem? (i := 247) (by decide +kernel), rfl⟩
theorem d_Receiver_giveUpOthers_0 : decode b_Receiver_giveUpOthers 0 = .ok (.aload_n 0, 1) := by decide +kernel
theorem d_Receiver_giveUpOthers_1 : decode b_Receiver_giveUpOthers 1 = .ok (.getfield 23, 3) := by decide +kernel
theorem d_Receiver_giveUpOthers_4 : decode b_Receiver_giveUpOthers 4 = .ok (.getfield 104, 3) := by decide +kernel
theorem d_Receiver_giveUpOthers_7 : decode b_Receiver_giveUpOthers 7 = .ok (.astore_n 2, 1) := by decide +kernel
theorem d_Receiver_giveUpOthers_8 : decode b_Receiver_giveUpOthers 8 = .ok (.aload_n 2, 1) := by decide +kernel
theorem d_Receiver_giveUpOthers_9 : decode b_Receiver_giveUpOthers 9 = .ok (.arraylength, 1) := by decide +kernel
theorem d_Receiver_giveUpOthers_10 : decode b_Receiver_giveUpOthers 10 = .ok (.istore_n 3, 1) := by decide +kernel
theorem d_Receiver_giveUpOthers_11 : decode b_Receiver_giveUpOthers 11 = .ok (.iconst 0, 1) := by decide +kernel
theorem d_Receiver_giveUpOthers_12 : decode b_Receiver_giveUpOthers 12 = .ok (.istore 4, 2) := by decide +kernel
theorem d_Receiver_giveUpOthers_14 : decode b_Receiver_giveUpOthers 14 = .ok (.iload 4, 2) := by decide +kernel
theorem d_Receiver_giveUpOthers_16 : decode b_Receiver_giveUpOthers 16 = .ok (.iload_n 3, 1) := by decide +kernel
theorem d_Receiver_giveUpOthers_17 : decode b_Receiver_giveUpOthers 17 = .ok (.if_icmp .ge 46, 3) := by decide +kernel
theorem d_Receiver_giveUpOthers_20 : decode b_Receiver_giveUpOthers 20 = .ok (.aload_n 2, 1) := by decide +kernel
theorem d_Receiver_giveUpOthers_21 : decode b_Receiver_giveUpOthers 21 = .ok (.iload 4, 2) := by decide +kernel
theorem d_Receiver_giveUpOthers_23 : decode b_Receiver_giveUpOthers 23 = .ok (.aaload, 1) := by decide +kernel
theorem d_Receiver_giveUpOthers_24 : decode b_Receiver_giveUpOthers 24 = .ok (.astore 5, 2) := by decide +kernel
theorem d_Receiver_giveUpOthers_26 : decode b_Receiver_giveUpOthers 26 = .ok (.aload 5, 2) := by decide +kernel
theorem d_Receiver_giveUpOthers_28 : decode b_Receiver_giveUpOthers 28 = .ok (.astore 6, 2) := by decide +kernel
theorem d_Receiver_giveUpOthers_30 : decode b_Receiver_giveUpOthers 30 = .ok (.aload 6, 2) := by decide +kernel
theorem d_Receiver_giveUpOthers_32 : decode b_Receiver_giveUpOthers 32 = .ok (.ifnull 25, 3) := by decide +kernel
theorem d_Receiver_giveUpOthers_35 : decode b_Receiver_giveUpOthers 35 = .ok (.aload 6, 2) := by decide +kernel
theorem d_Receiver_giveUpOthers_37 : decode b_Receiver_giveUpOthers 37 = .ok (.aload_n 1, 1) := by decide +kernel
theorem d_Receiver_giveUpOthers_38 : decode b_Receiver_giveUpOthers 38 = .ok (.if_acmp .eq 9, 3) := by decide +kernel
theorem d_Receiver_giveUpOthers_41 : decode b_Receiver_giveUpOthers 41 = .ok (.aload_n 0, 1) := by decide +kernel
theorem d_Receiver_giveUpOthers_42 : decode b_Receiver_giveUpOthers 42 = .ok (.aload 6, 2) := by decide +kernel
theorem d_Receiver_giveUpOthers_44 : decode b_Receiver_giveUpOthers 44 = .ok (.invokevirtual 72, 3) := by decide +kernel
theorem d_Receiver_giveUpOthers_47 : decode b_Receiver_giveUpOthers 47 = .ok (.aload 6, 2) := by decide +kernel
theorem d_Receiver_giveUpOthers_49 : decode b_Receiver_giveUpOthers 49 = .ok (.getfield 108, 3) := by decide +kernel
theorem d_Receiver_giveUpOthers_52 : decode b_Receiver_giveUpOthers 52 = .ok (.astore 6, 2) := by decide +kernel
theorem d_Receiver_giveUpOthers_54 : decode b_Receiver_giveUpOthers 54 = .ok (.goto (-24), 3) := by decide +kernel
theorem d_Receiver_giveUpOthers_57 : decode b_Receiver_giveUpOthers 57 = .ok (.iinc 4 1, 3) := by decide +kernel
theorem d_Receiver_giveUpOthers_60 : decode b_Receiver_giveUpOthers 60 = .ok (.goto (-46), 3) := by decide +kernel
theorem d_Receiver_giveUpOthers_63 : decode b_Receiver_giveUpOthers 63 = .ok (.return_, 1) := by decide +kernel
set_option maxHeartbeats 16000000 in
set_option maxRecDepth 100000 in
theorem c_Receiver_giveUpOthers (l : Launch) (D : va_G) (sz : Nat) (cB cI : ClassId) (rv tp ln tb ca dp : Nat) (cn : Nat → Int32) (cN : ClassId) (hd ka : Nat) (hf : Nat → Option Nat) (Ls : List LZ) (Q : va_W) (hLN : ∀ k, k < 256 → hf k = lhd k Ls) (hok : lok Ls) (hLse : ∀ z ∈ Ls, ∀ q, z.2.2.2.2.2.2.2.1 = some q → q.2.2.1 ≤ 1024) : Met l y_Receiver_giveUpOthers [Cond.code y_Receiver_giveUpOthers b_Receiver_giveUpOthers 7 none] ({ frames := 2, cells := 0, slots := 0, locals := 41 }) (zM [.ref rv, .ref ka] D ([(rv, .inr (4, [.ref tp, .ref ln, .ref tb, .ref ca, .ref dp])), (ca, .inl (cI, 10, .inl cn)), (ln, .inr (2, [.ref hd])), (hd, .inl (cN, 256, .inr (.inr (.inr (.inr hf)))))] ++ (lpl cB Ls ++ Q)) [(cB, .byte), (cI, .int), (cN, .object "StreamSplitter$Lane")] sz) (va_Qv (fun (_ : Unit) => True) (fun (_u : Unit) t => zW D (va_A ([(rv, .inr (4, [.ref tp, .ref ln, .ref tb, .ref ca, .ref dp])), (ca, .inl (cI, 10, .inl cn)), (ln, .inr (2, [.ref hd])), (hd, .inl (cN, 256, .inr (.inr (.inr (.inr hf)))))] ++ (lpl cB Ls ++ Q)) sz) ([(rv, .inr (4, [.ref tp, .ref ln, .ref tb, .ref ca, .ref dp])), (ca, .inl (cI, 10, .inl (addc cn (pNs ka 256 Ls)))), (ln, .inr (2, [.ref hd])), (hd, .inl (cN, 256, .inr (.inr (.inr (.inr hf)))))] ++ (lpl cB (Ls.map (gvz ka)) ++ Q)) [(cB, .byte), (cI, .int), (cN, .object "StreamSplitter$Lane")] t) (va_A ([(rv, .inr (4, [.ref tp, .ref ln, .ref tb, .ref ca, .ref dp])), (ca, .inl (cI, 10, .inl cn)), (ln, .inr (2, [.ref hd])), (hd, .inl (cN, 256, .inr (.inr (.inr (.inr hf)))))] ++ (lpl cB Ls ++ Q)) sz)) 0 0 (va_A ([(rv, .inr (4, [.ref tp, .ref ln, .ref tb, .ref ca, .ref dp])), (ca, .inl (cI, 10, .inl cn)), (ln, .inr (2, [.ref hd])), (hd, .inl (cN, 256, .inr (.inr (.inr (.inr hf)))))] ++ (lpl cB Ls ++ Q)) sz) := by
  refine Met.ofW (cc := b_Receiver_giveUpOthers) (maxL := 7) (ret := none) (by decide) rfl ?_
  intro p e s m args below meth cd s₁ Bd hml hv
  obtain ⟨rfl, hsz, hP, hK, hN, hD0⟩ := hv
  have hx := Bd.exec
  have hb := Bd.bytes
  have hr := Bd.returns
  have hts := hN.use (a := ([.ref rv, .ref ka]).toArray)
  have hown : s.vm.findClass R_Receiver = some m.cls := findClass_of_methodNamed Bd.named
  have hlocks := Bd.notSynchronized
  subst hsz
  have hD := hD0.self (sz := s.heap.size)
  clear hD0
  have hA : ∀ q : Nat, s.heap.size ≤ q → va_A ([(rv, .inr (4, [.ref tp, .ref ln, .ref tb, .ref ca, .ref dp])), (ca, .inl (cI, 10, .inl cn)), (ln, .inr (2, [.ref hd])), (hd, .inl (cN, 256, .inr (.inr (.inr (.inr hf)))))] ++ (lpl cB Ls ++ Q)) s.heap.size q := fun q h => Or.inr h
  have hS : va_S (va_A ([(rv, .inr (4, [.ref tp, .ref ln, .ref tb, .ref ca, .ref dp])), (ca, .inl (cI, 10, .inl cn)), (ln, .inr (2, [.ref hd])), (hd, .inl (cN, 256, .inr (.inr (.inr (.inr hf)))))] ++ (lpl cB Ls ++ Q)) s.heap.size) s.heap s.heap [] := va_S.rf
  generalize hAe : va_A ([(rv, .inr (4, [.ref tp, .ref ln, .ref tb, .ref ca, .ref dp])), (ca, .inl (cI, 10, .inl cn)), (ln, .inr (2, [.ref hd])), (hd, .inl (cN, 256, .inr (.inr (.inr (.inr hf)))))] ++ (lpl cB Ls ++ Q)) s.heap.size = A at hD hA hS ⊢
  have hP : va_P D classes ([(rv, .inr (4, [.ref tp, .ref ln, .ref tb, .ref ca, .ref dp])), (ca, .inl (cI, 10, .inl cn)), (ln, .inr (2, [.ref hd])), (hd, .inl (cN, 256, .inr (.inr (.inr (.inr hf)))))] ++ (lpl cB Ls ++ Q)) s.heap := hP
  have hl := lv_entry ([.ref rv, .ref ka]) (n := 7) (Nat.le_of_ble_eq_true rfl)
  rw [lg_entry_eq]
  generalize (lg_sl ([.ref rv, .ref ka]) ++ List.replicate (7 - (lg_sl ([.ref rv, .ref ka])).length) Slot.unset).toArray = ls at hl ⊢
  have hl : lv_has ls 7 [(0, .ref rv), (1, .ref ka)] := hl
  refine lv_aload_n hx hb d_Receiver_giveUpOthers_0 rfl (lv_at hl 0 rfl) ?_
  refine va_get (D := D) (ci := 4) (v := .ref ln) (C := R_Receiver) (T := F_Receiver) (N := 5) hx hb hts i_Receiver hown hK hP 0 rfl rfl 1 (by decide) (hts _ wd_177) (fun _ h9 => h9) rfl d_Receiver_giveUpOthers_1 ?_
  refine va_getN (D := D) (ci := 2) (v := .ref hd) (C := R_Lanes) (T := F_Lanes) (N := 1) hx hb hts i_Lanes hown hK hP 2 rfl rfl 0 (by decide) (hts _ wd_128) (fun _ h9 => h9) rfl d_Receiver_giveUpOthers_4 ?_
  refine lv_astore_n (lv' := [(2, .ref hd), (0, .ref rv), (1, .ref ka)]) hx hb d_Receiver_giveUpOthers_7 rfl hl (by decide) rfl (fun ls hl => ?_)
  refine lv_aload_n hx hb d_Receiver_giveUpOthers_8 rfl (lv_at hl 0 rfl) ?_
  refine va_alen (v := nI 256) hx hb hK hP 3 2 rfl rfl rfl d_Receiver_giveUpOthers_9 ?_
  refine z_topi (w := nI 256) rfl ?_
  refine lv_istore_n (lv' := [(3, .int (nI 256)), (2, .ref hd), (0, .ref rv), (1, .ref ka)]) hx hb d_Receiver_giveUpOthers_10 rfl hl (by decide) rfl (fun ls hl => ?_)
  refine lv_iconst (v := 0) hx hb d_Receiver_giveUpOthers_11 (by decide) ?_
  refine lv_istore (lv' := [(4, .int 0), (3, .int (nI 256)), (2, .ref hd), (0, .ref rv), (1, .ref ka)]) hx hb d_Receiver_giveUpOthers_12 hl (by decide) rfl (fun ls hl => ?_)
  have loop14 : ∀ (N : Nat) (j : Nat) (H : Heap) (locs : List Loc) (ls : Array Slot) (hm : 256 - j < N) (hj : j ≤ 256) (hl : lv_has ls 7 [(0, .ref rv), (1, .ref ka), (2, .ref hd), (3, .int (nI 256)), (4, .int (nI j))]) (hP : va_P D classes ([(rv, .inr (4, [.ref tp, .ref ln, .ref tb, .ref ca, .ref dp])), (ca, .inl (cI, 10, .inl (addc cn (gNs ka j [] Ls)))), (ln, .inr (2, [.ref hd])), (hd, .inl (cN, 256, .inr (.inr (.inr (.inr hf)))))] ++ (lpl cB (gLs ka j [] Ls) ++ Q)) H) (hD : va_D A ([(rv, .inr (4, [.ref tp, .ref ln, .ref tb, .ref ca, .ref dp])), (ca, .inl (cI, 10, .inl (addc cn (gNs ka j [] Ls)))), (ln, .inr (2, [.ref hd])), (hd, .inl (cN, 256, .inr (.inr (.inr (.inr hf)))))] ++ (lpl cB (gLs ka j [] Ls) ++ Q))) (hS : va_S A s.heap H locs), W p l e ({ frames := 2, cells := 0, slots := 0, locals := 41 }) s m ([.ref rv, .ref ka]).toArray below meth cd H locs 0 0 (MQ below (va_Qv (fun (_ : Unit) => True) (fun (_u : Unit) t => zW D (A) ([(rv, .inr (4, [.ref tp, .ref ln, .ref tb, .ref ca, .ref dp])), (ca, .inl (cI, 10, .inl (addc cn (pNs ka 256 Ls)))), (ln, .inr (2, [.ref hd])), (hd, .inl (cN, 256, .inr (.inr (.inr (.inr hf)))))] ++ (lpl cB (Ls.map (gvz ka)) ++ Q)) [(cB, .byte), (cI, .int), (cN, .object "StreamSplitter$Lane")] t) (A)) ([.ref rv, .ref ka]).toArray s 0 0 (A)) (F0 m 14 ls []) := by
    intro N14
    induction N14 with
    | zero => intro j H locs ls hm hj hl hP hD hS; exact absurd hm (Nat.not_lt_zero _)
    | succ N14 ih14 =>
      intro j H locs ls hm hj hl hP hD hS
      refine lv_iload hx hb d_Receiver_giveUpOthers_14 (lv_at hl 4 rfl) ?_
      refine lv_iload_n hx hb d_Receiver_giveUpOthers_16 rfl (lv_at hl 3 rfl) ?_
      refine lv_icmp_ge (tgt := 63) hx hb d_Receiver_giveUpOthers_17 rfl (fun h17 => ?_) (fun h17 => ?_)
      · have h17 : 256 ≤ j := (nI_leI (a := 256) (by omega) (by omega)).mp h17
        obtain rfl : j = 256 := by omega
        have e2 : gLs ka 256 [] Ls = Ls.map (gvz ka) := by unfold gLs; rw [List.map_nil, List.nil_append, pr_256]
        have e3 : gNs ka 256 [] Ls = pNs ka 256 Ls := by unfold gNs; exact Int32.zero_add _
        rw [e2, e3] at hP hD
        have hP : va_P D classes ([(rv, .inr (4, [.ref tp, .ref ln, .ref tb, .ref ca, .ref dp])), (ca, .inl (cI, 10, .inl (addc cn (pNs ka 256 Ls)))), (ln, .inr (2, [.ref hd])), (hd, .inl (cN, 256, .inr (.inr (.inr (.inr hf)))))] ++ (lpl cB (Ls.map (gvz ka)) ++ Q)) H := hP
        have hD : va_D A ([(rv, .inr (4, [.ref tp, .ref ln, .ref tb, .ref ca, .ref dp])), (ca, .inl (cI, 10, .inl (addc cn (pNs ka 256 Ls)))), (ln, .inr (2, [.ref hd])), (hd, .inl (cN, 256, .inr (.inr (.inr (.inr hf)))))] ++ (lpl cB (Ls.map (gvz ka)) ++ Q)) := hD
        have hP9 := hP.part (cx := [(rv, .inr (4, [.ref tp, .ref ln, .ref tb, .ref ca, .ref dp])), (ca, .inl (cI, 10, .inl (addc cn (pNs ka 256 Ls)))), (ln, .inr (2, [.ref hd])), (hd, .inl (cN, 256, .inr (.inr (.inr (.inr hf)))))]) [0, 1, 2, 3] rfl
        have hD9 := hD.part (cx := [(rv, .inr (4, [.ref tp, .ref ln, .ref tb, .ref ca, .ref dp])), (ca, .inl (cI, 10, .inl (addc cn (pNs ka 256 Ls)))), (ln, .inr (2, [.ref hd])), (hd, .inl (cN, 256, .inr (.inr (.inr (.inr hf)))))]) [0, 1, 2, 3] (by decide) rfl
        have hK9 := hK.sub (tys' := [(cB, .byte), (cI, .int), (cN, .object "StreamSplitter$Lane")]) [0, 1, 2] rfl
        exact W.vret hx hb hr (fun t ht hW => ⟨⟨(), rfl, trivial, ⟨by rw [ht]; exact hP9, va_K.moved hW.alike hK9, hD9⟩⟩, hS.F ht⟩) hS.2.2 d_Receiver_giveUpOthers_63
      · have h17 : ¬ 256 ≤ j := mt (nI_leI (a := 256) (by omega) (by omega)).mpr h17
        refine lv_aload_n hx hb d_Receiver_giveUpOthers_20 rfl (lv_at hl 2 rfl) ?_
        refine lv_iload hx hb d_Receiver_giveUpOthers_21 (lv_at hl 4 rfl) ?_
        refine z_aldq hx hb hK hP 3 2 rfl rfl j rfl (by omega) (by omega) d_Receiver_giveUpOthers_23 ?_
        refine z_topq (w := lhd j Ls) (hLN _ (by omega)) ?_
        refine z_astoreq (lv' := [(5, va_rf (lhd j Ls)), (0, .ref rv), (1, .ref ka), (2, .ref hd), (3, .int (nI 256)), (4, .int (nI j))]) hx hb d_Receiver_giveUpOthers_24 hl (by decide) rfl (fun ls hl => ?_)
        refine z_aloadq hx hb d_Receiver_giveUpOthers_26 (lv_at hl 0 rfl) ?_
        have hl : lv_has ls 7 [(0, .ref rv), (1, .ref ka), (2, .ref hd), (3, .int (nI 256)), (4, .int (nI j))] := lv_sub hl [1, 2, 3, 4, 5] rfl
        refine z_astoreq (lv' := [(6, va_rf (lhd j Ls)), (0, .ref rv), (1, .ref ka), (2, .ref hd), (3, .int (nI 256)), (4, .int (nI j))]) hx hb d_Receiver_giveUpOthers_28 hl (by decide) rfl (fun ls hl => ?_)
        have loop30 : ∀ (N : Nat) (Q9 : List LZ) (T : List LZ) (H : Heap) (locs : List Loc) (ls : Array Slot) (hm : T.length < N) (hLs : Ls = Q9 ++ T) (hl : lv_has ls 7 [(0, .ref rv), (1, .ref ka), (2, .ref hd), (3, .int (nI 256)), (4, .int (nI j)), (6, va_rf (lhd j T))]) (hP : va_P D classes ([(rv, .inr (4, [.ref tp, .ref ln, .ref tb, .ref ca, .ref dp])), (ca, .inl (cI, 10, .inl (addc cn (gNs ka j Q9 T)))), (ln, .inr (2, [.ref hd])), (hd, .inl (cN, 256, .inr (.inr (.inr (.inr hf)))))] ++ (lpl cB (gLs ka j Q9 T) ++ Q)) H) (hD : va_D A ([(rv, .inr (4, [.ref tp, .ref ln, .ref tb, .ref ca, .ref dp])), (ca, .inl (cI, 10, .inl (addc cn (gNs ka j Q9 T)))), (ln, .inr (2, [.ref hd])), (hd, .inl (cN, 256, .inr (.inr (.inr (.inr hf)))))] ++ (lpl cB (gLs ka j Q9 T) ++ Q))) (hS : va_S A s.heap H locs), W p l e ({ frames := 2, cells := 0, slots := 0, locals := 41 }) s m ([.ref rv, .ref ka]).toArray below meth cd H locs 0 0 (MQ below (va_Qv (fun (_ : Unit) => True) (fun (_u : Unit) t => zW D (A) ([(rv, .inr (4, [.ref tp, .ref ln, .ref tb, .ref ca, .ref dp])), (ca, .inl (cI, 10, .inl (addc cn (pNs ka 256 Ls)))), (ln, .inr (2, [.ref hd])), (hd, .inl (cN, 256, .inr (.inr (.inr (.inr hf)))))] ++ (lpl cB (Ls.map (gvz ka)) ++ Q)) [(cB, .byte), (cI, .int), (cN, .object "StreamSplitter$Lane")] t) (A)) ([.ref rv, .ref ka]).toArray s 0 0 (A)) (F0 m 30 ls []) := by
          intro N30
          induction N30 with
          | zero => intro Q9 T H locs ls hm hLs hl hP hD hS; exact absurd hm (Nat.not_lt_zero _)
          | succ N30 ih30 =>
            intro Q9 T H locs ls hm hLs hl hP hD hS
            refine z_aloadq hx hb d_Receiver_giveUpOthers_30 (lv_at hl 5 rfl) ?_
            cases h32 : lhd j T with
            | none =>
              rw [h32] at hl
              have hl : lv_has ls 7 [(0, .ref rv), (1, .ref ka), (2, .ref hd), (3, .int (nI 256)), (4, .int (nI j)), (6, .null)] := hl
              try rw [h32]
              refine lv_ifnullN (tgt := 57) hx hb d_Receiver_giveUpOthers_32 rfl ?_
              have hnx := gL_next (ka := ka) (Q9 := Q9) (lhd_none h32)
              rw [← hLs] at hnx
              rw [hnx.1, hnx.2] at hP hD
              have hP : va_P D classes ([(rv, .inr (4, [.ref tp, .ref ln, .ref tb, .ref ca, .ref dp])), (ca, .inl (cI, 10, .inl (addc cn (gNs ka (j + 1) [] Ls)))), (ln, .inr (2, [.ref hd])), (hd, .inl (cN, 256, .inr (.inr (.inr (.inr hf)))))] ++ (lpl cB (gLs ka (j + 1) [] Ls) ++ Q)) H := hP
              have hD : va_D A ([(rv, .inr (4, [.ref tp, .ref ln, .ref tb, .ref ca, .ref dp])), (ca, .inl (cI, 10, .inl (addc cn (gNs ka (j + 1) [] Ls)))), (ln, .inr (2, [.ref hd])), (hd, .inl (cN, 256, .inr (.inr (.inr (.inr hf)))))] ++ (lpl cB (gLs ka (j + 1) [] Ls) ++ Q)) := hD
              refine lv_iinc (k := 4) (v := nI (j + 1)) (lv' := [(4, .int (nI (j + 1))), (0, .ref rv), (1, .ref ka), (2, .ref hd), (3, .int (nI 256)), (6, .null)]) hx hb d_Receiver_giveUpOthers_57 hl rfl (nI_1 j) (by decide) rfl (fun ls hl => ?_)
              refine lv_goto (tgt := 14) hx hb d_Receiver_giveUpOthers_60 rfl ?_
              exact ih14 (j + 1) H locs ls (by omega) (by omega) (lv_sub hl [1, 2, 3, 4, 0] rfl) hP hD hS
            | some x32 =>
              rw [h32] at hl
              have hl : lv_has ls 7 [(0, .ref rv), (1, .ref ka), (2, .ref hd), (3, .int (nI 256)), (4, .int (nI j)), (6, .ref x32)] := hl
              try rw [h32]
              refine lv_ifnull (x := x32) hx hb d_Receiver_giveUpOthers_32 ?_
              obtain ⟨T1, z, T2, hTe, hza, hzk, hT1⟩ := lhd_some h32
              subst hza
              subst hTe
              have hLs2 : Ls = (Q9 ++ T1) ++ z :: T2 := by rw [hLs, List.append_assoc]
              have hz := lok_app (T1 := Q9 ++ T1) (by rw [← hLs2]; exact hok)
              have hze := hLse z (by rw [hLs2]; exact List.mem_append_right _ List.mem_cons_self)
              obtain ⟨B1, hB1⟩ : ∃ B1, B1 = Q9.map (prc ka (j + 1)) ++ T1.map (prc ka j) := ⟨_, rfl⟩
              obtain ⟨B2, hB2⟩ : ∃ B2, B2 = T2.map (prc ka j) := ⟨_, rfl⟩
              have hsp : gLs ka j Q9 (T1 ++ z :: T2) = B1 ++ z :: B2 := by rw [gL_split hzk, hB1, hB2]
              have hst := gL_step (ka := ka) (Q9 := Q9) (T2 := T2) hT1 hzk
              rw [← hB1, ← hB2] at hst
              rw [hsp] at hP hD
              have hP : va_P D classes ([(rv, .inr (4, [.ref tp, .ref ln, .ref tb, .ref ca, .ref dp])), (ca, .inl (cI, 10, .inl (addc cn (gNs ka j Q9 (T1 ++ z :: T2))))), (ln, .inr (2, [.ref hd])), (hd, .inl (cN, 256, .inr (.inr (.inr (.inr hf)))))] ++ (lpl cB (B1 ++ z :: B2) ++ Q)) H := hP
              have hD : va_D A ([(rv, .inr (4, [.ref tp, .ref ln, .ref tb, .ref ca, .ref dp])), (ca, .inl (cI, 10, .inl (addc cn (gNs ka j Q9 (T1 ++ z :: T2))))), (ln, .inr (2, [.ref hd])), (hd, .inl (cN, 256, .inr (.inr (.inr (.inr hf)))))] ++ (lpl cB (B1 ++ z :: B2) ++ Q)) := hD
              have lem47 : ∀ (z9 : Unit) (H : Heap) (locs : List Loc) (ls : Array Slot) (hl : lv_has ls 7 [(0, .ref rv), (1, .ref ka), (2, .ref hd), (3, .int (nI 256)), (4, .int (nI j)), (6, .ref z.1)]) (hP : va_P D classes ([(rv, .inr (4, [.ref tp, .ref ln, .ref tb, .ref ca, .ref dp])), (ca, .inl (cI, 10, .inl (addc cn (gNs ka j ((Q9 ++ T1) ++ [z]) T2)))), (ln, .inr (2, [.ref hd])), (hd, .inl (cN, 256, .inr (.inr (.inr (.inr hf)))))] ++ (lpl cB (gLs ka j ((Q9 ++ T1) ++ [z]) T2) ++ Q)) H) (hD : va_D A ([(rv, .inr (4, [.ref tp, .ref ln, .ref tb, .ref ca, .ref dp])), (ca, .inl (cI, 10, .inl (addc cn (gNs ka j ((Q9 ++ T1) ++ [z]) T2)))), (ln, .inr (2, [.ref hd])), (hd, .inl (cN, 256, .inr (.inr (.inr (.inr hf)))))] ++ (lpl cB (gLs ka j ((Q9 ++ T1) ++ [z]) T2) ++ Q))) (hS : va_S A s.heap H locs), W p l e ({ frames := 2, cells := 0, slots := 0, locals := 41 }) s m ([.ref rv, .ref ka]).toArray below meth cd H locs 0 0 (MQ below (va_Qv (fun (_ : Unit) => True) (fun (_u : Unit) t => zW D (A) ([(rv, .inr (4, [.ref tp, .ref ln, .ref tb, .ref ca, .ref dp])), (ca, .inl (cI, 10, .inl (addc cn (pNs ka 256 Ls)))), (ln, .inr (2, [.ref hd])), (hd, .inl (cN, 256, .inr (.inr (.inr (.inr hf)))))] ++ (lpl cB (Ls.map (gvz ka)) ++ Q)) [(cB, .byte), (cI, .int), (cN, .object "StreamSplitter$Lane")] t) (A)) ([.ref rv, .ref ka]).toArray s 0 0 (A)) (F0 m 47 ls []) := by
                intro z9 H locs ls  hl hP hD hS
                refine lv_aload hx hb d_Receiver_giveUpOthers_47 (lv_at hl 5 rfl) ?_
                obtain ⟨q0, hq0⟩ := lp_get (X := [(rv, .inr (4, [.ref tp, .ref ln, .ref tb, .ref ca, .ref dp])), (ca, .inl (cI, 10, .inl (addc cn (gNs ka j ((Q9 ++ T1) ++ [z]) T2)))), (ln, .inr (2, [.ref hd])), (hd, .inl (cN, 256, .inr (.inr (.inr (.inr hf)))))]) (Q := Q) (cB := cB) (Ls := gLs ka j ((Q9 ++ T1) ++ [z]) T2) (z := gvz ka z) (by rw [hst.1]; exact List.mem_append_right _ List.mem_cons_self)
                have hgn := gv_nx (ka := ka) z
                rw [hgn.1] at hq0
                refine va_getN (D := D) (ci := 1) (v := va_rf ((gvz ka z).2.2.1)) (C := R_Lane) (T := F_Lane) (N := 8) hx hb hts i_Lane hown hK hP q0 hq0 rfl 1 (by decide) (hts _ wd_247) (fun _ h9 => h9) rfl d_Receiver_giveUpOthers_49 ?_
                refine z_topq (w := lhd j T2) (by rw [hgn.2, hz.2.1, hzk]) ?_
                refine z_astoreq (lv' := [(6, va_rf (lhd j T2)), (0, .ref rv), (1, .ref ka), (2, .ref hd), (3, .int (nI 256)), (4, .int (nI j))]) hx hb d_Receiver_giveUpOthers_52 hl (by decide) rfl (fun ls hl => ?_)
                refine lv_goto (tgt := 30) hx hb d_Receiver_giveUpOthers_54 rfl ?_
                exact ih30 ((Q9 ++ T1) ++ [z]) T2 H locs ls (by simp only [List.length_append, List.length_cons] at hm; omega) (by rw [hLs2]; simp) (lv_sub hl [1, 2, 3, 4, 5, 0] rfl) hP hD hS
              refine lv_aload hx hb d_Receiver_giveUpOthers_35 (lv_at hl 5 rfl) ?_
              refine lv_aload_n hx hb d_Receiver_giveUpOthers_37 rfl (lv_at hl 1 rfl) ?_
              refine lv_acmp_eq (rx := some z.1) (ry := some ka) (tgt := 47) hx hb d_Receiver_giveUpOthers_38 rfl (fun h38 => ?_) (fun h38 => ?_)
              · have h38 : z.1 = ka := by first | exact Option.some.inj h38 | exact h38
                have hcn : addc cn (gNs ka j Q9 (T1 ++ z :: T2)) = addc cn (gNs ka j ((Q9 ++ T1) ++ [z]) T2) := by rw [hst.2, (gv_eq h38).2, Int32.add_zero]
                have hzz : B1 ++ z :: B2 = gLs ka j ((Q9 ++ T1) ++ [z]) T2 := by rw [hst.1, (gv_eq h38).1]
                rw [hcn, hzz] at hP hD
                have hP : va_P D classes ([(rv, .inr (4, [.ref tp, .ref ln, .ref tb, .ref ca, .ref dp])), (ca, .inl (cI, 10, .inl (addc cn (gNs ka j ((Q9 ++ T1) ++ [z]) T2)))), (ln, .inr (2, [.ref hd])), (hd, .inl (cN, 256, .inr (.inr (.inr (.inr hf)))))] ++ (lpl cB (gLs ka j ((Q9 ++ T1) ++ [z]) T2) ++ Q)) H := hP
                have hD : va_D A ([(rv, .inr (4, [.ref tp, .ref ln, .ref tb, .ref ca, .ref dp])), (ca, .inl (cI, 10, .inl (addc cn (gNs ka j ((Q9 ++ T1) ++ [z]) T2)))), (ln, .inr (2, [.ref hd])), (hd, .inl (cN, 256, .inr (.inr (.inr (.inr hf)))))] ++ (lpl cB (gLs ka j ((Q9 ++ T1) ++ [z]) T2) ++ Q)) := hD
                exact lem47 () H locs ls  hl hP hD hS
              · have h38 : ¬ z.1 = ka := fun q => h38 (by rw [q])
                refine lv_aload_n hx hb d_Receiver_giveUpOthers_41 rfl (lv_at hl 0 rfl) ?_
                refine lv_aload hx hb d_Receiver_giveUpOthers_42 (lv_at hl 5 rfl) ?_
                have hP := z_Pp (lp_foc2 (X := [(rv, .inr (4, [.ref tp, .ref ln, .ref tb, .ref ca, .ref dp])), (ca, .inl (cI, 10, .inl (addc cn (gNs ka j Q9 (T1 ++ z :: T2))))), (ln, .inr (2, [.ref hd])), (hd, .inl (cN, 256, .inr (.inr (.inr (.inr hf)))))]) (T1 := B1) (T2 := B2) (z := z)) hP
                have hD := z_Dp (lp_foc2 (X := [(rv, .inr (4, [.ref tp, .ref ln, .ref tb, .ref ca, .ref dp])), (ca, .inl (cI, 10, .inl (addc cn (gNs ka j Q9 (T1 ++ z :: T2))))), (ln, .inr (2, [.ref hd])), (hd, .inl (cN, 256, .inr (.inr (.inr (.inr hf)))))]) (T1 := B1) (T2 := B2) (z := z)) hD
                have hP : va_P D classes ([(rv, .inr (4, [.ref tp, .ref ln, .ref tb, .ref ca, .ref dp])), (ca, .inl (cI, 10, .inl (addc cn (gNs ka j Q9 (T1 ++ z :: T2))))), (ln, .inr (2, [.ref hd])), (hd, .inl (cN, 256, .inr (.inr (.inr (.inr hf)))))] ++ (lzc cB (z.1, z.2.1, z.2.2.1, z.2.2.2.1, z.2.2.2.2.1, z.2.2.2.2.2.1, z.2.2.2.2.2.2.1, z.2.2.2.2.2.2.2.1, z.2.2.2.2.2.2.2.2) ++ (lpl cB (B1 ++ B2) ++ Q))) H := hP
                have hD : va_D A ([(rv, .inr (4, [.ref tp, .ref ln, .ref tb, .ref ca, .ref dp])), (ca, .inl (cI, 10, .inl (addc cn (gNs ka j Q9 (T1 ++ z :: T2))))), (ln, .inr (2, [.ref hd])), (hd, .inl (cN, 256, .inr (.inr (.inr (.inr hf)))))] ++ (lzc cB (z.1, z.2.1, z.2.2.1, z.2.2.2.1, z.2.2.2.2.1, z.2.2.2.2.2.1, z.2.2.2.2.2.2.1, z.2.2.2.2.2.2.2.1, z.2.2.2.2.2.2.2.2) ++ (lpl cB (B1 ++ B2) ++ Q))) := hD
                have hPc := hP.part (cx := [(rv, .inr (4, [.ref tp, .ref ln, .ref tb, .ref ca, .ref dp])), (ca, .inl (cI, 10, .inl (addc cn (gNs ka j Q9 (T1 ++ z :: T2)))))]) [0, 1] rfl
                have hKc := hK.sub (tys' := [(cB, .byte), (cI, .int)]) [0, 1] rfl
                have hDc := hD.part (cx := [(rv, .inr (4, [.ref tp, .ref ln, .ref tb, .ref ca, .ref dp])), (ca, .inl (cI, 10, .inl (addc cn (gNs ka j Q9 (T1 ++ z :: T2)))))]) [0, 1] (by decide) rfl
                have hFc := va_freeP (cx := [(rv, .inr (4, [.ref tp, .ref ln, .ref tb, .ref ca, .ref dp])), (ca, .inl (cI, 10, .inl (addc cn (gNs ka j Q9 (T1 ++ z :: T2)))))]) hD hS hA [0, 1] rfl
                refine va_callv (va_runV (As := [.ref z.1]) (rest := []) ⟨hx, hb, hml, hown, hts⟩ (c_Receiver_giveUp l D H.size cB cI rv tp ln tb ca dp (addc cn (gNs ka j Q9 (T1 ++ z :: T2))) z.1 z.2.1 z.2.2.1 z.2.2.2.1 z.2.2.2.2.1 z.2.2.2.2.2.1 z.2.2.2.2.2.2.1 z.2.2.2.2.2.2.2.1 z.2.2.2.2.2.2.2.2 (lpl cB (B1 ++ B2) ++ Q) hze) (z_cV hN wd_289 wd_60 wd_286 hd_Receiver_giveUp rfl rfl ⟨Nat.le_of_ble_eq_true rfl, Nat.le_of_ble_eq_true rfl⟩ wd_288 wd_2) (z_preVm (va_recv (ci := 4) (q0 := 0) hK hP rfl rfl) hPc hKc hN hDc) rfl rfl hl.1 rfl (lv_room (Nat.le_of_ble_eq_true rfl)) d_Receiver_giveUpOthers_44 ⟨Nat.le_of_ble_eq_true rfl, Nat.le_of_ble_eq_true rfl⟩) hS (fun q _ h => hFc q h) hFc (fun u44 t H locs ht hvm e44 hB hz1 hk1 hS => ?_)
                obtain ⟨hP1, hK1, hD1⟩ := hB
                rw [ht] at hP1
                obtain ⟨hP, hD⟩ := va_joinP (wr := [(ln, .inr (2, [.ref hd])), (hd, .inl (cN, 256, .inr (.inr (.inr (.inr hf)))))]) (rx := [(rv, .inr (4, [.ref tp, .ref ln, .ref tb, .ref ca, .ref dp])), (ca, .inl (cI, 10, .inl (guC (addc cn (gNs ka j Q9 (T1 ++ z :: T2))) z.2.2.2.2.2.2.2.1 z.2.2.2.2.2.2.2.2)))]) hP hD [0, 1] [2, 3] rfl rfl (by decide) (by decide) hk1 hFc hP1 hD1
                clear hk1 hP1 hD1 hFc hPc hDc hz1
                have hP : va_P D classes ([(ln, .inr (2, [.ref hd])), (hd, .inl (cN, 256, .inr (.inr (.inr (.inr hf))))), (rv, .inr (4, [.ref tp, .ref ln, .ref tb, .ref ca, .ref dp])), (ca, .inl (cI, 10, .inl (guC (addc cn (gNs ka j Q9 (T1 ++ z :: T2))) z.2.2.2.2.2.2.2.1 z.2.2.2.2.2.2.2.2)))] ++ (lzc cB (z.1, z.2.1, z.2.2.1, z.2.2.2.1, z.2.2.2.2.1, z.2.2.2.2.2.1, z.2.2.2.2.2.2.1, guS z.2.2.2.2.2.2.2.1, guI z.2.2.2.2.2.2.2.2) ++ (lpl cB (B1 ++ B2) ++ Q))) H := hP
                have hD : va_D A ([(ln, .inr (2, [.ref hd])), (hd, .inl (cN, 256, .inr (.inr (.inr (.inr hf))))), (rv, .inr (4, [.ref tp, .ref ln, .ref tb, .ref ca, .ref dp])), (ca, .inl (cI, 10, .inl (guC (addc cn (gNs ka j Q9 (T1 ++ z :: T2))) z.2.2.2.2.2.2.2.1 z.2.2.2.2.2.2.2.2)))] ++ (lzc cB (z.1, z.2.1, z.2.2.1, z.2.2.2.1, z.2.2.2.2.1, z.2.2.2.2.2.1, z.2.2.2.2.2.2.1, guS z.2.2.2.2.2.2.2.1, guI z.2.2.2.2.2.2.2.2) ++ (lpl cB (B1 ++ B2) ++ Q))) := hD
                have hP := z_Pp (lp_foc2 (X := [(ln, .inr (2, [.ref hd])), (hd, .inl (cN, 256, .inr (.inr (.inr (.inr hf))))), (rv, .inr (4, [.ref tp, .ref ln, .ref tb, .ref ca, .ref dp])), (ca, .inl (cI, 10, .inl (guC (addc cn (gNs ka j Q9 (T1 ++ z :: T2))) z.2.2.2.2.2.2.2.1 z.2.2.2.2.2.2.2.2)))]) (T1 := B1) (T2 := B2) (z := (z.1, z.2.1, z.2.2.1, z.2.2.2.1, z.2.2.2.2.1, z.2.2.2.2.2.1, z.2.2.2.2.2.2.1, guS z.2.2.2.2.2.2.2.1, guI z.2.2.2.2.2.2.2.2))).symm hP
                have hD := z_Dp (lp_foc2 (X := [(ln, .inr (2, [.ref hd])), (hd, .inl (cN, 256, .inr (.inr (.inr (.inr hf))))), (rv, .inr (4, [.ref tp, .ref ln, .ref tb, .ref ca, .ref dp])), (ca, .inl (cI, 10, .inl (guC (addc cn (gNs ka j Q9 (T1 ++ z :: T2))) z.2.2.2.2.2.2.2.1 z.2.2.2.2.2.2.2.2)))]) (T1 := B1) (T2 := B2) (z := (z.1, z.2.1, z.2.2.1, z.2.2.2.1, z.2.2.2.2.1, z.2.2.2.2.2.1, z.2.2.2.2.2.2.1, guS z.2.2.2.2.2.2.2.1, guI z.2.2.2.2.2.2.2.2))).symm hD
                have hcn : guC (addc cn (gNs ka j Q9 (T1 ++ z :: T2))) z.2.2.2.2.2.2.2.1 z.2.2.2.2.2.2.2.2 = addc cn (gNs ka j ((Q9 ++ T1) ++ [z]) T2) := by rw [guC_add, addc_add, hst.2, (gv_ne h38).2]
                rw [hcn, ← (gv_ne h38).1, ← hst.1] at hP hD
                have hP : va_P D classes ([(ln, .inr (2, [.ref hd])), (hd, .inl (cN, 256, .inr (.inr (.inr (.inr hf))))), (rv, .inr (4, [.ref tp, .ref ln, .ref tb, .ref ca, .ref dp])), (ca, .inl (cI, 10, .inl (addc cn (gNs ka j ((Q9 ++ T1) ++ [z]) T2))))] ++ (lpl cB (gLs ka j ((Q9 ++ T1) ++ [z]) T2) ++ Q)) H := hP
                have hD : va_D A ([(ln, .inr (2, [.ref hd])), (hd, .inl (cN, 256, .inr (.inr (.inr (.inr hf))))), (rv, .inr (4, [.ref tp, .ref ln, .ref tb, .ref ca, .ref dp])), (ca, .inl (cI, 10, .inl (addc cn (gNs ka j ((Q9 ++ T1) ++ [z]) T2))))] ++ (lpl cB (gLs ka j ((Q9 ++ T1) ++ [z]) T2) ++ Q)) := hD
                exact lem47 () H locs ls  hl (hP.part [2, 3, 0, 1] rfl) (hD.part [2, 3, 0, 1] (by decide) rfl) hS
        exact loop30 _ [] Ls H locs ls (Nat.lt_succ_self _) rfl (lv_sub hl [1, 2, 3, 4, 5, 0] rfl) hP hD hS
  have e0 : addc cn (gNs ka 0 [] Ls) = cn := by unfold gNs; rw [pN_0, show pNs ka (0 + 1) [] = 0 from rfl, Int32.add_zero]; exact addc_0 cn
  have e1 : gLs ka 0 [] Ls = Ls := by unfold gLs; rw [List.map_nil, List.nil_append, pr_0]
  rw [← e1] at hP hD
  rw [← e0] at hP hD
  exact loop14 _ 0 s.heap [] ls (Nat.lt_succ_self _) (Nat.zero_le _) (lv_sub hl [3, 4, 2, 1, 0] rfl) hP hD hS
