theorem wd_910 : (Jvm.Cond.fieldLinkNest "StreamSplitter" (222 : Nat) "StreamSplitter$Draft" "streams" "Ljava/util/ArrayList;" "StreamSplitter") ∈ lw_ok := List.mem_filter.mpr ⟨List.mem_of_getElem? (i := 910) (by decide +kernel), rfl⟩
theorem wd_1488 : (Jvm.Cond.castable "StreamSplitter$Draft" "StreamSplitter$Draft") ∈ lw_ok := List.mem_filter.mpr ⟨List.mem_of_getElem? (i := 1488) (by decide +kernel), rfl⟩
theorem d_AL_clear_32 : decode b_AL_clear 32 = .ok (.aload_n 1, 1) := by decide +kernel
theorem d_AL_clear_33 : decode b_AL_clear 33 = .ok (.iload_n 3, 1) := by decide +kernel
theorem d_AL_clear_34 : decode b_AL_clear 34 = .ok (.aconst_null, 1) := by decide +kernel
theorem d_AL_clear_35 : decode b_AL_clear 35 = .ok (.aastore, 1) := by decide +kernel
theorem d_AL_clear_36 : decode b_AL_clear 36 = .ok (.iinc 3 1, 3) := by decide +kernel
theorem d_AL_clear_39 : decode b_AL_clear 39 = .ok (.goto (-12), 3) := by decide +kernel
theorem d_SS_addStream_25 : decode b_SS_addStream 25 = .ok (.iload_n 2, 1) := by decide +kernel
theorem d_SS_addStream_26 : decode b_SS_addStream 26 = .ok (.ifCond .lt 17, 3) := by decide +kernel
theorem d_SS_addStream_29 : decode b_SS_addStream 29 = .ok (.iload_n 2, 1) := by decide +kernel
theorem d_SS_addStream_30 : decode b_SS_addStream 30 = .ok (.sipush 255, 3) := by decide +kernel
theorem d_SS_addStream_33 : decode b_SS_addStream 33 = .ok (.if_icmp .gt 10, 3) := by decide +kernel
theorem d_SS_addStream_36 : decode b_SS_addStream 36 = .ok (.iload_n 3, 1) := by decide +kernel
theorem d_SS_addStream_37 : decode b_SS_addStream 37 = .ok (.invokestatic 190, 3) := by decide +kernel
theorem d_SS_addStream_40 : decode b_SS_addStream 40 = .ok (.ifCond .eq 13, 3) := by decide +kernel
theorem d_SS_addStream_43 : decode b_SS_addStream 43 = .ok (.new 23, 3) := by decide +kernel
theorem d_SS_addStream_46 : decode b_SS_addStream 46 = .ok (.dup, 1) := by decide +kernel
theorem d_SS_addStream_47 : decode b_SS_addStream 47 = .ok (.ldc 220, 2) := by decide +kernel
theorem d_SS_addStream_49 : decode b_SS_addStream 49 = .ok (.invokespecial 27, 3) := by decide +kernel
theorem d_SS_addStream_52 : decode b_SS_addStream 52 = .ok (.athrow, 1) := by decide +kernel
theorem d_SS_addStream_53 : decode b_SS_addStream 53 = .ok (.aload_n 0, 1) := by decide +kernel
theorem d_SS_addStream_54 : decode b_SS_addStream 54 = .ok (.getfield 19, 3) := by decide +kernel
theorem d_SS_addStream_57 : decode b_SS_addStream 57 = .ok (.iload_n 1, 1) := by decide +kernel
theorem d_SS_addStream_58 : decode b_SS_addStream 58 = .ok (.invokevirtual 138, 3) := by decide +kernel
theorem d_SS_addStream_61 : decode b_SS_addStream 61 = .ok (.checkcast 211, 3) := by decide +kernel
theorem d_SS_addStream_64 : decode b_SS_addStream 64 = .ok (.getfield 222, 3) := by decide +kernel
theorem d_SS_addStream_67 : decode b_SS_addStream 67 = .ok (.astore 4, 2) := by decide +kernel
theorem d_SS_addStream_69 : decode b_SS_addStream 69 = .ok (.aload 4, 2) := by decide +kernel
theorem d_SS_addStream_71 : decode b_SS_addStream 71 = .ok (.invokevirtual 105, 3) := by decide +kernel
theorem d_SS_addStream_74 : decode b_SS_addStream 74 = .ok (.iconst 4, 1) := by decide +kernel
theorem d_SS_addStream_75 : decode b_SS_addStream 75 = .ok (.if_icmp .lt 5, 3) := by decide +kernel
theorem d_SS_addStream_78 : decode b_SS_addStream 78 = .ok (.iconst (-1), 1) := by decide +kernel
theorem d_SS_addStream_79 : decode b_SS_addStream 79 = .ok (.ireturn, 1) := by decide +kernel
theorem d_SS_plan_39 : decode b_SS_plan 39 = .ok (.iconst (-1), 1) := by decide +kernel
theorem d_SS_plan_40 : decode b_SS_plan 40 = .ok (.ireturn, 1) := by decide +kernel
/-! The drafts -/
/-- a draft: its object, number, PID, its list's object, its streams, that list's state -/
abbrev DR9 : Type := Nat × Int32 × Nat × Nat × List (Int32 × Nat) × Int32 × Option (Nat × (Nat → Option Nat))
def dr0 : DR9 := (0, 0, 0, 0, [], 0, none)
def drE (x : DR9) : va_E := .inr (9, [.int x.2.1, .int (nI x.2.2.1), .ref x.2.2.2.1])
def drc (cO : ClassId) (e0 : Nat) (x : DR9) : va_W := (x.1, drE x) :: wlc cO e0 x.2.2.2.1 x.2.2.2.2.1.length x.2.2.2.2.2.1 x.2.2.2.2.2.2
def dfl (cO : ClassId) (e0 d n : Nat) (mo : Int32) (dst : Option (Nat × (Nat → Option Nat))) (L : List DR9) : va_W := wlc cO e0 d n mo dst ++ L.flatMap (drc cO e0)
def dok (Q : va_W) (x : DR9) : Prop := x.2.2.1 < 8192 ∧ sok Q x.2.2.2.2.2.2 x.2.2.2.2.1 ∧ x.2.2.2.2.1.length ≤ 4
def dtk (Q : va_W) (dst : Option (Nat × (Nat → Option Nat))) (L : List DR9) : Prop := L.length ≤ 4 ∧ (match dst with
  | none => L = []
  | some q => ∀ j, j < L.length → q.2 j = some (L.getD j dr0).1) ∧ ∀ x ∈ L, dok Q x
theorem sok_mono {Q Q2 : va_W} {sst : Option (Nat × (Nat → Option Nat))} {S : List (Int32 × Nat)} (h : sok Q sst S) (hq : ∀ y ∈ Q, y ∈ Q2) : sok Q2 sst S := by
  cases sst with
  | none => exact h
  | some q =>
    intro j hj
    obtain ⟨a, h1, h2, h3⟩ := (show ∀ j, j < S.length → ∃ a, q.2 j = some a ∧ (a, smE (S.getD j (0, 0)).1 (S.getD j (0, 0)).2) ∈ Q ∧ (S.getD j (0, 0)).2 < 8192 from h) j hj
    exact ⟨a, h1, hq _ h2, h3⟩
theorem dok_mono {Q Q2 : va_W} {x : DR9} (h : dok Q x) (hq : ∀ y ∈ Q, y ∈ Q2) : dok Q2 x := ⟨h.1, sok_mono h.2.1 hq, h.2.2⟩
theorem d_mem {L : List DR9} {j : Nat} (h : j < L.length) : L.getD j dr0 ∈ L := by
  rw [List.getD_eq_getElem?_getD, List.getElem?_eq_getElem h]
  exact List.getElem_mem h
theorem d_split {P : List DR9} {j : Nat} (h : j < P.length) : P = P.take j ++ P.getD j dr0 :: P.drop (j + 1) := by
  rw [List.getD_eq_getElem?_getD, List.getElem?_eq_getElem h]
  show P = P.take j ++ P[j] :: P.drop (j + 1)
  rw [← List.drop_eq_getElem_cons h, List.take_append_drop]
theorem d_set {P : List DR9} {j : Nat} {y x : DR9} (h : j < P.length) : (P.take j ++ x :: P.drop (j + 1)).set j y = P.take j ++ y :: P.drop (j + 1) := by
  have hl : (P.take j).length = j := by rw [List.length_take]; omega
  rw [List.set_append, if_neg (by omega), hl, Nat.sub_self]
  rfl
theorem df_foc {X Q : va_W} {cO : ClassId} {e0 d n : Nat} {mo : Int32} {dst : Option (Nat × (Nat → Option Nat))} {A B : List DR9} {x : DR9} : (X ++ (dfl cO e0 d n mo dst (A ++ x :: B) ++ Q)).Perm (X ++ (drc cO e0 x ++ (dfl cO e0 d n mo dst (A ++ B) ++ Q))) := by
  refine List.Perm.append_left X ?_
  rw [← List.append_assoc]
  refine List.Perm.append_right Q ?_
  unfold dfl
  rw [List.flatMap_append, List.flatMap_cons, List.flatMap_append]
  refine (List.Perm.append_left _ (List.perm_append_comm_assoc _ _ _)).trans ?_
  exact List.perm_append_comm_assoc _ _ _
theorem df_in {X Q : va_W} {cO : ClassId} {e0 d : Nat} {mo : Int32} {dst : Option (Nat × (Nat → Option Nat))} {L : List DR9} {x : DR9} : (X ++ (wlc cO e0 d (L.length + 1) mo dst ++ (drc cO e0 x ++ (L.flatMap (drc cO e0) ++ Q)))).Perm (X ++ (dfl cO e0 d (L ++ [x]).length mo dst (L ++ [x]) ++ Q)) := by
  refine List.Perm.append_left X ?_
  unfold dfl
  rw [List.length_append, List.length_singleton, List.flatMap_append, List.flatMap_singleton, List.append_assoc, List.append_assoc]
  exact List.Perm.append_left _ (List.perm_append_comm_assoc _ _ _)
theorem df_out {X Q : va_W} {cO : ClassId} {e0 d n : Nat} {mo : Int32} {dst : Option (Nat × (Nat → Option Nat))} {L : List DR9} : (X ++ (dfl cO e0 d n mo dst L ++ Q)).Perm (X ++ (wlc cO e0 d n mo dst ++ (L.flatMap (drc cO e0) ++ Q))) := by
  unfold dfl
  rw [List.append_assoc]
theorem dtk_app {Q : va_W} {g : Nat → Option Nat} {L : List DR9} {b : Nat} {x : DR9} (h4 : L.length < 4) (hg : ∀ j, j < L.length → g j = some (L.getD j dr0).1) (hp : ∀ y ∈ L, dok Q y) (hx : dok Q x) : dtk Q (some (b, va_up g L.length (some x.1))) (L ++ [x]) := by
  refine ⟨by rw [List.length_append, List.length_singleton]; omega, fun j hj => ?_, fun y hy => ?_⟩
  · rw [List.length_append, List.length_singleton] at hj
    by_cases c : j = L.length
    · subst c
      show va_up g L.length (some x.1) L.length = _
      rw [va_up_self, List.getD_eq_getElem?_getD, List.getElem?_append_right (by omega), Nat.sub_self]
      rfl
    · show va_up g L.length (some x.1) j = _
      rw [va_up_ne _ _ c, hg j (by omega), List.getD_eq_getElem?_getD (l := L ++ [x]), List.getElem?_append_left (by omega), ← List.getD_eq_getElem?_getD]
  · rcases List.mem_append.mp hy with q | q
    · exact hp y q
    · rw [List.mem_singleton.mp q]; exact hx
theorem dtk_set {Q Q2 : va_W} {dst : Option (Nat × (Nat → Option Nat))} {P : List DR9} {j : Nat} {x : DR9} (htk : dtk Q dst P) (hj : j < P.length) (hx : x.1 = (P.getD j dr0).1) (hq : ∀ y ∈ Q, y ∈ Q2) (hp : dok Q2 x) : dtk Q2 dst (P.set j x) := by
  refine ⟨by rw [List.length_set]; exact htk.1, ?_, fun y hy => ?_⟩
  · have h2 := htk.2.1
    cases dst with
    | none => rw [show P = [] from h2] at hj; exact absurd hj (Nat.not_lt_zero j)
    | some q =>
      intro i hi
      rw [List.length_set] at hi
      have h3 := (show ∀ j, j < P.length → q.2 j = some (P.getD j dr0).1 from h2) i hi
      rw [h3]
      by_cases c : j = i
      · subst c
        rw [List.getD_eq_getElem?_getD (l := P.set j _), List.getElem?_set, if_pos rfl, if_pos hi, ← hx]
        rfl
      · rw [List.getD_eq_getElem?_getD (l := P.set j _), List.getElem?_set, if_neg c, ← List.getD_eq_getElem?_getD]
  · rcases List.mem_or_eq_of_mem_set hy with q | q
    · exact dok_mono (htk.2.2 y q) hq
    · rw [q]; exact hp
theorem df_memD {cO : ClassId} {e0 d n : Nat} {mo : Int32} {dst : Option (Nat × (Nat → Option Nat))} {L : List DR9} {X Q : va_W} {x : DR9} (h : x ∈ L) {u : Nat × va_E} (hu : u ∈ drc cO e0 x) : u ∈ X ++ (dfl cO e0 d n mo dst L ++ Q) := List.mem_append_right _ (List.mem_append_left _ (List.mem_append_right _ (List.mem_flatMap.mpr ⟨x, h, hu⟩)))
theorem df_memL {cO : ClassId} {e0 d n : Nat} {mo : Int32} {dst : Option (Nat × (Nat → Option Nat))} {L : List DR9} {X Q : va_W} : ∃ b, (d, alE b n mo) ∈ X ++ (dfl cO e0 d n mo dst L ++ Q) := by
  obtain ⟨b, hb⟩ := wl_mem cO e0 d n mo dst
  exact ⟨b, List.mem_append_right _ (List.mem_append_left _ (List.mem_append_left _ hb))⟩
theorem as_sw {X A Q : va_W} {c : Nat × va_E} : ((X ++ [c]) ++ (A ++ Q)).Perm (X ++ (A ++ (c :: Q))) := by
  rw [List.append_assoc X]
  refine List.Perm.append_left X ?_
  show (c :: (A ++ Q)).Perm (A ++ c :: Q)
  exact List.perm_middle.symm

set_option maxHeartbeats 4000000 in
set_option maxRecDepth 100000 in
theorem c_AL_clear (l : Launch) (D : va_G) (sz : Nat) (cO : ClassId) (a b c : Nat) (mo : Int32) (g : Nat → Option Nat) (hc : c ≤ 10) : Met l y_AL_clear [Cond.code y_AL_clear b_AL_clear 4 none] ({ frames := 0, cells := 0, slots := 0, locals := 0 }) (zM [.ref a] D [(a, .inr (12, [.ref b, .int (nI c), .int mo])), (b, .inl (cO, 10, .inr (.inr (.inr (.inr g)))))] [(cO, .object "java/lang/Object")] sz) (va_Qv (fun (u : Nat → Option Nat) => True) (fun (u : Nat → Option Nat) t => zW D (va_A [(a, .inr (12, [.ref b, .int (nI c), .int mo])), (b, .inl (cO, 10, .inr (.inr (.inr (.inr g)))))] sz) [(a, .inr (12, [.ref b, .int (nI 0), .int (mo + 1)])), (b, .inl (cO, 10, .inr (.inr (.inr (.inr u)))))] [(cO, .object "java/lang/Object")] t) (va_A [(a, .inr (12, [.ref b, .int (nI c), .int mo])), (b, .inl (cO, 10, .inr (.inr (.inr (.inr g)))))] sz)) 0 0 (va_A [(a, .inr (12, [.ref b, .int (nI c), .int mo])), (b, .inl (cO, 10, .inr (.inr (.inr (.inr g)))))] sz) := by
  refine Met.ofW (cc := b_AL_clear) (maxL := 4) (ret := none) (by decide) rfl ?_
  intro p e s m args below meth cd s₁ Bd hml hv
  obtain ⟨rfl, hsz, hP, hK, hN, hD0⟩ := hv
  have hx := Bd.exec
  have hb := Bd.bytes
  have hr := Bd.returns
  have hts := hN.use (a := ([.ref a]).toArray)
  have hown : s.vm.findClass R_AL = some m.cls := findClass_of_methodNamed Bd.named
  have hlocks := Bd.notSynchronized
  subst hsz
  have hD := hD0.self (sz := s.heap.size)
  clear hD0
  have hA : ∀ q : Nat, s.heap.size ≤ q → va_A [(a, .inr (12, [.ref b, .int (nI c), .int mo])), (b, .inl (cO, 10, .inr (.inr (.inr (.inr g)))))] s.heap.size q := fun q h => Or.inr h
  have hS : va_S (va_A [(a, .inr (12, [.ref b, .int (nI c), .int mo])), (b, .inl (cO, 10, .inr (.inr (.inr (.inr g)))))] s.heap.size) s.heap s.heap [] := va_S.rf
  generalize hAe : va_A [(a, .inr (12, [.ref b, .int (nI c), .int mo])), (b, .inl (cO, 10, .inr (.inr (.inr (.inr g)))))] s.heap.size = A at hD hA hS ⊢
  have hP : va_P D classes [(a, .inr (12, [.ref b, .int (nI c), .int mo])), (b, .inl (cO, 10, .inr (.inr (.inr (.inr g)))))] s.heap := hP
  have hl := lv_entry ([.ref a]) (n := 4) (Nat.le_of_ble_eq_true rfl)
  rw [lg_entry_eq]
  generalize (lg_sl ([.ref a]) ++ List.replicate (4 - (lg_sl ([.ref a])).length) Slot.unset).toArray = ls at hl ⊢
  have hl : lv_has ls 4 [(0, .ref a)] := hl
  refine lv_aload_n hx hb d_AL_clear_0 rfl (lv_at hl 0 rfl) ?_
  refine lv_dup hx hb d_AL_clear_1 rfl ?_
  refine va_get (D := D) (ci := 12) (v := .int mo) (C := R_AL) (T := F_AL) (N := 3) hx hb hts i_AL hown hK hP 0 rfl rfl 2 (by decide) (hts _ wd_155) (fun x9 h9 => u_same (hts _ wd_156) x9 h9) rfl d_AL_clear_2 ?_
  refine lv_iconst (v := 1) hx hb d_AL_clear_5 (by decide) ?_
  refine lv_iadd hx hb d_AL_clear_6 ?_
  refine va_put (D := D) (ci := 12) (v := .int (mo + 1)) (ty := .int) (C := R_AL) (T := F_AL) (N := 3) hx hb hts i_AL t_AL t_AL_ok n_AL hown hK hP hD hS 0 rfl rfl 2 (by decide) (hts _ wd_155) (fun x9 h9 => u_same (hts _ wd_156) x9 h9) rfl (by decide +kernel) rfl rfl (Nat.le_of_ble_eq_true rfl) d_AL_clear_7 (fun H locs hP hD hS => ?_)
  have hP : va_P D classes [(a, .inr (12, [.ref b, .int (nI c), .int (mo + 1)])), (b, .inl (cO, 10, .inr (.inr (.inr (.inr g)))))] H := hP
  have hD : va_D A [(a, .inr (12, [.ref b, .int (nI c), .int (mo + 1)])), (b, .inl (cO, 10, .inr (.inr (.inr (.inr g)))))] := hD
  refine lv_aload_n hx hb d_AL_clear_10 rfl (lv_at hl 0 rfl) ?_
  refine va_get (D := D) (ci := 12) (v := .ref b) (C := R_AL) (T := F_AL) (N := 3) hx hb hts i_AL hown hK hP 0 rfl rfl 0 (by decide) (hts _ wd_152) (fun _ h9 => h9) rfl d_AL_clear_11 ?_
  refine lv_astore_n (lv' := [(1, .ref b), (0, .ref a)]) hx hb d_AL_clear_14 rfl hl (by decide) rfl (fun ls hl => ?_)
  refine lv_aload_n hx hb d_AL_clear_15 rfl (lv_at hl 1 rfl) ?_
  refine va_get (D := D) (ci := 12) (v := .int (nI c)) (C := R_AL) (T := F_AL) (N := 3) hx hb hts i_AL hown hK hP 0 rfl rfl 1 (by decide) (hts _ wd_153) (fun _ h9 => h9) rfl d_AL_clear_16 ?_
  refine lv_istore_n (lv' := [(2, .int (nI c)), (1, .ref b), (0, .ref a)]) hx hb d_AL_clear_19 rfl hl (by decide) rfl (fun ls hl => ?_)
  refine lv_aload_n hx hb d_AL_clear_20 rfl (lv_at hl 2 rfl) ?_
  refine lv_iconst (v := 0) hx hb d_AL_clear_21 (by decide) ?_
  refine lv_dup_x1 hx hb d_AL_clear_22 rfl rfl ?_
  refine va_put (D := D) (ci := 12) (v := .int 0) (ty := .int) (C := R_AL) (T := F_AL) (N := 3) hx hb hts i_AL t_AL t_AL_ok n_AL hown hK hP hD hS 0 rfl rfl 1 (by decide) (hts _ wd_153) (fun _ h9 => h9) rfl (by decide +kernel) rfl rfl (Nat.le_of_ble_eq_true rfl) d_AL_clear_23 (fun H locs hP hD hS => ?_)
  have hP : va_P D classes [(a, .inr (12, [.ref b, .int 0, .int (mo + 1)])), (b, .inl (cO, 10, .inr (.inr (.inr (.inr g)))))] H := hP
  have hD : va_D A [(a, .inr (12, [.ref b, .int 0, .int (mo + 1)])), (b, .inl (cO, 10, .inr (.inr (.inr (.inr g)))))] := hD
  refine lv_istore_n (lv' := [(3, .int 0), (2, .int (nI c)), (1, .ref b), (0, .ref a)]) hx hb d_AL_clear_26 rfl hl (by decide) rfl (fun ls hl => ?_)
  have loop27 : ∀ (N : Nat) (i : Nat) (g2 : Nat → Option Nat) (H : Heap) (locs : List Loc) (ls : Array Slot) (hm : c - i < N) (hi : i ≤ c) (hl : lv_has ls 4 [(0, .ref a), (1, .ref b), (2, .int (nI c)), (3, .int (nI i))]) (hP : va_P D classes [(a, .inr (12, [.ref b, .int (nI 0), .int (mo + 1)])), (b, .inl (cO, 10, .inr (.inr (.inr (.inr g2)))))] H) (hD : va_D A [(a, .inr (12, [.ref b, .int (nI 0), .int (mo + 1)])), (b, .inl (cO, 10, .inr (.inr (.inr (.inr g2)))))]) (hS : va_S A s.heap H locs), W p l e ({ frames := 0, cells := 0, slots := 0, locals := 0 }) s m ([.ref a]).toArray below meth cd H locs 0 0 (MQ below (va_Qv (fun (u : Nat → Option Nat) => True) (fun (u : Nat → Option Nat) t => zW D (A) [(a, .inr (12, [.ref b, .int (nI 0), .int (mo + 1)])), (b, .inl (cO, 10, .inr (.inr (.inr (.inr u)))))] [(cO, .object "java/lang/Object")] t) (A)) ([.ref a]).toArray s 0 0 (A)) (F0 m 27 ls []) := by
    intro N27
    induction N27 with
    | zero => intro i g2 H locs ls hm hi hl hP hD hS; exact absurd hm (Nat.not_lt_zero _)
    | succ N27 ih27 =>
      intro i g2 H locs ls hm hi hl hP hD hS
      refine lv_iload_n hx hb d_AL_clear_27 rfl (lv_at hl 3 rfl) ?_
      refine lv_iload_n hx hb d_AL_clear_28 rfl (lv_at hl 2 rfl) ?_
      refine lv_icmp_ge (tgt := 42) hx hb d_AL_clear_29 rfl (fun h29 => ?_) (fun h29 => ?_)
      · have h29 := (nI_leI (by omega) (by omega)).mp h29
        have hP9 := hP.sub (ws' := [(a, .inr (12, [.ref b, .int (nI 0), .int (mo + 1)])), (b, .inl (cO, 10, .inr (.inr (.inr (.inr g2)))))]) [0, 1] rfl
        have hD9 := hD.sub (ws' := [(a, .inr (12, [.ref b, .int (nI 0), .int (mo + 1)])), (b, .inl (cO, 10, .inr (.inr (.inr (.inr g2)))))]) [0, 1] (by decide) rfl
        have hK9 := hK.sub (tys' := [(cO, .object "java/lang/Object")]) [0] rfl
        exact W.vret hx hb hr (fun t ht hW => ⟨⟨g2, rfl, trivial, ⟨by rw [ht]; exact hP9, va_K.moved hW.alike hK9, hD9⟩⟩, hS.F ht⟩) hS.2.2 d_AL_clear_42
      · have h29 : i < c := by have := mt (nI_leI (a := c) (b := i) (by omega) (by omega)).mpr h29; omega
        refine lv_aload_n hx hb d_AL_clear_32 rfl (lv_at hl 1 rfl) ?_
        refine lv_iload_n hx hb d_AL_clear_33 rfl (lv_at hl 3 rfl) ?_
        refine lv_null hx hb d_AL_clear_34 ?_
        refine z_astqN hx hb hK hP hD hS 1 0 rfl rfl i rfl (by omega) (by omega) d_AL_clear_35 (fun H locs hP hD hS => ?_)
        have hP : va_P D classes [(a, .inr (12, [.ref b, .int (nI 0), .int (mo + 1)])), (b, .inl (cO, 10, .inr (.inr (.inr (.inr (va_up g2 i none))))))] H := hP
        have hD : va_D A [(a, .inr (12, [.ref b, .int (nI 0), .int (mo + 1)])), (b, .inl (cO, 10, .inr (.inr (.inr (.inr (va_up g2 i none))))))] := hD
        refine lv_iinc (k := 3) (v := nI (i + 1)) (lv' := [(3, .int (nI (i + 1))), (0, .ref a), (1, .ref b), (2, .int (nI c))]) hx hb d_AL_clear_36 hl rfl (nI_1 i) (by decide) rfl (fun ls hl => ?_)
        refine lv_goto (tgt := 27) hx hb d_AL_clear_39 rfl ?_
        exact ih27 (i + 1) (va_up g2 i none) H locs ls (by omega) (by omega) (lv_sub hl [1, 2, 3, 0] rfl) hP hD hS
  exact loop27 _ 0 g H locs ls (Nat.lt_succ_self _) (Nat.zero_le _) (lv_sub hl [3, 2, 1, 0] rfl) hP hD hS
set_option maxHeartbeats 4000000 in
set_option maxRecDepth 100000 in
theorem c_SS_forget (l : Launch) (D : va_G) (B0 : State) (hG : zG B0) (sz : Nat) (h rc d e0 : Nat) (cO : ClassId) (mo : Int32) (dst : Option (Nat × (Nat → Option Nat))) (DL : List DR9) (Q Im : va_W) (he0 : zE0 B0 e0) (hdt : dtk Im dst DL) (hIm : ∀ y ∈ Im, y ∈ Q) : Met l y_SS_forget [Cond.code y_SS_forget b_SS_forget 1 none] ({ frames := 1, cells := 0, slots := 0, locals := 23 }) (zMo [.ref h] D ([(h, .inr (11, [.ref rc, .ref d]))] ++ (dfl cO e0 d DL.length mo dst DL ++ Q)) [(cO, .object "java/lang/Object")] sz B0) (va_Qv (fun (u : Int32 × Option (Nat × (Nat → Option Nat)) × va_W) => dtk Im u.2.1 []) (fun (u : Int32 × Option (Nat × (Nat → Option Nat)) × va_W) t => zW D (va_A ([(h, .inr (11, [.ref rc, .ref d]))] ++ (dfl cO e0 d DL.length mo dst DL ++ Q)) sz) ([(h, .inr (11, [.ref rc, .ref d]))] ++ (dfl cO e0 d 0 u.1 u.2.1 [] ++ (u.2.2 ++ Q))) [(cO, .object "java/lang/Object")] t) (va_A ([(h, .inr (11, [.ref rc, .ref d]))] ++ (dfl cO e0 d DL.length mo dst DL ++ Q)) sz)) 0 0 (va_A ([(h, .inr (11, [.ref rc, .ref d]))] ++ (dfl cO e0 d DL.length mo dst DL ++ Q)) sz) := by
  refine Met.ofW (cc := b_SS_forget) (maxL := 1) (ret := none) (by decide) rfl ?_
  intro p e s m args below meth cd s₁ Bd hml hv
  obtain ⟨rfl, hsz, hP, hK, hN, hD0, hO⟩ := hv
  have hx := Bd.exec
  have hb := Bd.bytes
  have hr := Bd.returns
  have hts := hN.use (a := ([.ref h]).toArray)
  have hown : s.vm.findClass R_SS = some m.cls := findClass_of_methodNamed Bd.named
  have hlocks := Bd.notSynchronized
  subst hsz
  have hD := hD0.self (sz := s.heap.size)
  have hAO := z_AO hD0 hO
  clear hD0
  have hA : ∀ q : Nat, s.heap.size ≤ q → va_A ([(h, .inr (11, [.ref rc, .ref d]))] ++ (dfl cO e0 d DL.length mo dst DL ++ Q)) s.heap.size q := fun q h => Or.inr h
  have hS : va_S (va_A ([(h, .inr (11, [.ref rc, .ref d]))] ++ (dfl cO e0 d DL.length mo dst DL ++ Q)) s.heap.size) s.heap s.heap [] := va_S.rf
  generalize hAe : va_A ([(h, .inr (11, [.ref rc, .ref d]))] ++ (dfl cO e0 d DL.length mo dst DL ++ Q)) s.heap.size = A at hD hA hS hAO ⊢
  have hP : va_P D classes ([(h, .inr (11, [.ref rc, .ref d]))] ++ (dfl cO e0 d DL.length mo dst DL ++ Q)) s.heap := hP
  have hl := lv_entry ([.ref h]) (n := 1) (Nat.le_of_ble_eq_true rfl)
  rw [lg_entry_eq]
  generalize (lg_sl ([.ref h]) ++ List.replicate (1 - (lg_sl ([.ref h])).length) Slot.unset).toArray = ls at hl ⊢
  have hl : lv_has ls 1 [(0, .ref h)] := hl
  cases dst with
  | none =>
    obtain rfl : DL = [] := hdt.2.1
    have hP : va_P D classes ([(h, .inr (11, [.ref rc, .ref d])), (d, .inr (12, [.ref e0, .int 0, .int mo]))] ++ Q) s.heap := hP
    have hD : va_D A ([(h, .inr (11, [.ref rc, .ref d])), (d, .inr (12, [.ref e0, .int 0, .int mo]))] ++ Q) := hD
    refine lv_aload_n hx hb d_SS_forget_0 rfl (lv_at hl 0 rfl) ?_
    refine va_get (D := D) (ci := 11) (v := .ref d) (C := R_SS) (T := F_SS) (N := 2) hx hb hts i_SS hown hK hP 0 rfl rfl 1 (by decide) (hts _ wd_199) (fun _ h9 => h9) rfl d_SS_forget_1 ?_
    have hPc := hP.sub (ws' := [(d, .inr (12, [.ref e0, .int 0, .int mo]))]) [1] rfl
    have hKc := hK.sub (tys' := []) [] rfl
    have hDc := hD.sub (ws' := [(d, .inr (12, [.ref e0, .int 0, .int mo]))]) [1] (by decide) rfl
    have hFc := va_free (wc := [(d, .inr (12, [.ref e0, .int 0, .int mo]))]) hD hS hA [1] rfl
    refine va_callv (va_runV (As := []) (rest := []) ⟨hx, hb, hml, hown, hts⟩ (c_AL_clear0 l D s.heap.size d e0 mo ) (z_cV hN wd_691 wd_66 wd_688 hd_AL_clear rfl rfl ⟨Nat.le_of_ble_eq_true rfl, Nat.le_of_ble_eq_true rfl⟩ wd_689 wd_690) (z_preVm (va_recv (ci := 12) (q0 := 1) hK hP rfl rfl) hPc hKc hN hDc) rfl rfl hl.1 rfl (lv_room (Nat.le_of_ble_eq_true rfl)) d_SS_forget_4 ⟨Nat.le_of_ble_eq_true rfl, Nat.le_of_ble_eq_true rfl⟩) hS (fun q _ h => hFc q h) hFc (fun u4 t H locs ht hvm e4 hB hz1 hk1 hS => ?_)
    obtain ⟨hP1, hK1, hD1⟩ := hB
    rw [ht] at hP1
    obtain ⟨hP, hD⟩ := va_joinQ (cx := [(d, .inr (12, [.ref e0, .int 0, .int mo]))]) (wr := [(h, .inr (11, [.ref rc, .ref d]))]) (w1 := [(d, .inr (12, [.ref e0, .int 0, .int (mo + 1)]))]) hP hD [1] [0] rfl rfl (by decide) (by decide) hk1 hFc hP1 hD1
    clear hk1 hP1 hD1 hFc hPc hDc hz1
    have hP : va_P D classes ([(h, .inr (11, [.ref rc, .ref d])), (d, .inr (12, [.ref e0, .int 0, .int (mo + 1)]))] ++ Q) H := hP
    have hD : va_D A ([(h, .inr (11, [.ref rc, .ref d])), (d, .inr (12, [.ref e0, .int 0, .int (mo + 1)]))] ++ Q) := hD
    have hP : va_P D classes ([(h, .inr (11, [.ref rc, .ref d]))] ++ (dfl cO e0 d 0 (mo + 1) none [] ++ ([] ++ Q))) H := hP
    have hD : va_D A ([(h, .inr (11, [.ref rc, .ref d]))] ++ (dfl cO e0 d 0 (mo + 1) none [] ++ ([] ++ Q))) := hD
    have hP9 := hP.part (cx := [(h, .inr (11, [.ref rc, .ref d]))]) [0] rfl
    have hD9 := hD.part (cx := [(h, .inr (11, [.ref rc, .ref d]))]) [0] (by decide) rfl
    have hK9 := hK.sub (tys' := [(cO, .object "java/lang/Object")]) [0] rfl
    exact W.vret hx hb hr (fun t ht hW => ⟨⟨(mo + 1, none, []), rfl, ⟨Nat.zero_le _, rfl, fun x hx => by cases hx⟩, ⟨by rw [ht]; exact hP9, va_K.moved hW.alike hK9, hD9⟩⟩, hS.F ht⟩) hS.2.2 d_SS_forget_7
  | some dq =>
    have hd9 : ∀ j, j < DL.length → dq.2 j = some (DL.getD j dr0).1 := hdt.2.1
    have hd4 := hdt.1
    have hP := z_Pp (df_out (X := [(h, .inr (11, [.ref rc, .ref d]))])) hP
    have hD := z_Dp (df_out (X := [(h, .inr (11, [.ref rc, .ref d]))])) hD
    have hP : va_P D classes ([(h, .inr (11, [.ref rc, .ref d])), (d, .inr (12, [.ref dq.1, .int (nI DL.length), .int mo])), (dq.1, .inl (cO, 10, .inr (.inr (.inr (.inr dq.2)))))] ++ (DL.flatMap (drc cO e0) ++ Q)) s.heap := hP
    have hD : va_D A ([(h, .inr (11, [.ref rc, .ref d])), (d, .inr (12, [.ref dq.1, .int (nI DL.length), .int mo])), (dq.1, .inl (cO, 10, .inr (.inr (.inr (.inr dq.2)))))] ++ (DL.flatMap (drc cO e0) ++ Q)) := hD
    refine lv_aload_n hx hb d_SS_forget_0 rfl (lv_at hl 0 rfl) ?_
    refine va_get (D := D) (ci := 11) (v := .ref d) (C := R_SS) (T := F_SS) (N := 2) hx hb hts i_SS hown hK hP 0 rfl rfl 1 (by decide) (hts _ wd_199) (fun _ h9 => h9) rfl d_SS_forget_1 ?_
    have hPc := hP.sub (ws' := [(d, .inr (12, [.ref dq.1, .int (nI DL.length), .int mo])), (dq.1, .inl (cO, 10, .inr (.inr (.inr (.inr dq.2)))))]) [1, 2] rfl
    have hKc := hK.sub (tys' := [(cO, .object "java/lang/Object")]) [0] rfl
    have hDc := hD.sub (ws' := [(d, .inr (12, [.ref dq.1, .int (nI DL.length), .int mo])), (dq.1, .inl (cO, 10, .inr (.inr (.inr (.inr dq.2)))))]) [1, 2] (by decide) rfl
    have hFc := va_free (wc := [(d, .inr (12, [.ref dq.1, .int (nI DL.length), .int mo])), (dq.1, .inl (cO, 10, .inr (.inr (.inr (.inr dq.2)))))]) hD hS hA [1, 2] rfl
    refine va_callv (va_runV (As := []) (rest := []) ⟨hx, hb, hml, hown, hts⟩ (c_AL_clear l D s.heap.size cO d dq.1 DL.length mo dq.2 (by omega)) (z_cV hN wd_691 wd_66 wd_688 hd_AL_clear rfl rfl ⟨Nat.le_of_ble_eq_true rfl, Nat.le_of_ble_eq_true rfl⟩ wd_689 wd_690) (z_preVm (va_recv (ci := 12) (q0 := 1) hK hP rfl rfl) hPc hKc hN hDc) rfl rfl hl.1 rfl (lv_room (Nat.le_of_ble_eq_true rfl)) d_SS_forget_4 ⟨Nat.le_of_ble_eq_true rfl, Nat.le_of_ble_eq_true rfl⟩) hS (fun q _ h => hFc q h) hFc (fun cg t H locs ht hvm e4 hB hz1 hk1 hS => ?_)
    obtain ⟨hP1, hK1, hD1⟩ := hB
    rw [ht] at hP1
    obtain ⟨hP, hD⟩ := va_joinQ (cx := [(d, .inr (12, [.ref dq.1, .int (nI DL.length), .int mo])), (dq.1, .inl (cO, 10, .inr (.inr (.inr (.inr dq.2)))))]) (wr := [(h, .inr (11, [.ref rc, .ref d]))]) (w1 := [(d, .inr (12, [.ref dq.1, .int (nI 0), .int (mo + 1)])), (dq.1, .inl (cO, 10, .inr (.inr (.inr (.inr cg)))))]) hP hD [1, 2] [0] rfl rfl (by decide) (by decide) hk1 hFc hP1 hD1
    clear hk1 hP1 hD1 hFc hPc hDc hz1
    have hP : va_P D classes ([(h, .inr (11, [.ref rc, .ref d])), (d, .inr (12, [.ref dq.1, .int (nI 0), .int (mo + 1)])), (dq.1, .inl (cO, 10, .inr (.inr (.inr (.inr cg)))))] ++ (DL.flatMap (drc cO e0) ++ Q)) H := hP
    have hD : va_D A ([(h, .inr (11, [.ref rc, .ref d])), (d, .inr (12, [.ref dq.1, .int (nI 0), .int (mo + 1)])), (dq.1, .inl (cO, 10, .inr (.inr (.inr (.inr cg)))))] ++ (DL.flatMap (drc cO e0) ++ Q)) := hD
    have hP : va_P D classes ([(h, .inr (11, [.ref rc, .ref d]))] ++ (dfl cO e0 d 0 (mo + 1) (some (dq.1, cg)) [] ++ (DL.flatMap (drc cO e0) ++ Q))) H := hP
    have hD : va_D A ([(h, .inr (11, [.ref rc, .ref d]))] ++ (dfl cO e0 d 0 (mo + 1) (some (dq.1, cg)) [] ++ (DL.flatMap (drc cO e0) ++ Q))) := hD
    have hP9 := hP.part (cx := [(h, .inr (11, [.ref rc, .ref d]))]) [0] rfl
    have hD9 := hD.part (cx := [(h, .inr (11, [.ref rc, .ref d]))]) [0] (by decide) rfl
    have hK9 := hK.sub (tys' := [(cO, .object "java/lang/Object")]) [0] rfl
    exact W.vret hx hb hr (fun t ht hW => ⟨⟨(mo + 1, (some (dq.1, cg)), DL.flatMap (drc cO e0)), rfl, ⟨Nat.zero_le _, fun j hj => absurd hj (Nat.not_lt_zero j), fun x hx => by cases hx⟩, ⟨by rw [ht]; exact hP9, va_K.moved hW.alike hK9, hD9⟩⟩, hS.F ht⟩) hS.2.2 d_SS_forget_7
set_option maxHeartbeats 4000000 in
set_option maxRecDepth 100000 in
theorem c_SS_plan_full (l : Launch) (D : va_G) (hfl : l.stackTraces = false) (B0 : State) (hG : zG B0) (sz : Nat) (h rc d e0 : Nat) (cO : ClassId) (mo : Int32) (dst : Option (Nat × (Nat → Option Nat))) (DL : List DR9) (Q Im : va_W) (i : Int32) (pid : Nat) (he0 : zE0 B0 e0) (hdt : dtk Im dst DL) (hIm : ∀ y ∈ Im, y ∈ Q) (hok : ¬ (i < 1 ∨ 65535 < i ∨ nI pid < 0 ∨ 8191 < nI pid)) (hpid : pid < 8192) (hge : DL.length = 4) : MetT l y_SS_plan [Cond.code y_SS_plan b_SS_plan 3 (some .int)] ({ frames := 1, cells := 3, slots := 16, locals := 20 }) (zMo [.ref h, .int i, .int (nI pid)] D ([(h, .inr (11, [.ref rc, .ref d]))] ++ (dfl cO e0 d DL.length mo dst DL ++ Q)) [(cO, .object "java/lang/Object")] sz B0) (zQi (fun r0 (_ : Unit) => r0 = -1) (fun (_u : Unit) t => zW D (va_A ([(h, .inr (11, [.ref rc, .ref d]))] ++ (dfl cO e0 d DL.length mo dst DL ++ Q)) sz) ([(h, .inr (11, [.ref rc, .ref d]))] ++ (dfl cO e0 d DL.length mo dst DL ++ Q)) [(cO, .object "java/lang/Object")] t) (va_A ([(h, .inr (11, [.ref rc, .ref d]))] ++ (dfl cO e0 d DL.length mo dst DL ++ Q)) sz) (fun _ => False)) 3 16 (va_A ([(h, .inr (11, [.ref rc, .ref d]))] ++ (dfl cO e0 d DL.length mo dst DL ++ Q)) sz) := by
  refine MetT.ofW (cc := b_SS_plan) (maxL := 3) (ret := (some .int)) (by decide) rfl ?_
  intro p e s m args below meth cd s₁ Bd hml hem hv
  obtain ⟨rfl, hsz, hP, hK, hN, hD0, hO⟩ := hv
  have hx := Bd.exec
  have hb := Bd.bytes
  have hr := Bd.returns
  have hts := hN.use (a := ([.ref h, .int i, .int (nI pid)]).toArray)
  have hown : s.vm.findClass R_SS = some m.cls := findClass_of_methodNamed Bd.named
  have hlocks := Bd.notSynchronized
  subst hsz
  have hD := hD0.self (sz := s.heap.size)
  have hAO := z_AO hD0 hO
  clear hD0
  have hA : ∀ q : Nat, s.heap.size ≤ q → va_A ([(h, .inr (11, [.ref rc, .ref d]))] ++ (dfl cO e0 d DL.length mo dst DL ++ Q)) s.heap.size q := fun q h => Or.inr h
  have hS : va_S (va_A ([(h, .inr (11, [.ref rc, .ref d]))] ++ (dfl cO e0 d DL.length mo dst DL ++ Q)) s.heap.size) s.heap s.heap [] := va_S.rf
  generalize hAe : va_A ([(h, .inr (11, [.ref rc, .ref d]))] ++ (dfl cO e0 d DL.length mo dst DL ++ Q)) s.heap.size = A at hD hA hS hAO ⊢
  have hP : va_P D classes ([(h, .inr (11, [.ref rc, .ref d]))] ++ (dfl cO e0 d DL.length mo dst DL ++ Q)) s.heap := hP
  have hl := lv_entry ([.ref h, .int i, .int (nI pid)]) (n := 3) (Nat.le_of_ble_eq_true rfl)
  rw [lg_entry_eq]
  generalize (lg_sl ([.ref h, .int i, .int (nI pid)]) ++ List.replicate (3 - (lg_sl ([.ref h, .int i, .int (nI pid)])).length) Slot.unset).toArray = ls at hl ⊢
  have hl : lv_has ls 3 [(0, .ref h), (1, .int i), (2, .int (nI pid))] := hl
  refine lv_iload_n hx hb d_SS_plan_0 rfl (lv_at hl 1 rfl) ?_
  refine lv_iconst (v := 1) hx hb d_SS_plan_1 (by decide) ?_
  refine lv_icmp_lt (tgt := 18) hx hb d_SS_plan_2 rfl (fun h9 => absurd (Or.inl h9) hok) (fun h2 => ?_)
  refine lv_iload_n hx hb d_SS_plan_5 rfl (lv_at hl 1 rfl) ?_
  refine lv_ldc hx hb hown (hts _ wd_893) d_SS_plan_6 ?_
  refine lv_icmp_gt (tgt := 18) hx hb d_SS_plan_8 rfl (fun h9 => absurd (Or.inr (Or.inl h9)) hok) (fun h8 => ?_)
  refine lv_iload_n hx hb d_SS_plan_11 rfl (lv_at hl 2 rfl) ?_
  have hPc := hP.sub (ws' := []) [] rfl
  have hKc := hK.sub (tys' := []) [] rfl
  refine z_ci (va_runS (As := [.int (nI pid)]) (rest := []) ⟨hx, hb, hml, hown, hts⟩ (c_SS_isNoPid l D (nI pid) ) (z_cS hN wd_883 wd_59 wd_881 hd_SS_isNoPid rfl rfl ⟨Nat.le_of_ble_eq_true rfl, Nat.le_of_ble_eq_true rfl⟩ wd_882) (z_preS hPc hKc hN) rfl rfl hl.1 rfl (lv_room (Nat.le_of_ble_eq_true rfl)) d_SS_plan_12 ⟨Nat.le_of_ble_eq_true rfl, Nat.le_of_ble_eq_true rfl⟩) (fun r12 e12 => ?_)
  subst e12
  refine lv_if_eq (tgt := 28) hx hb d_SS_plan_15 rfl (fun h15 => ?_) (fun h9 => absurd (Or.inr (Or.inr (pd_bad rfl h9))) hok)
  refine lv_aload_n hx hb d_SS_plan_28 rfl (lv_at hl 0 rfl) ?_
  refine va_get (D := D) (ci := 11) (v := .ref d) (C := R_SS) (T := F_SS) (N := 2) hx hb hts i_SS hown hK hP 0 rfl rfl 1 (by decide) (hts _ wd_199) (fun _ h9 => h9) rfl d_SS_plan_29 ?_
  obtain ⟨b9, hm9⟩ := df_memL (X := [(h, .inr (11, [.ref rc, .ref d]))]) (cO := cO) (e0 := e0) (d := d) (n := DL.length) (mo := mo) (dst := dst) (L := DL) (Q := Q)
  obtain ⟨q9, hq9⟩ := List.getElem?_of_mem hm9
  have hPc : va_P D classes [(d, .inr (12, [.ref b9, .int (nI DL.length), .int mo]))] s.heap := z_Pm1 hm9 hP
  have hKc := hK.sub (tys' := []) [] rfl
  refine z_ci (va_runV (As := []) (rest := []) ⟨hx, hb, hml, hown, hts⟩ (c_AL_size l D d b9 (nI DL.length) mo ) (z_cV hN wd_305 wd_66 wd_820 hd_AL_size rfl rfl ⟨Nat.le_of_ble_eq_true rfl, Nat.le_of_ble_eq_true rfl⟩ wd_303 wd_304) (z_preV (va_recv (ci := 12) (q0 := q9) hK hP rfl hq9) hPc hKc hN) rfl rfl hl.1 rfl (lv_room (Nat.le_of_ble_eq_true rfl)) d_SS_plan_32 ⟨Nat.le_of_ble_eq_true rfl, Nat.le_of_ble_eq_true rfl⟩) (fun r32 e32 => ?_)
  refine z_topi (w := (nI DL.length)) e32 ?_
  refine lv_iconst (v := 4) hx hb d_SS_plan_35 (by decide) ?_
  refine lv_icmp_lt (tgt := 41) hx hb d_SS_plan_36 rfl (fun h9 => absurd h9 (by rw [hge]; decide)) (fun h36 => ?_)
  refine lv_iconst (v := (-1)) hx hb d_SS_plan_39 (by decide) ?_
  have hP9 := hP.part (cx := [(h, .inr (11, [.ref rc, .ref d]))]) [0] rfl
  have hD9 := hD.part (cx := [(h, .inr (11, [.ref rc, .ref d]))]) [0] (by decide) rfl
  have hK9 := hK.sub (tys' := [(cO, .object "java/lang/Object")]) [0] rfl
  refine W.widen (k := 3) (n := 16) (by omega) (by omega) ?_
  exact W.mono MQ.toT (W.iret (v := (-1)) hx hb hr (fun t ht hW => Or.inl ⟨_, (), rfl, rfl, ⟨by rw [ht]; exact hP9, va_K.moved hW.alike hK9, hD9⟩, hS.F ht⟩) hS.2.2 d_SS_plan_40)
set_option maxHeartbeats 4000000 in
set_option maxRecDepth 100000 in
theorem c_SS_plan_add (l : Launch) (D : va_G) (hfl : l.stackTraces = false) (B0 : State) (hG : zG B0) (sz : Nat) (h rc d e0 : Nat) (cO : ClassId) (mo : Int32) (dst : Option (Nat × (Nat → Option Nat))) (DL : List DR9) (Q Im : va_W) (i : Int32) (pid : Nat) (he0 : zE0 B0 e0) (hdt : dtk Im dst DL) (hIm : ∀ y ∈ Im, y ∈ Q) (hok : ¬ (i < 1 ∨ 65535 < i ∨ nI pid < 0 ∨ 8191 < nI pid)) (hpid : pid < 8192) (hlt : DL.length < 4) : MetT l y_SS_plan [Cond.code y_SS_plan b_SS_plan 3 (some .int)] ({ frames := 5, cells := 3, slots := 16, locals := 101 }) (zMo [.ref h, .int i, .int (nI pid)] D ([(h, .inr (11, [.ref rc, .ref d]))] ++ (dfl cO e0 d DL.length mo dst DL ++ Q)) [(cO, .object "java/lang/Object")] sz B0) (zQi (fun r0 (u : Option (Nat × (Nat → Option Nat)) × Nat × Nat) => r0 = nI (DL.length + 1) ∧ dtk Im u.1 (DL ++ [(u.2.1, i, pid, u.2.2, [], 0, none)])) (fun (u : Option (Nat × (Nat → Option Nat)) × Nat × Nat) t => zW D (va_A ([(h, .inr (11, [.ref rc, .ref d]))] ++ (dfl cO e0 d DL.length mo dst DL ++ Q)) sz) ([(h, .inr (11, [.ref rc, .ref d]))] ++ (dfl cO e0 d ((DL ++ [(u.2.1, i, pid, u.2.2, [], 0, none)]).length) (mo + 1) u.1 (DL ++ [(u.2.1, i, pid, u.2.2, [], 0, none)]) ++ Q)) [(cO, .object "java/lang/Object")] t) (va_A ([(h, .inr (11, [.ref rc, .ref d]))] ++ (dfl cO e0 d DL.length mo dst DL ++ Q)) sz) (fun _ => False)) 3 16 (va_A ([(h, .inr (11, [.ref rc, .ref d]))] ++ (dfl cO e0 d DL.length mo dst DL ++ Q)) sz) := by
  refine MetT.ofW (cc := b_SS_plan) (maxL := 3) (ret := (some .int)) (by decide) rfl ?_
  intro p e s m args below meth cd s₁ Bd hml hem hv
  obtain ⟨rfl, hsz, hP, hK, hN, hD0, hO⟩ := hv
  have hx := Bd.exec
  have hb := Bd.bytes
  have hr := Bd.returns
  have hts := hN.use (a := ([.ref h, .int i, .int (nI pid)]).toArray)
  have hown : s.vm.findClass R_SS = some m.cls := findClass_of_methodNamed Bd.named
  have hlocks := Bd.notSynchronized
  subst hsz
  have hD := hD0.self (sz := s.heap.size)
  have hAO := z_AO hD0 hO
  clear hD0
  have hA : ∀ q : Nat, s.heap.size ≤ q → va_A ([(h, .inr (11, [.ref rc, .ref d]))] ++ (dfl cO e0 d DL.length mo dst DL ++ Q)) s.heap.size q := fun q h => Or.inr h
  have hS : va_S (va_A ([(h, .inr (11, [.ref rc, .ref d]))] ++ (dfl cO e0 d DL.length mo dst DL ++ Q)) s.heap.size) s.heap s.heap [] := va_S.rf
  generalize hAe : va_A ([(h, .inr (11, [.ref rc, .ref d]))] ++ (dfl cO e0 d DL.length mo dst DL ++ Q)) s.heap.size = A at hD hA hS hAO ⊢
  have hP : va_P D classes ([(h, .inr (11, [.ref rc, .ref d]))] ++ (dfl cO e0 d DL.length mo dst DL ++ Q)) s.heap := hP
  have hl := lv_entry ([.ref h, .int i, .int (nI pid)]) (n := 3) (Nat.le_of_ble_eq_true rfl)
  rw [lg_entry_eq]
  generalize (lg_sl ([.ref h, .int i, .int (nI pid)]) ++ List.replicate (3 - (lg_sl ([.ref h, .int i, .int (nI pid)])).length) Slot.unset).toArray = ls at hl ⊢
  have hl : lv_has ls 3 [(0, .ref h), (1, .int i), (2, .int (nI pid))] := hl
  refine lv_iload_n hx hb d_SS_plan_0 rfl (lv_at hl 1 rfl) ?_
  refine lv_iconst (v := 1) hx hb d_SS_plan_1 (by decide) ?_
  refine lv_icmp_lt (tgt := 18) hx hb d_SS_plan_2 rfl (fun h9 => absurd (Or.inl h9) hok) (fun h2 => ?_)
  refine lv_iload_n hx hb d_SS_plan_5 rfl (lv_at hl 1 rfl) ?_
  refine lv_ldc hx hb hown (hts _ wd_893) d_SS_plan_6 ?_
  refine lv_icmp_gt (tgt := 18) hx hb d_SS_plan_8 rfl (fun h9 => absurd (Or.inr (Or.inl h9)) hok) (fun h8 => ?_)
  refine lv_iload_n hx hb d_SS_plan_11 rfl (lv_at hl 2 rfl) ?_
  have hPc := hP.sub (ws' := []) [] rfl
  have hKc := hK.sub (tys' := []) [] rfl
  refine z_ci (va_runS (As := [.int (nI pid)]) (rest := []) ⟨hx, hb, hml, hown, hts⟩ (c_SS_isNoPid l D (nI pid) ) (z_cS hN wd_883 wd_59 wd_881 hd_SS_isNoPid rfl rfl ⟨Nat.le_of_ble_eq_true rfl, Nat.le_of_ble_eq_true rfl⟩ wd_882) (z_preS hPc hKc hN) rfl rfl hl.1 rfl (lv_room (Nat.le_of_ble_eq_true rfl)) d_SS_plan_12 ⟨Nat.le_of_ble_eq_true rfl, Nat.le_of_ble_eq_true rfl⟩) (fun r12 e12 => ?_)
  subst e12
  refine lv_if_eq (tgt := 28) hx hb d_SS_plan_15 rfl (fun h15 => ?_) (fun h9 => absurd (Or.inr (Or.inr (pd_bad rfl h9))) hok)
  cases dst with
  | none =>
    obtain rfl : DL = [] := hdt.2.1
    have hP : va_P D classes ([(h, .inr (11, [.ref rc, .ref d])), (d, .inr (12, [.ref e0, .int 0, .int mo]))] ++ Q) s.heap := hP
    have hD : va_D A ([(h, .inr (11, [.ref rc, .ref d])), (d, .inr (12, [.ref e0, .int 0, .int mo]))] ++ Q) := hD
    refine lv_aload_n hx hb d_SS_plan_28 rfl (lv_at hl 0 rfl) ?_
    refine va_get (D := D) (ci := 11) (v := .ref d) (C := R_SS) (T := F_SS) (N := 2) hx hb hts i_SS hown hK hP 0 rfl rfl 1 (by decide) (hts _ wd_199) (fun _ h9 => h9) rfl d_SS_plan_29 ?_
    have hPc := hP.sub (ws' := [(d, .inr (12, [.ref e0, .int 0, .int mo]))]) [1] rfl
    have hKc := hK.sub (tys' := []) [] rfl
    refine z_ci (va_runV (As := []) (rest := []) ⟨hx, hb, hml, hown, hts⟩ (c_AL_size l D d e0 0 mo ) (z_cV hN wd_305 wd_66 wd_820 hd_AL_size rfl rfl ⟨Nat.le_of_ble_eq_true rfl, Nat.le_of_ble_eq_true rfl⟩ wd_303 wd_304) (z_preV (va_recv (ci := 12) (q0 := 1) hK hP rfl rfl) hPc hKc hN) rfl rfl hl.1 rfl (lv_room (Nat.le_of_ble_eq_true rfl)) d_SS_plan_32 ⟨Nat.le_of_ble_eq_true rfl, Nat.le_of_ble_eq_true rfl⟩) (fun r32 e32 => ?_)
    refine z_topi (w := 0) e32 ?_
    refine lv_iconst (v := 4) hx hb d_SS_plan_35 (by decide) ?_
    refine lv_icmp_lt (tgt := 41) hx hb d_SS_plan_36 rfl (fun h36 => ?_) (fun h9 => absurd (by decide) h9)
    refine lv_aload_n hx hb d_SS_plan_41 rfl (lv_at hl 0 rfl) ?_
    refine va_get (D := D) (ci := 11) (v := .ref d) (C := R_SS) (T := F_SS) (N := 2) hx hb hts i_SS hown hK hP 0 rfl rfl 1 (by decide) (hts _ wd_199) (fun _ h9 => h9) rfl d_SS_plan_42 ?_
    refine va_new (ci := 9) (fs := [.int 0, .int 0, .null]) (C := R_Draft) (T := F_Draft) (N := 3) hx hb hts i_Draft t_Draft t_Draft_ok hown (hts _ wd_895) (hts _ wd_896) (hts _ wd_84) hK hP hD hS hA rfl (fs_Draft) (by show 0 + 1 ≤ 3; omega) (by show 0 + 3 ≤ 16; omega) d_SS_plan_45 (fun q45 H hP hD hS => ?_)
    have hP := hP.swap
    have hD := hD.swap
    have hP : va_P D classes ([(h, .inr (11, [.ref rc, .ref d])), (d, .inr (12, [.ref e0, .int 0, .int mo])), (q45, .inr (9, [.int 0, .int 0, .null]))] ++ Q) H := hP
    have hD : va_D A ([(h, .inr (11, [.ref rc, .ref d])), (d, .inr (12, [.ref e0, .int 0, .int mo])), (q45, .inr (9, [.int 0, .int 0, .null]))] ++ Q) := hD
    refine lv_dup hx hb d_SS_plan_48 rfl ?_
    refine lv_iload_n hx hb d_SS_plan_49 rfl (lv_at hl 1 rfl) ?_
    refine lv_iload_n hx hb d_SS_plan_50 rfl (lv_at hl 2 rfl) ?_
    have hPc := hP.sub (ws' := [(q45, .inr (9, [.int 0, .int 0, .null]))]) [2] rfl
    have hKc := hK.sub (tys' := []) [] rfl
    have hDc := hD.sub (ws' := [(q45, .inr (9, [.int 0, .int 0, .null]))]) [2] (by decide) rfl
    have hFc := va_free (wc := [(q45, .inr (9, [.int 0, .int 0, .null]))]) hD hS hA [2] rfl
    refine va_callv (va_runI (As := [.int i, .int (nI pid)]) (rest := [.ref q45, .ref d]) ⟨hx, hb, hml, hown, hts⟩ (c_Draft_init l D B0 hG H.size q45 e0 i (nI pid) he0) (z_cI hN wd_899 wd_84 wd_897 hd_Draft_init rfl rfl ⟨Nat.le_of_ble_eq_true rfl, Nat.le_of_ble_eq_true rfl⟩ wd_898 rfl) (z_preSo hPc hKc hN hDc hO hS hAO) rfl rfl hl.1 rfl (lv_room (Nat.le_of_ble_eq_true rfl)) d_SS_plan_51 ⟨Nat.le_of_ble_eq_true rfl, Nat.le_of_ble_eq_true rfl⟩) hS (fun q _ h => hFc q h) hFc (fun q51 t H locs ht hvm e51 hB hz1 hk1 hS => ?_)
    obtain ⟨hP1, hK1, hD1⟩ := hB
    rw [ht] at hP1
    obtain ⟨hP, hD⟩ := va_joinQ (cx := [(q45, .inr (9, [.int 0, .int 0, .null]))]) (wr := [(h, .inr (11, [.ref rc, .ref d])), (d, .inr (12, [.ref e0, .int 0, .int mo]))]) (w1 := [(q45, .inr (9, [.int i, .int (nI pid), .ref q51])), (q51, .inr (12, [.ref e0, .int 0, .int 0]))]) hP hD [2] [0, 1] rfl rfl (by decide) (by decide) hk1 hFc hP1 hD1
    clear hk1 hP1 hD1 hFc hPc hDc hz1
    have hP : va_P D classes ([(h, .inr (11, [.ref rc, .ref d])), (d, .inr (12, [.ref e0, .int 0, .int mo])), (q45, .inr (9, [.int i, .int (nI pid), .ref q51])), (q51, .inr (12, [.ref e0, .int 0, .int 0]))] ++ Q) H := hP
    have hD : va_D A ([(h, .inr (11, [.ref rc, .ref d])), (d, .inr (12, [.ref e0, .int 0, .int mo])), (q45, .inr (9, [.int i, .int (nI pid), .ref q51])), (q51, .inr (12, [.ref e0, .int 0, .int 0]))] ++ Q) := hD
    have hPc := hP.sub (ws' := [(d, .inr (12, [.ref e0, .int 0, .int mo])), (q45, .inr (9, [.int i, .int (nI pid), .ref q51]))]) [1, 2] rfl
    have hKc := hK.sub (tys' := [(cO, .object "java/lang/Object")]) [0] rfl
    have hDc := hD.sub (ws' := [(d, .inr (12, [.ref e0, .int 0, .int mo])), (q45, .inr (9, [.int i, .int (nI pid), .ref q51]))]) [1, 2] (by decide) rfl
    have hFc := va_free (wc := [(d, .inr (12, [.ref e0, .int 0, .int mo])), (q45, .inr (9, [.int i, .int (nI pid), .ref q51]))]) hD hS hA [1, 2] rfl
    refine va_calli (va_runV (As := [.ref q45]) (rest := []) ⟨hx, hb, hml, hown, hts⟩ (c_AL_add0e l D B0 hG H.size cO d e0 mo q45 9 [.int i, .int (nI pid), .ref q51] (R_Draft, F_Draft, 3) he0 rfl wd_1503) (z_cV hN wd_465 wd_66 wd_918 hd_AL_add0 rfl rfl ⟨Nat.le_of_ble_eq_true rfl, Nat.le_of_ble_eq_true rfl⟩ wd_463 wd_464) (z_preVo (va_recv (ci := 12) (q0 := 1) hK hP rfl rfl) hPc hKc hN hDc hO hS hAO) rfl rfl hl.1 rfl (lv_room (Nat.le_of_ble_eq_true rfl)) d_SS_plan_54 ⟨Nat.le_of_ble_eq_true rfl, Nat.le_of_ble_eq_true rfl⟩) hS (fun q _ h => hFc q h) hFc (fun r54 q54 t H locs ht hvm e54 hB hz1 hk1 hS => ?_)
    obtain ⟨hP1, hK1, hD1⟩ := hB
    rw [ht] at hP1
    obtain ⟨hP, hD⟩ := va_joinQ (cx := [(d, .inr (12, [.ref e0, .int 0, .int mo])), (q45, .inr (9, [.int i, .int (nI pid), .ref q51]))]) (wr := [(h, .inr (11, [.ref rc, .ref d])), (q51, .inr (12, [.ref e0, .int 0, .int 0]))]) (w1 := [(d, .inr (12, [.ref q54, .int 1, .int (mo + 1)])), (q54, .inl (cO, 10, .inr (.inr (.inr (.inr (va_up (fun _ => none) 0 (some q45))))))), (q45, .inr (9, [.int i, .int (nI pid), .ref q51]))]) hP hD [1, 2] [0, 3] rfl rfl (by decide) (by decide) hk1 hFc hP1 hD1
    clear hk1 hP1 hD1 hFc hPc hDc hz1
    have hP : va_P D classes ([(h, .inr (11, [.ref rc, .ref d])), (q51, .inr (12, [.ref e0, .int 0, .int 0])), (d, .inr (12, [.ref q54, .int 1, .int (mo + 1)])), (q54, .inl (cO, 10, .inr (.inr (.inr (.inr (va_up (fun _ => none) 0 (some q45))))))), (q45, .inr (9, [.int i, .int (nI pid), .ref q51]))] ++ Q) H := hP
    have hD : va_D A ([(h, .inr (11, [.ref rc, .ref d])), (q51, .inr (12, [.ref e0, .int 0, .int 0])), (d, .inr (12, [.ref q54, .int 1, .int (mo + 1)])), (q54, .inl (cO, 10, .inr (.inr (.inr (.inr (va_up (fun _ => none) 0 (some q45))))))), (q45, .inr (9, [.int i, .int (nI pid), .ref q51]))] ++ Q) := hD
    refine lv_pop hx hb d_SS_plan_57 rfl ?_
    refine lv_aload_n hx hb d_SS_plan_58 rfl (lv_at hl 0 rfl) ?_
    refine va_get (D := D) (ci := 11) (v := .ref d) (C := R_SS) (T := F_SS) (N := 2) hx hb hts i_SS hown hK hP 0 rfl rfl 1 (by decide) (hts _ wd_199) (fun _ h9 => h9) rfl d_SS_plan_59 ?_
    have hPc := hP.sub (ws' := [(d, .inr (12, [.ref q54, .int 1, .int (mo + 1)]))]) [2] rfl
    have hKc := hK.sub (tys' := []) [] rfl
    refine z_ci (va_runV (As := []) (rest := []) ⟨hx, hb, hml, hown, hts⟩ (c_AL_size l D d q54 1 (mo + 1) ) (z_cV hN wd_305 wd_66 wd_820 hd_AL_size rfl rfl ⟨Nat.le_of_ble_eq_true rfl, Nat.le_of_ble_eq_true rfl⟩ wd_303 wd_304) (z_preV (va_recv (ci := 12) (q0 := 2) hK hP rfl rfl) hPc hKc hN) rfl rfl hl.1 rfl (lv_room (Nat.le_of_ble_eq_true rfl)) d_SS_plan_62 ⟨Nat.le_of_ble_eq_true rfl, Nat.le_of_ble_eq_true rfl⟩) (fun r62 e62 => ?_)
    refine z_topi (w := 1) e62 ?_
    have hP := hP.part (cx := [(h, .inr (11, [.ref rc, .ref d])), (d, .inr (12, [.ref q54, .int 1, .int (mo + 1)])), (q54, .inl (cO, 10, .inr (.inr (.inr (.inr (va_up (fun _ => none) 0 (some q45))))))), (q45, .inr (9, [.int i, .int (nI pid), .ref q51])), (q51, .inr (12, [.ref e0, .int 0, .int 0]))]) [0, 2, 3, 4, 1] rfl
    have hD := hD.part (cx := [(h, .inr (11, [.ref rc, .ref d])), (d, .inr (12, [.ref q54, .int 1, .int (mo + 1)])), (q54, .inl (cO, 10, .inr (.inr (.inr (.inr (va_up (fun _ => none) 0 (some q45))))))), (q45, .inr (9, [.int i, .int (nI pid), .ref q51])), (q51, .inr (12, [.ref e0, .int 0, .int 0]))]) [0, 2, 3, 4, 1] (by decide) rfl
    have hP := z_Pp (df_in (X := [(h, .inr (11, [.ref rc, .ref d]))]) (L := ([] : List DR9)) (x := (q45, i, pid, q51, [], 0, none))) (show va_P D classes ([(h, .inr (11, [.ref rc, .ref d]))] ++ (wlc cO e0 d (([] : List DR9).length + 1) (mo + 1) (some (q54, va_up (fun _ => none) 0 (some q45))) ++ (drc cO e0 (q45, i, pid, q51, [], 0, none) ++ (([] : List DR9).flatMap (drc cO e0) ++ Q)))) H from hP)
    have hD := z_Dp (df_in (X := [(h, .inr (11, [.ref rc, .ref d]))]) (L := ([] : List DR9)) (x := (q45, i, pid, q51, [], 0, none))) (show va_D A ([(h, .inr (11, [.ref rc, .ref d]))] ++ (wlc cO e0 d (([] : List DR9).length + 1) (mo + 1) (some (q54, va_up (fun _ => none) 0 (some q45))) ++ (drc cO e0 (q45, i, pid, q51, [], 0, none) ++ (([] : List DR9).flatMap (drc cO e0) ++ Q)))) from hD)
    have hP : va_P D classes ([(h, .inr (11, [.ref rc, .ref d]))] ++ (dfl cO e0 d ((([] : List DR9) ++ [(q45, i, pid, q51, [], 0, none)]).length) (mo + 1) (some (q54, va_up (fun _ => none) 0 (some q45))) (([] : List DR9) ++ [(q45, i, pid, q51, [], 0, none)]) ++ Q)) H := hP
    have hD : va_D A ([(h, .inr (11, [.ref rc, .ref d]))] ++ (dfl cO e0 d ((([] : List DR9) ++ [(q45, i, pid, q51, [], 0, none)]).length) (mo + 1) (some (q54, va_up (fun _ => none) 0 (some q45))) (([] : List DR9) ++ [(q45, i, pid, q51, [], 0, none)]) ++ Q)) := hD
    have hP9 := hP.part (cx := [(h, .inr (11, [.ref rc, .ref d]))]) [0] rfl
    have hD9 := hD.part (cx := [(h, .inr (11, [.ref rc, .ref d]))]) [0] (by decide) rfl
    have hK9 := hK.sub (tys' := [(cO, .object "java/lang/Object")]) [0] rfl
    refine W.widen (k := 3) (n := 16) (by omega) (by omega) ?_
    exact W.mono MQ.toT (W.iret (v := 1) hx hb hr (fun t ht hW => Or.inl ⟨_, (some (q54, va_up (fun _ => none) 0 (some q45)), q45, q51), rfl, ⟨rfl, dtk_app (L := ([] : List DR9)) (x := (q45, i, pid, q51, [], 0, none)) (by show 0 < 4; omega) (fun j hj => absurd hj (Nat.not_lt_zero j)) (fun y hy => by cases hy) ⟨hpid, rfl, Nat.zero_le _⟩⟩, ⟨by rw [ht]; exact hP9, va_K.moved hW.alike hK9, hD9⟩, hS.F ht⟩) hS.2.2 d_SS_plan_65)
  | some dq =>
    have hd9 : ∀ j, j < DL.length → dq.2 j = some (DL.getD j dr0).1 := hdt.2.1
    have hd4 := hdt.1
    have hP := z_Pp (df_out (X := [(h, .inr (11, [.ref rc, .ref d]))])) hP
    have hD := z_Dp (df_out (X := [(h, .inr (11, [.ref rc, .ref d]))])) hD
    have hP : va_P D classes ([(h, .inr (11, [.ref rc, .ref d])), (d, .inr (12, [.ref dq.1, .int (nI DL.length), .int mo])), (dq.1, .inl (cO, 10, .inr (.inr (.inr (.inr dq.2)))))] ++ (DL.flatMap (drc cO e0) ++ Q)) s.heap := hP
    have hD : va_D A ([(h, .inr (11, [.ref rc, .ref d])), (d, .inr (12, [.ref dq.1, .int (nI DL.length), .int mo])), (dq.1, .inl (cO, 10, .inr (.inr (.inr (.inr dq.2)))))] ++ (DL.flatMap (drc cO e0) ++ Q)) := hD
    refine lv_aload_n hx hb d_SS_plan_28 rfl (lv_at hl 0 rfl) ?_
    refine va_get (D := D) (ci := 11) (v := .ref d) (C := R_SS) (T := F_SS) (N := 2) hx hb hts i_SS hown hK hP 0 rfl rfl 1 (by decide) (hts _ wd_199) (fun _ h9 => h9) rfl d_SS_plan_29 ?_
    have hPc := hP.sub (ws' := [(d, .inr (12, [.ref dq.1, .int (nI DL.length), .int mo]))]) [1] rfl
    have hKc := hK.sub (tys' := []) [] rfl
    refine z_ci (va_runV (As := []) (rest := []) ⟨hx, hb, hml, hown, hts⟩ (c_AL_size l D d dq.1 (nI DL.length) mo ) (z_cV hN wd_305 wd_66 wd_820 hd_AL_size rfl rfl ⟨Nat.le_of_ble_eq_true rfl, Nat.le_of_ble_eq_true rfl⟩ wd_303 wd_304) (z_preV (va_recv (ci := 12) (q0 := 1) hK hP rfl rfl) hPc hKc hN) rfl rfl hl.1 rfl (lv_room (Nat.le_of_ble_eq_true rfl)) d_SS_plan_32 ⟨Nat.le_of_ble_eq_true rfl, Nat.le_of_ble_eq_true rfl⟩) (fun r32 e32 => ?_)
    refine z_topi (w := (nI DL.length)) e32 ?_
    refine lv_iconst (v := 4) hx hb d_SS_plan_35 (by decide) ?_
    refine lv_icmp_lt (tgt := 41) hx hb d_SS_plan_36 rfl (fun h36 => ?_) (fun h9 => absurd (nI_lt (b := 4) hlt (by decide)) h9)
    refine lv_aload_n hx hb d_SS_plan_41 rfl (lv_at hl 0 rfl) ?_
    refine va_get (D := D) (ci := 11) (v := .ref d) (C := R_SS) (T := F_SS) (N := 2) hx hb hts i_SS hown hK hP 0 rfl rfl 1 (by decide) (hts _ wd_199) (fun _ h9 => h9) rfl d_SS_plan_42 ?_
    refine va_new (ci := 9) (fs := [.int 0, .int 0, .null]) (C := R_Draft) (T := F_Draft) (N := 3) hx hb hts i_Draft t_Draft t_Draft_ok hown (hts _ wd_895) (hts _ wd_896) (hts _ wd_84) hK hP hD hS hA rfl (fs_Draft) (by show 0 + 1 ≤ 3; omega) (by show 0 + 3 ≤ 16; omega) d_SS_plan_45 (fun q45 H hP hD hS => ?_)
    have hP := hP.swap
    have hD := hD.swap
    have hP : va_P D classes ([(h, .inr (11, [.ref rc, .ref d])), (d, .inr (12, [.ref dq.1, .int (nI DL.length), .int mo])), (dq.1, .inl (cO, 10, .inr (.inr (.inr (.inr dq.2))))), (q45, .inr (9, [.int 0, .int 0, .null]))] ++ (DL.flatMap (drc cO e0) ++ Q)) H := hP
    have hD : va_D A ([(h, .inr (11, [.ref rc, .ref d])), (d, .inr (12, [.ref dq.1, .int (nI DL.length), .int mo])), (dq.1, .inl (cO, 10, .inr (.inr (.inr (.inr dq.2))))), (q45, .inr (9, [.int 0, .int 0, .null]))] ++ (DL.flatMap (drc cO e0) ++ Q)) := hD
    refine lv_dup hx hb d_SS_plan_48 rfl ?_
    refine lv_iload_n hx hb d_SS_plan_49 rfl (lv_at hl 1 rfl) ?_
    refine lv_iload_n hx hb d_SS_plan_50 rfl (lv_at hl 2 rfl) ?_
    have hPc := hP.sub (ws' := [(q45, .inr (9, [.int 0, .int 0, .null]))]) [3] rfl
    have hKc := hK.sub (tys' := []) [] rfl
    have hDc := hD.sub (ws' := [(q45, .inr (9, [.int 0, .int 0, .null]))]) [3] (by decide) rfl
    have hFc := va_free (wc := [(q45, .inr (9, [.int 0, .int 0, .null]))]) hD hS hA [3] rfl
    refine va_callv (va_runI (As := [.int i, .int (nI pid)]) (rest := [.ref q45, .ref d]) ⟨hx, hb, hml, hown, hts⟩ (c_Draft_init l D B0 hG H.size q45 e0 i (nI pid) he0) (z_cI hN wd_899 wd_84 wd_897 hd_Draft_init rfl rfl ⟨Nat.le_of_ble_eq_true rfl, Nat.le_of_ble_eq_true rfl⟩ wd_898 rfl) (z_preSo hPc hKc hN hDc hO hS hAO) rfl rfl hl.1 rfl (lv_room (Nat.le_of_ble_eq_true rfl)) d_SS_plan_51 ⟨Nat.le_of_ble_eq_true rfl, Nat.le_of_ble_eq_true rfl⟩) hS (fun q _ h => hFc q h) hFc (fun q51 t H locs ht hvm e51 hB hz1 hk1 hS => ?_)
    obtain ⟨hP1, hK1, hD1⟩ := hB
    rw [ht] at hP1
    obtain ⟨hP, hD⟩ := va_joinQ (cx := [(q45, .inr (9, [.int 0, .int 0, .null]))]) (wr := [(h, .inr (11, [.ref rc, .ref d])), (d, .inr (12, [.ref dq.1, .int (nI DL.length), .int mo])), (dq.1, .inl (cO, 10, .inr (.inr (.inr (.inr dq.2)))))]) (w1 := [(q45, .inr (9, [.int i, .int (nI pid), .ref q51])), (q51, .inr (12, [.ref e0, .int 0, .int 0]))]) hP hD [3] [0, 1, 2] rfl rfl (by decide) (by decide) hk1 hFc hP1 hD1
    clear hk1 hP1 hD1 hFc hPc hDc hz1
    have hP : va_P D classes ([(h, .inr (11, [.ref rc, .ref d])), (d, .inr (12, [.ref dq.1, .int (nI DL.length), .int mo])), (dq.1, .inl (cO, 10, .inr (.inr (.inr (.inr dq.2))))), (q45, .inr (9, [.int i, .int (nI pid), .ref q51])), (q51, .inr (12, [.ref e0, .int 0, .int 0]))] ++ (DL.flatMap (drc cO e0) ++ Q)) H := hP
    have hD : va_D A ([(h, .inr (11, [.ref rc, .ref d])), (d, .inr (12, [.ref dq.1, .int (nI DL.length), .int mo])), (dq.1, .inl (cO, 10, .inr (.inr (.inr (.inr dq.2))))), (q45, .inr (9, [.int i, .int (nI pid), .ref q51])), (q51, .inr (12, [.ref e0, .int 0, .int 0]))] ++ (DL.flatMap (drc cO e0) ++ Q)) := hD
    have hPc := hP.sub (ws' := [(d, .inr (12, [.ref dq.1, .int (nI DL.length), .int mo])), (dq.1, .inl (cO, 10, .inr (.inr (.inr (.inr dq.2))))), (q45, .inr (9, [.int i, .int (nI pid), .ref q51]))]) [1, 2, 3] rfl
    have hKc := hK.sub (tys' := [(cO, .object "java/lang/Object")]) [0] rfl
    have hDc := hD.sub (ws' := [(d, .inr (12, [.ref dq.1, .int (nI DL.length), .int mo])), (dq.1, .inl (cO, 10, .inr (.inr (.inr (.inr dq.2))))), (q45, .inr (9, [.int i, .int (nI pid), .ref q51]))]) [1, 2, 3] (by decide) rfl
    have hFc := va_free (wc := [(d, .inr (12, [.ref dq.1, .int (nI DL.length), .int mo])), (dq.1, .inl (cO, 10, .inr (.inr (.inr (.inr dq.2))))), (q45, .inr (9, [.int i, .int (nI pid), .ref q51]))]) hD hS hA [1, 2, 3] rfl
    refine va_calli (va_runV (As := [.ref q45]) (rest := []) ⟨hx, hb, hml, hown, hts⟩ (c_AL_add0 l D H.size cO d dq.1 DL.length mo dq.2 q45 9 [.int i, .int (nI pid), .ref q51] (R_Draft, F_Draft, 3) (by omega) rfl wd_1503) (z_cV hN wd_465 wd_66 wd_918 hd_AL_add0 rfl rfl ⟨Nat.le_of_ble_eq_true rfl, Nat.le_of_ble_eq_true rfl⟩ wd_463 wd_464) (z_preVm (va_recv (ci := 12) (q0 := 1) hK hP rfl rfl) hPc hKc hN hDc) rfl rfl hl.1 rfl (lv_room (Nat.le_of_ble_eq_true rfl)) d_SS_plan_54 ⟨Nat.le_of_ble_eq_true rfl, Nat.le_of_ble_eq_true rfl⟩) hS (fun q _ h => hFc q h) hFc (fun r54 u54 t H locs ht hvm e54 hB hz1 hk1 hS => ?_)
    obtain ⟨hP1, hK1, hD1⟩ := hB
    rw [ht] at hP1
    obtain ⟨hP, hD⟩ := va_joinQ (cx := [(d, .inr (12, [.ref dq.1, .int (nI DL.length), .int mo])), (dq.1, .inl (cO, 10, .inr (.inr (.inr (.inr dq.2))))), (q45, .inr (9, [.int i, .int (nI pid), .ref q51]))]) (wr := [(h, .inr (11, [.ref rc, .ref d])), (q51, .inr (12, [.ref e0, .int 0, .int 0]))]) (w1 := [(d, .inr (12, [.ref dq.1, .int (nI (DL.length + 1)), .int (mo + 1)])), (dq.1, .inl (cO, 10, .inr (.inr (.inr (.inr (va_up dq.2 DL.length (some q45))))))), (q45, .inr (9, [.int i, .int (nI pid), .ref q51]))]) hP hD [1, 2, 3] [0, 4] rfl rfl (by decide) (by decide) hk1 hFc hP1 hD1
    clear hk1 hP1 hD1 hFc hPc hDc hz1
    have hP : va_P D classes ([(h, .inr (11, [.ref rc, .ref d])), (q51, .inr (12, [.ref e0, .int 0, .int 0])), (d, .inr (12, [.ref dq.1, .int (nI (DL.length + 1)), .int (mo + 1)])), (dq.1, .inl (cO, 10, .inr (.inr (.inr (.inr (va_up dq.2 DL.length (some q45))))))), (q45, .inr (9, [.int i, .int (nI pid), .ref q51]))] ++ (DL.flatMap (drc cO e0) ++ Q)) H := hP
    have hD : va_D A ([(h, .inr (11, [.ref rc, .ref d])), (q51, .inr (12, [.ref e0, .int 0, .int 0])), (d, .inr (12, [.ref dq.1, .int (nI (DL.length + 1)), .int (mo + 1)])), (dq.1, .inl (cO, 10, .inr (.inr (.inr (.inr (va_up dq.2 DL.length (some q45))))))), (q45, .inr (9, [.int i, .int (nI pid), .ref q51]))] ++ (DL.flatMap (drc cO e0) ++ Q)) := hD
    refine lv_pop hx hb d_SS_plan_57 rfl ?_
    refine lv_aload_n hx hb d_SS_plan_58 rfl (lv_at hl 0 rfl) ?_
    refine va_get (D := D) (ci := 11) (v := .ref d) (C := R_SS) (T := F_SS) (N := 2) hx hb hts i_SS hown hK hP 0 rfl rfl 1 (by decide) (hts _ wd_199) (fun _ h9 => h9) rfl d_SS_plan_59 ?_
    have hPc := hP.sub (ws' := [(d, .inr (12, [.ref dq.1, .int (nI (DL.length + 1)), .int (mo + 1)]))]) [2] rfl
    have hKc := hK.sub (tys' := []) [] rfl
    refine z_ci (va_runV (As := []) (rest := []) ⟨hx, hb, hml, hown, hts⟩ (c_AL_size l D d dq.1 (nI (DL.length + 1)) (mo + 1) ) (z_cV hN wd_305 wd_66 wd_820 hd_AL_size rfl rfl ⟨Nat.le_of_ble_eq_true rfl, Nat.le_of_ble_eq_true rfl⟩ wd_303 wd_304) (z_preV (va_recv (ci := 12) (q0 := 2) hK hP rfl rfl) hPc hKc hN) rfl rfl hl.1 rfl (lv_room (Nat.le_of_ble_eq_true rfl)) d_SS_plan_62 ⟨Nat.le_of_ble_eq_true rfl, Nat.le_of_ble_eq_true rfl⟩) (fun r62 e62 => ?_)
    refine z_topi (w := (nI (DL.length + 1))) e62 ?_
    have hP := hP.part (cx := [(h, .inr (11, [.ref rc, .ref d])), (d, .inr (12, [.ref dq.1, .int (nI (DL.length + 1)), .int (mo + 1)])), (dq.1, .inl (cO, 10, .inr (.inr (.inr (.inr (va_up dq.2 DL.length (some q45))))))), (q45, .inr (9, [.int i, .int (nI pid), .ref q51])), (q51, .inr (12, [.ref e0, .int 0, .int 0]))]) [0, 2, 3, 4, 1] rfl
    have hD := hD.part (cx := [(h, .inr (11, [.ref rc, .ref d])), (d, .inr (12, [.ref dq.1, .int (nI (DL.length + 1)), .int (mo + 1)])), (dq.1, .inl (cO, 10, .inr (.inr (.inr (.inr (va_up dq.2 DL.length (some q45))))))), (q45, .inr (9, [.int i, .int (nI pid), .ref q51])), (q51, .inr (12, [.ref e0, .int 0, .int 0]))]) [0, 2, 3, 4, 1] (by decide) rfl
    have hP := z_Pp (df_in (X := [(h, .inr (11, [.ref rc, .ref d]))]) (L := DL) (x := (q45, i, pid, q51, [], 0, none))) (show va_P D classes ([(h, .inr (11, [.ref rc, .ref d]))] ++ (wlc cO e0 d (DL.length + 1) (mo + 1) (some (dq.1, va_up dq.2 DL.length (some q45))) ++ (drc cO e0 (q45, i, pid, q51, [], 0, none) ++ (DL.flatMap (drc cO e0) ++ Q)))) H from hP)
    have hD := z_Dp (df_in (X := [(h, .inr (11, [.ref rc, .ref d]))]) (L := DL) (x := (q45, i, pid, q51, [], 0, none))) (show va_D A ([(h, .inr (11, [.ref rc, .ref d]))] ++ (wlc cO e0 d (DL.length + 1) (mo + 1) (some (dq.1, va_up dq.2 DL.length (some q45))) ++ (drc cO e0 (q45, i, pid, q51, [], 0, none) ++ (DL.flatMap (drc cO e0) ++ Q)))) from hD)
    have hP : va_P D classes ([(h, .inr (11, [.ref rc, .ref d]))] ++ (dfl cO e0 d ((DL ++ [(q45, i, pid, q51, [], 0, none)]).length) (mo + 1) (some (dq.1, va_up dq.2 DL.length (some q45))) (DL ++ [(q45, i, pid, q51, [], 0, none)]) ++ Q)) H := hP
    have hD : va_D A ([(h, .inr (11, [.ref rc, .ref d]))] ++ (dfl cO e0 d ((DL ++ [(q45, i, pid, q51, [], 0, none)]).length) (mo + 1) (some (dq.1, va_up dq.2 DL.length (some q45))) (DL ++ [(q45, i, pid, q51, [], 0, none)]) ++ Q)) := hD
    have hP9 := hP.part (cx := [(h, .inr (11, [.ref rc, .ref d]))]) [0] rfl
    have hD9 := hD.part (cx := [(h, .inr (11, [.ref rc, .ref d]))]) [0] (by decide) rfl
    have hK9 := hK.sub (tys' := [(cO, .object "java/lang/Object")]) [0] rfl
    refine W.widen (k := 3) (n := 16) (by omega) (by omega) ?_
    exact W.mono MQ.toT (W.iret (v := (nI (DL.length + 1))) hx hb hr (fun t ht hW => Or.inl ⟨_, (some (dq.1, va_up dq.2 DL.length (some q45)), q45, q51), rfl, ⟨rfl, dtk_app (L := DL) (x := (q45, i, pid, q51, [], 0, none)) (by omega) hd9 hdt.2.2 ⟨hpid, rfl, Nat.zero_le _⟩⟩, ⟨by rw [ht]; exact hP9, va_K.moved hW.alike hK9, hD9⟩, hS.F ht⟩) hS.2.2 d_SS_plan_65)
set_option maxHeartbeats 4000000 in
set_option maxRecDepth 100000 in
theorem c_SS_addStream_badN (l : Launch) (D : va_G) (hfl : l.stackTraces = false) (B0 : State) (hG : zG B0) (sz : Nat) (h rc d e0 : Nat) (cO : ClassId) (mo : Int32) (dst : Option (Nat × (Nat → Option Nat))) (DL : List DR9) (Q Im : va_W) (k ty c : Int32) (he0 : zE0 B0 e0) (hdt : dtk Im dst DL) (hIm : ∀ y ∈ Im, y ∈ Q) (hk : k < 0 ∨ ¬ k < nI DL.length) : MetT l y_SS_addStream [Cond.code y_SS_addStream b_SS_addStream 5 (some .int)] ({ frames := 6, cells := 1, slots := 6, locals := 82 }) (zMo [.ref h, .int k, .int ty, .int c] D ([(h, .inr (11, [.ref rc, .ref d]))] ++ (dfl cO e0 d DL.length mo dst DL ++ Q)) [(cO, .object "java/lang/Object")] sz B0) (zQi (fun _ (_ : Unit) => False) (fun (_u : Unit) t => zW D (va_A ([(h, .inr (11, [.ref rc, .ref d]))] ++ (dfl cO e0 d DL.length mo dst DL ++ Q)) sz) ([(h, .inr (11, [.ref rc, .ref d]))] ++ (dfl cO e0 d DL.length mo dst DL ++ Q)) [(cO, .object "java/lang/Object")] t) (va_A ([(h, .inr (11, [.ref rc, .ref d]))] ++ (dfl cO e0 d DL.length mo dst DL ++ Q)) sz) (fun X => X = xB)) 1 6 (va_A ([(h, .inr (11, [.ref rc, .ref d]))] ++ (dfl cO e0 d DL.length mo dst DL ++ Q)) sz) := by
  refine MetT.ofW (cc := b_SS_addStream) (maxL := 5) (ret := (some .int)) (by decide) rfl ?_
  intro p e s m args below meth cd s₁ Bd hml hem hv
  obtain ⟨rfl, hsz, hP, hK, hN, hD0, hO⟩ := hv
  have hx := Bd.exec
  have hb := Bd.bytes
  have hr := Bd.returns
  have hts := hN.use (a := ([.ref h, .int k, .int ty, .int c]).toArray)
  have hown : s.vm.findClass R_SS = some m.cls := findClass_of_methodNamed Bd.named
  have hlocks := Bd.notSynchronized
  subst hsz
  have hD := hD0.self (sz := s.heap.size)
  have hAO := z_AO hD0 hO
  clear hD0
  have hA : ∀ q : Nat, s.heap.size ≤ q → va_A ([(h, .inr (11, [.ref rc, .ref d]))] ++ (dfl cO e0 d DL.length mo dst DL ++ Q)) s.heap.size q := fun q h => Or.inr h
  have hS : va_S (va_A ([(h, .inr (11, [.ref rc, .ref d]))] ++ (dfl cO e0 d DL.length mo dst DL ++ Q)) s.heap.size) s.heap s.heap [] := va_S.rf
  generalize hAe : va_A ([(h, .inr (11, [.ref rc, .ref d]))] ++ (dfl cO e0 d DL.length mo dst DL ++ Q)) s.heap.size = A at hD hA hS hAO ⊢
  have hP : va_P D classes ([(h, .inr (11, [.ref rc, .ref d]))] ++ (dfl cO e0 d DL.length mo dst DL ++ Q)) s.heap := hP
  have hl := lv_entry ([.ref h, .int k, .int ty, .int c]) (n := 5) (Nat.le_of_ble_eq_true rfl)
  rw [lg_entry_eq]
  generalize (lg_sl ([.ref h, .int k, .int ty, .int c]) ++ List.replicate (5 - (lg_sl ([.ref h, .int k, .int ty, .int c])).length) Slot.unset).toArray = ls at hl ⊢
  have hl : lv_has ls 5 [(0, .ref h), (1, .int k), (2, .int ty), (3, .int c)] := hl
  refine lv_iload_n hx hb d_SS_addStream_0 rfl (lv_at hl 1 rfl) ?_
  refine lv_if_lt (tgt := 15) hx hb d_SS_addStream_1 rfl (fun h1 => ?_) (fun h1 => ?_)
  · refine W.newc hx hb hown (hts _ wd_775) (hts _ wd_776) (hts _ wd_72) rfl d_SS_addStream_15 (by show 0 + 1 ≤ 1; omega) (by show 0 + 6 ≤ 6; omega) (fun cX kX hfX hkX _ _ => ?_)
    refine W.eq (g2 := F0 m 18 ls [.ref s.heap.size]) rfl ?_
    refine W.widen (k := 1) (n := 6) (by omega) (by omega) ?_
    refine lv_dup hx hb d_SS_addStream_18 rfl ?_
    refine z_ldcs hx hb hown (z_str hG hO (List.mem_of_getElem? (i := 926) (by decide +kernel) : (Jvm.Cond.stringRef "StreamSplitter" (218 : Nat) "there is no such programme") ∈ lw_tbl)) d_SS_addStream_19 (fun msg => ?_)
    exact z_throw (X := xB) (names := ["java/lang/RuntimeException", "java/lang/Exception"]) hx hb hfl hown (by decide) z_fits (fun a ha => z_oa hG hO (z_oaB a ha)) hem (by rw [hml]; exact hl.1) hfX hkX z_pushAt (Nat.le_refl _) d_SS_addStream_21 d_SS_addStream_24 (Nat.le_of_ble_eq_true rfl) (Nat.le_of_ble_eq_true rfl) hlocks (fun t ht hW => Or.inr ⟨xB, _, rfl, rfl, ht⟩)
  · refine lv_iload_n hx hb d_SS_addStream_4 rfl (lv_at hl 1 rfl) ?_
    refine lv_aload_n hx hb d_SS_addStream_5 rfl (lv_at hl 0 rfl) ?_
    refine va_get (D := D) (ci := 11) (v := .ref d) (C := R_SS) (T := F_SS) (N := 2) hx hb hts i_SS hown hK hP 0 rfl rfl 1 (by decide) (hts _ wd_199) (fun _ h9 => h9) rfl d_SS_addStream_6 ?_
    obtain ⟨b9, hm9⟩ := df_memL (X := [(h, .inr (11, [.ref rc, .ref d]))]) (cO := cO) (e0 := e0) (d := d) (n := DL.length) (mo := mo) (dst := dst) (L := DL) (Q := Q)
    obtain ⟨q9, hq9⟩ := List.getElem?_of_mem hm9
    have hPc : va_P D classes [(d, .inr (12, [.ref b9, .int (nI DL.length), .int mo]))] s.heap := z_Pm1 hm9 hP
    have hKc := hK.sub (tys' := []) [] rfl
    refine z_ci (va_runV (As := []) (rest := [.int k]) ⟨hx, hb, hml, hown, hts⟩ (c_AL_size l D d b9 (nI DL.length) mo ) (z_cV hN wd_305 wd_66 wd_820 hd_AL_size rfl rfl ⟨Nat.le_of_ble_eq_true rfl, Nat.le_of_ble_eq_true rfl⟩ wd_303 wd_304) (z_preV (va_recv (ci := 12) (q0 := q9) hK hP rfl hq9) hPc hKc hN) rfl rfl hl.1 rfl (lv_room (Nat.le_of_ble_eq_true rfl)) d_SS_addStream_9 ⟨Nat.le_of_ble_eq_true rfl, Nat.le_of_ble_eq_true rfl⟩) (fun r9 e9 => ?_)
    refine z_topi (w := (nI DL.length)) e9 ?_
    refine lv_icmp_lt (tgt := 25) hx hb d_SS_addStream_12 rfl (fun h12 => ?_) (fun h12 => ?_)
    · exact absurd hk (fun z => z.elim h1 (fun q => q h12))
    · refine W.newc hx hb hown (hts _ wd_775) (hts _ wd_776) (hts _ wd_72) rfl d_SS_addStream_15 (by show 0 + 1 ≤ 1; omega) (by show 0 + 6 ≤ 6; omega) (fun cX kX hfX hkX _ _ => ?_)
      refine W.eq (g2 := F0 m 18 ls [.ref s.heap.size]) rfl ?_
      refine W.widen (k := 1) (n := 6) (by omega) (by omega) ?_
      refine lv_dup hx hb d_SS_addStream_18 rfl ?_
      refine z_ldcs hx hb hown (z_str hG hO (List.mem_of_getElem? (i := 926) (by decide +kernel) : (Jvm.Cond.stringRef "StreamSplitter" (218 : Nat) "there is no such programme") ∈ lw_tbl)) d_SS_addStream_19 (fun msg => ?_)
      exact z_throw (X := xB) (names := ["java/lang/RuntimeException", "java/lang/Exception"]) hx hb hfl hown (by decide) z_fits (fun a ha => z_oa hG hO (z_oaB a ha)) hem (by rw [hml]; exact hl.1) hfX hkX z_pushAt (Nat.le_refl _) d_SS_addStream_21 d_SS_addStream_24 (Nat.le_of_ble_eq_true rfl) (Nat.le_of_ble_eq_true rfl) hlocks (fun t ht hW => Or.inr ⟨xB, _, rfl, rfl, ht⟩)
set_option maxHeartbeats 4000000 in
set_option maxRecDepth 100000 in
theorem c_SS_addStream_badA (l : Launch) (D : va_G) (hfl : l.stackTraces = false) (B0 : State) (hG : zG B0) (sz : Nat) (h rc d e0 : Nat) (cO : ClassId) (mo : Int32) (dst : Option (Nat × (Nat → Option Nat))) (DL : List DR9) (Q Im : va_W) (k : Nat) (ty c : Int32) (he0 : zE0 B0 e0) (hdt : dtk Im dst DL) (hIm : ∀ y ∈ Im, y ∈ Q) (hk : k < DL.length) (hbad : ty < 0 ∨ 255 < ty ∨ c < 0 ∨ 8191 < c) : MetT l y_SS_addStream [Cond.code y_SS_addStream b_SS_addStream 5 (some .int)] ({ frames := 6, cells := 1, slots := 6, locals := 82 }) (zMo [.ref h, .int (nI k), .int ty, .int c] D ([(h, .inr (11, [.ref rc, .ref d]))] ++ (dfl cO e0 d DL.length mo dst DL ++ Q)) [(cO, .object "java/lang/Object")] sz B0) (zQi (fun _ (_ : Unit) => False) (fun (_u : Unit) t => zW D (va_A ([(h, .inr (11, [.ref rc, .ref d]))] ++ (dfl cO e0 d DL.length mo dst DL ++ Q)) sz) ([(h, .inr (11, [.ref rc, .ref d]))] ++ (dfl cO e0 d DL.length mo dst DL ++ Q)) [(cO, .object "java/lang/Object")] t) (va_A ([(h, .inr (11, [.ref rc, .ref d]))] ++ (dfl cO e0 d DL.length mo dst DL ++ Q)) sz) (fun X => X = xA)) 1 6 (va_A ([(h, .inr (11, [.ref rc, .ref d]))] ++ (dfl cO e0 d DL.length mo dst DL ++ Q)) sz) := by
  refine MetT.ofW (cc := b_SS_addStream) (maxL := 5) (ret := (some .int)) (by decide) rfl ?_
  intro p e s m args below meth cd s₁ Bd hml hem hv
  obtain ⟨rfl, hsz, hP, hK, hN, hD0, hO⟩ := hv
  have hx := Bd.exec
  have hb := Bd.bytes
  have hr := Bd.returns
  have hts := hN.use (a := ([.ref h, .int (nI k), .int ty, .int c]).toArray)
  have hown : s.vm.findClass R_SS = some m.cls := findClass_of_methodNamed Bd.named
  have hlocks := Bd.notSynchronized
  subst hsz
  have hD := hD0.self (sz := s.heap.size)
  have hAO := z_AO hD0 hO
  clear hD0
  have hA : ∀ q : Nat, s.heap.size ≤ q → va_A ([(h, .inr (11, [.ref rc, .ref d]))] ++ (dfl cO e0 d DL.length mo dst DL ++ Q)) s.heap.size q := fun q h => Or.inr h
  have hS : va_S (va_A ([(h, .inr (11, [.ref rc, .ref d]))] ++ (dfl cO e0 d DL.length mo dst DL ++ Q)) s.heap.size) s.heap s.heap [] := va_S.rf
  generalize hAe : va_A ([(h, .inr (11, [.ref rc, .ref d]))] ++ (dfl cO e0 d DL.length mo dst DL ++ Q)) s.heap.size = A at hD hA hS hAO ⊢
  have hP : va_P D classes ([(h, .inr (11, [.ref rc, .ref d]))] ++ (dfl cO e0 d DL.length mo dst DL ++ Q)) s.heap := hP
  have hl := lv_entry ([.ref h, .int (nI k), .int ty, .int c]) (n := 5) (Nat.le_of_ble_eq_true rfl)
  rw [lg_entry_eq]
  generalize (lg_sl ([.ref h, .int (nI k), .int ty, .int c]) ++ List.replicate (5 - (lg_sl ([.ref h, .int (nI k), .int ty, .int c])).length) Slot.unset).toArray = ls at hl ⊢
  have hl : lv_has ls 5 [(0, .ref h), (1, .int (nI k)), (2, .int ty), (3, .int c)] := hl
  refine lv_iload_n hx hb d_SS_addStream_0 rfl (lv_at hl 1 rfl) ?_
  refine lv_if_lt (tgt := 15) hx hb d_SS_addStream_1 rfl (fun h9 => absurd h9 (nI_pos (by have := hdt.1; omega))) (fun h1 => ?_)
  refine lv_iload_n hx hb d_SS_addStream_4 rfl (lv_at hl 1 rfl) ?_
  refine lv_aload_n hx hb d_SS_addStream_5 rfl (lv_at hl 0 rfl) ?_
  refine va_get (D := D) (ci := 11) (v := .ref d) (C := R_SS) (T := F_SS) (N := 2) hx hb hts i_SS hown hK hP 0 rfl rfl 1 (by decide) (hts _ wd_199) (fun _ h9 => h9) rfl d_SS_addStream_6 ?_
  obtain ⟨b9, hm9⟩ := df_memL (X := [(h, .inr (11, [.ref rc, .ref d]))]) (cO := cO) (e0 := e0) (d := d) (n := DL.length) (mo := mo) (dst := dst) (L := DL) (Q := Q)
  obtain ⟨q9, hq9⟩ := List.getElem?_of_mem hm9
  have hPc : va_P D classes [(d, .inr (12, [.ref b9, .int (nI DL.length), .int mo]))] s.heap := z_Pm1 hm9 hP
  have hKc := hK.sub (tys' := []) [] rfl
  refine z_ci (va_runV (As := []) (rest := [.int (nI k)]) ⟨hx, hb, hml, hown, hts⟩ (c_AL_size l D d b9 (nI DL.length) mo ) (z_cV hN wd_305 wd_66 wd_820 hd_AL_size rfl rfl ⟨Nat.le_of_ble_eq_true rfl, Nat.le_of_ble_eq_true rfl⟩ wd_303 wd_304) (z_preV (va_recv (ci := 12) (q0 := q9) hK hP rfl hq9) hPc hKc hN) rfl rfl hl.1 rfl (lv_room (Nat.le_of_ble_eq_true rfl)) d_SS_addStream_9 ⟨Nat.le_of_ble_eq_true rfl, Nat.le_of_ble_eq_true rfl⟩) (fun r9 e9 => ?_)
  refine z_topi (w := (nI DL.length)) e9 ?_
  refine lv_icmp_lt (tgt := 25) hx hb d_SS_addStream_12 rfl (fun h12 => ?_) (fun h9 => absurd (nI_lt hk (by have := hdt.1; omega)) h9)
  refine lv_iload_n hx hb d_SS_addStream_25 rfl (lv_at hl 2 rfl) ?_
  refine lv_if_lt (tgt := 43) hx hb d_SS_addStream_26 rfl (fun h26 => ?_) (fun h26 => ?_)
  · refine W.newc hx hb hown (hts _ wd_700) (hts _ wd_701) (hts _ wd_71) rfl d_SS_addStream_43 (by show 0 + 1 ≤ 1; omega) (by show 0 + 6 ≤ 6; omega) (fun cX kX hfX hkX _ _ => ?_)
    refine W.eq (g2 := F0 m 46 ls [.ref s.heap.size]) rfl ?_
    refine W.widen (k := 1) (n := 6) (by omega) (by omega) ?_
    refine lv_dup hx hb d_SS_addStream_46 rfl ?_
    refine z_ldcs hx hb hown (z_str hG hO (List.mem_of_getElem? (i := 927) (by decide +kernel) : (Jvm.Cond.stringRef "StreamSplitter" (220 : Nat) "type is not 0 .. 255, or pid not 0 .. 8191") ∈ lw_tbl)) d_SS_addStream_47 (fun msg => ?_)
    exact z_throw (X := xA) (names := ["java/lang/RuntimeException", "java/lang/Exception"]) hx hb hfl hown (by decide) z_fits (fun a ha => z_oa hG hO (z_oaA a ha)) hem (by rw [hml]; exact hl.1) hfX hkX z_pushAt (Nat.le_refl _) d_SS_addStream_49 d_SS_addStream_52 (Nat.le_of_ble_eq_true rfl) (Nat.le_of_ble_eq_true rfl) hlocks (fun t ht hW => Or.inr ⟨xA, _, rfl, rfl, ht⟩)
  · refine lv_iload_n hx hb d_SS_addStream_29 rfl (lv_at hl 2 rfl) ?_
    refine lv_sipush (v := 255) hx hb d_SS_addStream_30 (by decide) ?_
    refine lv_icmp_gt (tgt := 43) hx hb d_SS_addStream_33 rfl (fun h33 => ?_) (fun h33 => ?_)
    · refine W.newc hx hb hown (hts _ wd_700) (hts _ wd_701) (hts _ wd_71) rfl d_SS_addStream_43 (by show 0 + 1 ≤ 1; omega) (by show 0 + 6 ≤ 6; omega) (fun cX kX hfX hkX _ _ => ?_)
      refine W.eq (g2 := F0 m 46 ls [.ref s.heap.size]) rfl ?_
      refine W.widen (k := 1) (n := 6) (by omega) (by omega) ?_
      refine lv_dup hx hb d_SS_addStream_46 rfl ?_
      refine z_ldcs hx hb hown (z_str hG hO (List.mem_of_getElem? (i := 927) (by decide +kernel) : (Jvm.Cond.stringRef "StreamSplitter" (220 : Nat) "type is not 0 .. 255, or pid not 0 .. 8191") ∈ lw_tbl)) d_SS_addStream_47 (fun msg => ?_)
      exact z_throw (X := xA) (names := ["java/lang/RuntimeException", "java/lang/Exception"]) hx hb hfl hown (by decide) z_fits (fun a ha => z_oa hG hO (z_oaA a ha)) hem (by rw [hml]; exact hl.1) hfX hkX z_pushAt (Nat.le_refl _) d_SS_addStream_49 d_SS_addStream_52 (Nat.le_of_ble_eq_true rfl) (Nat.le_of_ble_eq_true rfl) hlocks (fun t ht hW => Or.inr ⟨xA, _, rfl, rfl, ht⟩)
    · refine lv_iload_n hx hb d_SS_addStream_36 rfl (lv_at hl 3 rfl) ?_
      have hPc := hP.sub (ws' := []) [] rfl
      have hKc := hK.sub (tys' := []) [] rfl
      refine z_ci (va_runS (As := [.int c]) (rest := []) ⟨hx, hb, hml, hown, hts⟩ (c_SS_isNoPid l D c ) (z_cS hN wd_883 wd_59 wd_881 hd_SS_isNoPid rfl rfl ⟨Nat.le_of_ble_eq_true rfl, Nat.le_of_ble_eq_true rfl⟩ wd_882) (z_preS hPc hKc hN) rfl rfl hl.1 rfl (lv_room (Nat.le_of_ble_eq_true rfl)) d_SS_addStream_37 ⟨Nat.le_of_ble_eq_true rfl, Nat.le_of_ble_eq_true rfl⟩) (fun r37 e37 => ?_)
      subst e37
      refine lv_if_eq (tgt := 53) hx hb d_SS_addStream_40 rfl (fun h40 => ?_) (fun h40 => ?_)
      · exact absurd hbad (fun z => z.elim h26 (fun z => z.elim h33 (pd_ok rfl h40)))
      · refine W.newc hx hb hown (hts _ wd_700) (hts _ wd_701) (hts _ wd_71) rfl d_SS_addStream_43 (by show 0 + 1 ≤ 1; omega) (by show 0 + 6 ≤ 6; omega) (fun cX kX hfX hkX _ _ => ?_)
        refine W.eq (g2 := F0 m 46 ls [.ref s.heap.size]) rfl ?_
        refine W.widen (k := 1) (n := 6) (by omega) (by omega) ?_
        refine lv_dup hx hb d_SS_addStream_46 rfl ?_
        refine z_ldcs hx hb hown (z_str hG hO (List.mem_of_getElem? (i := 927) (by decide +kernel) : (Jvm.Cond.stringRef "StreamSplitter" (220 : Nat) "type is not 0 .. 255, or pid not 0 .. 8191") ∈ lw_tbl)) d_SS_addStream_47 (fun msg => ?_)
        exact z_throw (X := xA) (names := ["java/lang/RuntimeException", "java/lang/Exception"]) hx hb hfl hown (by decide) z_fits (fun a ha => z_oa hG hO (z_oaA a ha)) hem (by rw [hml]; exact hl.1) hfX hkX z_pushAt (Nat.le_refl _) d_SS_addStream_49 d_SS_addStream_52 (Nat.le_of_ble_eq_true rfl) (Nat.le_of_ble_eq_true rfl) hlocks (fun t ht hW => Or.inr ⟨xA, _, rfl, rfl, ht⟩)
set_option maxHeartbeats 4000000 in
set_option maxRecDepth 100000 in
theorem c_SS_addStream_full (l : Launch) (D : va_G) (hfl : l.stackTraces = false) (B0 : State) (hG : zG B0) (sz : Nat) (h rc d e0 : Nat) (cO : ClassId) (mo : Int32) (dst : Option (Nat × (Nat → Option Nat))) (DL : List DR9) (Q Im : va_W) (k : Nat) (ty : Int32) (pid : Nat) (he0 : zE0 B0 e0) (hdt : dtk Im dst DL) (hIm : ∀ y ∈ Im, y ∈ Q) (hk : k < DL.length) (hok : ¬ (ty < 0 ∨ 255 < ty ∨ nI pid < 0 ∨ 8191 < nI pid)) (hpid : pid < 8192) (hge : (DL.getD k dr0).2.2.2.2.1.length = 4) : MetT l y_SS_addStream [Cond.code y_SS_addStream b_SS_addStream 5 (some .int)] ({ frames := 3, cells := 3, slots := 16, locals := 64 }) (zMo [.ref h, .int (nI k), .int ty, .int (nI pid)] D ([(h, .inr (11, [.ref rc, .ref d]))] ++ (dfl cO e0 d DL.length mo dst DL ++ Q)) [(cO, .object "java/lang/Object")] sz B0) (zQi (fun r0 (_ : Unit) => r0 = -1) (fun (_u : Unit) t => zW D (va_A ([(h, .inr (11, [.ref rc, .ref d]))] ++ (dfl cO e0 d DL.length mo dst DL ++ Q)) sz) ([(h, .inr (11, [.ref rc, .ref d]))] ++ (dfl cO e0 d DL.length mo dst DL ++ Q)) [(cO, .object "java/lang/Object")] t) (va_A ([(h, .inr (11, [.ref rc, .ref d]))] ++ (dfl cO e0 d DL.length mo dst DL ++ Q)) sz) (fun _ => False)) 3 16 (va_A ([(h, .inr (11, [.ref rc, .ref d]))] ++ (dfl cO e0 d DL.length mo dst DL ++ Q)) sz) := by
  refine MetT.ofW (cc := b_SS_addStream) (maxL := 5) (ret := (some .int)) (by decide) rfl ?_
  intro p e s m args below meth cd s₁ Bd hml hem hv
  obtain ⟨rfl, hsz, hP, hK, hN, hD0, hO⟩ := hv
  have hx := Bd.exec
  have hb := Bd.bytes
  have hr := Bd.returns
  have hts := hN.use (a := ([.ref h, .int (nI k), .int ty, .int (nI pid)]).toArray)
  have hown : s.vm.findClass R_SS = some m.cls := findClass_of_methodNamed Bd.named
  have hlocks := Bd.notSynchronized
  subst hsz
  have hD := hD0.self (sz := s.heap.size)
  have hAO := z_AO hD0 hO
  clear hD0
  have hA : ∀ q : Nat, s.heap.size ≤ q → va_A ([(h, .inr (11, [.ref rc, .ref d]))] ++ (dfl cO e0 d DL.length mo dst DL ++ Q)) s.heap.size q := fun q h => Or.inr h
  have hS : va_S (va_A ([(h, .inr (11, [.ref rc, .ref d]))] ++ (dfl cO e0 d DL.length mo dst DL ++ Q)) s.heap.size) s.heap s.heap [] := va_S.rf
  generalize hAe : va_A ([(h, .inr (11, [.ref rc, .ref d]))] ++ (dfl cO e0 d DL.length mo dst DL ++ Q)) s.heap.size = A at hD hA hS hAO ⊢
  have hP : va_P D classes ([(h, .inr (11, [.ref rc, .ref d]))] ++ (dfl cO e0 d DL.length mo dst DL ++ Q)) s.heap := hP
  have hl := lv_entry ([.ref h, .int (nI k), .int ty, .int (nI pid)]) (n := 5) (Nat.le_of_ble_eq_true rfl)
  rw [lg_entry_eq]
  generalize (lg_sl ([.ref h, .int (nI k), .int ty, .int (nI pid)]) ++ List.replicate (5 - (lg_sl ([.ref h, .int (nI k), .int ty, .int (nI pid)])).length) Slot.unset).toArray = ls at hl ⊢
  have hl : lv_has ls 5 [(0, .ref h), (1, .int (nI k)), (2, .int ty), (3, .int (nI pid))] := hl
  refine lv_iload_n hx hb d_SS_addStream_0 rfl (lv_at hl 1 rfl) ?_
  refine lv_if_lt (tgt := 15) hx hb d_SS_addStream_1 rfl (fun h9 => absurd h9 (nI_pos (by have := hdt.1; omega))) (fun h1 => ?_)
  refine lv_iload_n hx hb d_SS_addStream_4 rfl (lv_at hl 1 rfl) ?_
  refine lv_aload_n hx hb d_SS_addStream_5 rfl (lv_at hl 0 rfl) ?_
  refine va_get (D := D) (ci := 11) (v := .ref d) (C := R_SS) (T := F_SS) (N := 2) hx hb hts i_SS hown hK hP 0 rfl rfl 1 (by decide) (hts _ wd_199) (fun _ h9 => h9) rfl d_SS_addStream_6 ?_
  obtain ⟨b9, hm9⟩ := df_memL (X := [(h, .inr (11, [.ref rc, .ref d]))]) (cO := cO) (e0 := e0) (d := d) (n := DL.length) (mo := mo) (dst := dst) (L := DL) (Q := Q)
  obtain ⟨q9, hq9⟩ := List.getElem?_of_mem hm9
  have hPc : va_P D classes [(d, .inr (12, [.ref b9, .int (nI DL.length), .int mo]))] s.heap := z_Pm1 hm9 hP
  have hKc := hK.sub (tys' := []) [] rfl
  refine z_ci (va_runV (As := []) (rest := [.int (nI k)]) ⟨hx, hb, hml, hown, hts⟩ (c_AL_size l D d b9 (nI DL.length) mo ) (z_cV hN wd_305 wd_66 wd_820 hd_AL_size rfl rfl ⟨Nat.le_of_ble_eq_true rfl, Nat.le_of_ble_eq_true rfl⟩ wd_303 wd_304) (z_preV (va_recv (ci := 12) (q0 := q9) hK hP rfl hq9) hPc hKc hN) rfl rfl hl.1 rfl (lv_room (Nat.le_of_ble_eq_true rfl)) d_SS_addStream_9 ⟨Nat.le_of_ble_eq_true rfl, Nat.le_of_ble_eq_true rfl⟩) (fun r9 e9 => ?_)
  refine z_topi (w := (nI DL.length)) e9 ?_
  refine lv_icmp_lt (tgt := 25) hx hb d_SS_addStream_12 rfl (fun h12 => ?_) (fun h9 => absurd (nI_lt hk (by have := hdt.1; omega)) h9)
  refine lv_iload_n hx hb d_SS_addStream_25 rfl (lv_at hl 2 rfl) ?_
  refine lv_if_lt (tgt := 43) hx hb d_SS_addStream_26 rfl (fun h9 => absurd (Or.inl h9) hok) (fun h26 => ?_)
  refine lv_iload_n hx hb d_SS_addStream_29 rfl (lv_at hl 2 rfl) ?_
  refine lv_sipush (v := 255) hx hb d_SS_addStream_30 (by decide) ?_
  refine lv_icmp_gt (tgt := 43) hx hb d_SS_addStream_33 rfl (fun h9 => absurd (Or.inr (Or.inl h9)) hok) (fun h33 => ?_)
  refine lv_iload_n hx hb d_SS_addStream_36 rfl (lv_at hl 3 rfl) ?_
  have hPc := hP.sub (ws' := []) [] rfl
  have hKc := hK.sub (tys' := []) [] rfl
  refine z_ci (va_runS (As := [.int (nI pid)]) (rest := []) ⟨hx, hb, hml, hown, hts⟩ (c_SS_isNoPid l D (nI pid) ) (z_cS hN wd_883 wd_59 wd_881 hd_SS_isNoPid rfl rfl ⟨Nat.le_of_ble_eq_true rfl, Nat.le_of_ble_eq_true rfl⟩ wd_882) (z_preS hPc hKc hN) rfl rfl hl.1 rfl (lv_room (Nat.le_of_ble_eq_true rfl)) d_SS_addStream_37 ⟨Nat.le_of_ble_eq_true rfl, Nat.le_of_ble_eq_true rfl⟩) (fun r37 e37 => ?_)
  subst e37
  refine lv_if_eq (tgt := 53) hx hb d_SS_addStream_40 rfl (fun h40 => ?_) (fun h9 => absurd (Or.inr (Or.inr (pd_bad rfl h9))) hok)
  refine lv_aload_n hx hb d_SS_addStream_53 rfl (lv_at hl 0 rfl) ?_
  refine va_get (D := D) (ci := 11) (v := .ref d) (C := R_SS) (T := F_SS) (N := 2) hx hb hts i_SS hown hK hP 0 rfl rfl 1 (by decide) (hts _ wd_199) (fun _ h9 => h9) rfl d_SS_addStream_54 ?_
  refine lv_iload_n hx hb d_SS_addStream_57 rfl (lv_at hl 1 rfl) ?_
  obtain ⟨x, hxe⟩ : ∃ x : DR9, x = DL.getD k dr0 := ⟨_, rfl⟩
  have hxm := d_mem hk
  have hxd := hdt.2.2 _ hxm
  rw [← hxe] at hxm hxd
  have hdm : (x.1, drE x) ∈ ([(h, .inr (11, [.ref rc, .ref d]))] ++ (dfl cO e0 d DL.length mo dst DL ++ Q)) := df_memD hxm List.mem_cons_self
  obtain ⟨q1, hq1⟩ := List.getElem?_of_mem hdm
  obtain ⟨sb, hsb⟩ := wl_mem cO e0 x.2.2.2.1 x.2.2.2.2.1.length x.2.2.2.2.2.1 x.2.2.2.2.2.2
  have hsm : (x.2.2.2.1, alE sb x.2.2.2.2.1.length x.2.2.2.2.2.1) ∈ ([(h, .inr (11, [.ref rc, .ref d]))] ++ (dfl cO e0 d DL.length mo dst DL ++ Q)) := df_memD hxm (List.mem_cons_of_mem _ hsb)
  obtain ⟨q2, hq2⟩ := List.getElem?_of_mem hsm
  obtain ⟨b8, g8, hl8, ha8, hg8⟩ : ∃ b8 g8, (d, alE b8 DL.length mo) ∈ ([(h, .inr (11, [.ref rc, .ref d]))] ++ (dfl cO e0 d DL.length mo dst DL ++ Q)) ∧ (b8, arE cO g8) ∈ ([(h, .inr (11, [.ref rc, .ref d]))] ++ (dfl cO e0 d DL.length mo dst DL ++ Q)) ∧ g8 k = some x.1 := by
    have h2 := hdt.2.1
    cases dst with
    | none => rw [show DL = [] from h2] at hk; exact absurd hk (Nat.not_lt_zero k)
    | some q => exact ⟨q.1, q.2, List.mem_append_right _ (List.mem_append_left _ (List.mem_append_left _ List.mem_cons_self)), List.mem_append_right _ (List.mem_append_left _ (List.mem_append_left _ (List.mem_cons_of_mem _ List.mem_cons_self))), by rw [hxe]; exact (show ∀ j, j < DL.length → q.2 j = some (DL.getD j dr0).1 from h2) k hk⟩
  have hd4 := hdt.1
  have hPc : va_P D classes [(d, .inr (12, [.ref b8, .int (nI DL.length), .int mo])), (b8, .inl (cO, 10, .inr (.inr (.inr (.inr g8)))))] s.heap := z_Pm2 hl8 ha8 hP
  have hKc := hK.sub (tys' := [(cO, .object "java/lang/Object")]) [0] rfl
  refine z_cq (va_runV (As := [.int (nI k)]) (rest := []) ⟨hx, hb, hml, hown, hts⟩ (c_AL_get l D cO d b8 DL.length mo g8 k hk (by omega)) (z_cV hN wd_309 wd_66 wd_841 hd_AL_get rfl rfl ⟨Nat.le_of_ble_eq_true rfl, Nat.le_of_ble_eq_true rfl⟩ wd_307 wd_308) (z_preV (va_recv (ci := 12) (q0 := q9) hK hP rfl hq9) hPc hKc hN) rfl rfl hl.1 rfl (lv_room (Nat.le_of_ble_eq_true rfl)) d_SS_addStream_58 ⟨Nat.le_of_ble_eq_true rfl, Nat.le_of_ble_eq_true rfl⟩) (fun r58 e58 => ?_)
  subst e58
  refine z_topq (w := some x.1) hg8 ?_
  refine va_castY hx hb hown (hts _ wd_895) (hN _ wd_1488) (va_recv (ci := 9) (q0 := q1) hK hP rfl hq1) d_SS_addStream_61 ?_
  refine va_getN (D := D) (ci := 9) (v := .ref x.2.2.2.1) (C := R_Draft) (T := F_Draft) (N := 3) hx hb hts i_Draft hown hK hP q1 hq1 rfl 2 (by decide) (hts _ wd_910) (fun _ h9 => h9) rfl d_SS_addStream_64 ?_
  refine lv_astore (lv' := [(4, .ref x.2.2.2.1), (0, .ref h), (1, .int (nI k)), (2, .int ty), (3, .int (nI pid))]) hx hb d_SS_addStream_67 hl (by decide) rfl (fun ls hl => ?_)
  refine lv_aload hx hb d_SS_addStream_69 (lv_at hl 0 rfl) ?_
  have hPc : va_P D classes [(x.2.2.2.1, .inr (12, [.ref sb, .int (nI x.2.2.2.2.1.length), .int x.2.2.2.2.2.1]))] s.heap := z_Pm1 hsm hP
  have hKc := hK.sub (tys' := []) [] rfl
  refine z_ci (va_runV (As := []) (rest := []) ⟨hx, hb, hml, hown, hts⟩ (c_AL_size l D x.2.2.2.1 sb (nI x.2.2.2.2.1.length) x.2.2.2.2.2.1 ) (z_cV hN wd_305 wd_66 wd_820 hd_AL_size rfl rfl ⟨Nat.le_of_ble_eq_true rfl, Nat.le_of_ble_eq_true rfl⟩ wd_303 wd_304) (z_preV (va_recv (ci := 12) (q0 := q2) hK hP rfl hq2) hPc hKc hN) rfl rfl hl.1 rfl (lv_room (Nat.le_of_ble_eq_true rfl)) d_SS_addStream_71 ⟨Nat.le_of_ble_eq_true rfl, Nat.le_of_ble_eq_true rfl⟩) (fun r71 e71 => ?_)
  refine z_topi (w := (nI x.2.2.2.2.1.length)) e71 ?_
  refine lv_iconst (v := 4) hx hb d_SS_addStream_74 (by decide) ?_
  refine lv_icmp_lt (tgt := 80) hx hb d_SS_addStream_75 rfl (fun h9 => absurd h9 (by rw [hxe, hge]; decide)) (fun h75 => ?_)
  refine lv_iconst (v := (-1)) hx hb d_SS_addStream_78 (by decide) ?_
  have hP9 := hP.part (cx := [(h, .inr (11, [.ref rc, .ref d]))]) [0] rfl
  have hD9 := hD.part (cx := [(h, .inr (11, [.ref rc, .ref d]))]) [0] (by decide) rfl
  have hK9 := hK.sub (tys' := [(cO, .object "java/lang/Object")]) [0] rfl
  refine W.widen (k := 3) (n := 16) (by omega) (by omega) ?_
  exact W.mono MQ.toT (W.iret (v := (-1)) hx hb hr (fun t ht hW => Or.inl ⟨_, (), rfl, rfl, ⟨by rw [ht]; exact hP9, va_K.moved hW.alike hK9, hD9⟩, hS.F ht⟩) hS.2.2 d_SS_addStream_79)
