theorem wd_83 : (Jvm.Cond.initialized "StreamSplitter$Stream") ∈ lw_ok := List.mem_filter.mpr ⟨List.mem_of_getElem? (i := 83) (by decide +kernel), rfl⟩
theorem wd_620 : (Jvm.Cond.methodLink "StreamSplitter$Tables" (86 : Nat) ({ cls := "java/util/ArrayList", name := "add", desc := "(Ljava/lang/Object;)Z" } : Jvm.MethodName)) ∈ lw_ok := List.mem_filter.mpr ⟨List.mem_of_getElem? (i := 620) (by decide +kernel), rfl⟩
theorem wd_628 : (Jvm.Cond.classLink "StreamSplitter$Tables" (47 : Nat) "StreamSplitter$Stream") ∈ lw_ok := List.mem_filter.mpr ⟨List.mem_of_getElem? (i := 628) (by decide +kernel), rfl⟩
theorem wd_630 : (Jvm.Cond.methodLink "StreamSplitter$Tables" (103 : Nat) ({ cls := "StreamSplitter$Stream", name := "<init>", desc := "(II)V" } : Jvm.MethodName)) ∈ lw_ok := List.mem_filter.mpr ⟨List.mem_of_getElem? (i := 630) (by decide +kernel), rfl⟩
theorem wd_631 : (Jvm.Cond.instanceMethod ({ cls := "StreamSplitter$Stream", name := "<init>", desc := "(II)V" } : Jvm.MethodName)) ∈ lw_ok := List.mem_filter.mpr ⟨List.mem_of_getElem? (i := 631) (by decide +kernel), rfl⟩
set_option maxRecDepth 100000 in
theorem wd_632 : (Jvm.Cond.code ({ cls := "StreamSplitter$Stream", name := "<init>", desc := "(II)V" } : Jvm.MethodName) prog_10_method_1_code (3 : Nat) (Option.none : Option Jvm.ClassFile.FieldType)) ∈ lw_ok := List.mem_filter.mpr ⟨List.mem_of_getElem? (i := 632) (by rfl), rfl⟩
theorem wd_1502 : (Jvm.Cond.castable "StreamSplitter$Stream" "java/lang/Object") ∈ lw_ok := List.mem_filter.mpr ⟨List.mem_of_getElem? (i := 1502) (by decide +kernel), rfl⟩
theorem hd_Stream_init : y_Stream_init.cls ≠ "java/lang/invoke/MethodHandle" ∧ y_Stream_init.cls ≠ "java/lang/invoke/VarHandle" ∧ (parseMethodDescriptor y_Stream_init.desc).map (fun d => d.parameters.length) = some 2 := by decide +kernel
theorem d_Tables_streamsOf_0 : decode b_Tables_streamsOf 0 = .ok (.new 15, 3) := by decide +kernel
theorem d_Tables_streamsOf_3 : decode b_Tables_streamsOf 3 = .ok (.dup, 1) := by decide +kernel
theorem d_Tables_streamsOf_4 : decode b_Tables_streamsOf 4 = .ok (.invokespecial 17, 3) := by decide +kernel
theorem d_Tables_streamsOf_7 : decode b_Tables_streamsOf 7 = .ok (.astore_n 1, 1) := by decide +kernel
theorem d_Tables_streamsOf_8 : decode b_Tables_streamsOf 8 = .ok (.bipush 12, 2) := by decide +kernel
theorem d_Tables_streamsOf_10 : decode b_Tables_streamsOf 10 = .ok (.aload_n 0, 1) := by decide +kernel
theorem d_Tables_streamsOf_11 : decode b_Tables_streamsOf 11 = .ok (.bipush 84, 2) := by decide +kernel
theorem d_Tables_streamsOf_13 : decode b_Tables_streamsOf 13 = .ok (.bipush 12, 2) := by decide +kernel
theorem d_Tables_streamsOf_15 : decode b_Tables_streamsOf 15 = .ok (.invokevirtual 61, 3) := by decide +kernel
theorem d_Tables_streamsOf_18 : decode b_Tables_streamsOf 18 = .ok (.l2i, 1) := by decide +kernel
theorem d_Tables_streamsOf_19 : decode b_Tables_streamsOf 19 = .ok (.iadd, 1) := by decide +kernel
theorem d_Tables_streamsOf_20 : decode b_Tables_streamsOf 20 = .ok (.istore_n 2, 1) := by decide +kernel
theorem d_Tables_streamsOf_21 : decode b_Tables_streamsOf 21 = .ok (.iload_n 2, 1) := by decide +kernel
theorem d_Tables_streamsOf_22 : decode b_Tables_streamsOf 22 = .ok (.iconst 5, 1) := by decide +kernel
theorem d_Tables_streamsOf_23 : decode b_Tables_streamsOf 23 = .ok (.iadd, 1) := by decide +kernel
theorem d_Tables_streamsOf_24 : decode b_Tables_streamsOf 24 = .ok (.aload_n 0, 1) := by decide +kernel
theorem d_Tables_streamsOf_25 : decode b_Tables_streamsOf 25 = .ok (.getfield 73, 3) := by decide +kernel
theorem d_Tables_streamsOf_28 : decode b_Tables_streamsOf 28 = .ok (.if_icmp .gt 64, 3) := by decide +kernel
theorem d_Tables_streamsOf_31 : decode b_Tables_streamsOf 31 = .ok (.aload_n 1, 1) := by decide +kernel
theorem d_Tables_streamsOf_32 : decode b_Tables_streamsOf 32 = .ok (.invokevirtual 22, 3) := by decide +kernel
theorem d_Tables_streamsOf_35 : decode b_Tables_streamsOf 35 = .ok (.iconst 4, 1) := by decide +kernel
theorem d_Tables_streamsOf_36 : decode b_Tables_streamsOf 36 = .ok (.if_icmp .ge 56, 3) := by decide +kernel
theorem d_Tables_streamsOf_39 : decode b_Tables_streamsOf 39 = .ok (.aload_n 1, 1) := by decide +kernel
theorem d_Tables_streamsOf_40 : decode b_Tables_streamsOf 40 = .ok (.new 47, 3) := by decide +kernel
theorem d_Tables_streamsOf_43 : decode b_Tables_streamsOf 43 = .ok (.dup, 1) := by decide +kernel
theorem d_Tables_streamsOf_44 : decode b_Tables_streamsOf 44 = .ok (.aload_n 0, 1) := by decide +kernel
theorem d_Tables_streamsOf_45 : decode b_Tables_streamsOf 45 = .ok (.iload_n 2, 1) := by decide +kernel
theorem d_Tables_streamsOf_46 : decode b_Tables_streamsOf 46 = .ok (.invokevirtual 51, 3) := by decide +kernel
theorem d_Tables_streamsOf_49 : decode b_Tables_streamsOf 49 = .ok (.aload_n 0, 1) := by decide +kernel
theorem d_Tables_streamsOf_50 : decode b_Tables_streamsOf 50 = .ok (.bipush 8, 2) := by decide +kernel
theorem d_Tables_streamsOf_52 : decode b_Tables_streamsOf 52 = .ok (.iload_n 2, 1) := by decide +kernel
theorem d_Tables_streamsOf_53 : decode b_Tables_streamsOf 53 = .ok (.imul, 1) := by decide +kernel
theorem d_Tables_streamsOf_54 : decode b_Tables_streamsOf 54 = .ok (.bipush 11, 2) := by decide +kernel
theorem d_Tables_streamsOf_56 : decode b_Tables_streamsOf 56 = .ok (.iadd, 1) := by decide +kernel
theorem d_Tables_streamsOf_57 : decode b_Tables_streamsOf 57 = .ok (.bipush 13, 2) := by decide +kernel
theorem d_Tables_streamsOf_59 : decode b_Tables_streamsOf 59 = .ok (.invokevirtual 61, 3) := by decide +kernel
theorem d_Tables_streamsOf_62 : decode b_Tables_streamsOf 62 = .ok (.l2i, 1) := by decide +kernel
theorem d_Tables_streamsOf_63 : decode b_Tables_streamsOf 63 = .ok (.invokespecial 103, 3) := by decide +kernel
theorem d_Tables_streamsOf_66 : decode b_Tables_streamsOf 66 = .ok (.invokevirtual 86, 3) := by decide +kernel
theorem d_Tables_streamsOf_69 : decode b_Tables_streamsOf 69 = .ok (.pop, 1) := by decide +kernel
theorem d_Tables_streamsOf_70 : decode b_Tables_streamsOf 70 = .ok (.iload_n 2, 1) := by decide +kernel
theorem d_Tables_streamsOf_71 : decode b_Tables_streamsOf 71 = .ok (.iconst 5, 1) := by decide +kernel
theorem d_Tables_streamsOf_72 : decode b_Tables_streamsOf 72 = .ok (.aload_n 0, 1) := by decide +kernel
theorem d_Tables_streamsOf_73 : decode b_Tables_streamsOf 73 = .ok (.bipush 8, 2) := by decide +kernel
theorem d_Tables_streamsOf_75 : decode b_Tables_streamsOf 75 = .ok (.iload_n 2, 1) := by decide +kernel
theorem d_Tables_streamsOf_76 : decode b_Tables_streamsOf 76 = .ok (.imul, 1) := by decide +kernel
theorem d_Tables_streamsOf_77 : decode b_Tables_streamsOf 77 = .ok (.bipush 28, 2) := by decide +kernel
theorem d_Tables_streamsOf_79 : decode b_Tables_streamsOf 79 = .ok (.iadd, 1) := by decide +kernel
theorem d_Tables_streamsOf_80 : decode b_Tables_streamsOf 80 = .ok (.bipush 12, 2) := by decide +kernel
theorem d_Tables_streamsOf_82 : decode b_Tables_streamsOf 82 = .ok (.invokevirtual 61, 3) := by decide +kernel
theorem d_Tables_streamsOf_85 : decode b_Tables_streamsOf 85 = .ok (.l2i, 1) := by decide +kernel
theorem d_Tables_streamsOf_86 : decode b_Tables_streamsOf 86 = .ok (.iadd, 1) := by decide +kernel
theorem d_Tables_streamsOf_87 : decode b_Tables_streamsOf 87 = .ok (.iadd, 1) := by decide +kernel
theorem d_Tables_streamsOf_88 : decode b_Tables_streamsOf 88 = .ok (.istore_n 2, 1) := by decide +kernel
theorem d_Tables_streamsOf_89 : decode b_Tables_streamsOf 89 = .ok (.goto (-68), 3) := by decide +kernel
theorem d_Tables_streamsOf_92 : decode b_Tables_streamsOf 92 = .ok (.iload_n 2, 1) := by decide +kernel
theorem d_Tables_streamsOf_93 : decode b_Tables_streamsOf 93 = .ok (.aload_n 0, 1) := by decide +kernel
theorem d_Tables_streamsOf_94 : decode b_Tables_streamsOf 94 = .ok (.getfield 73, 3) := by decide +kernel
theorem d_Tables_streamsOf_97 : decode b_Tables_streamsOf 97 = .ok (.if_icmp .ne 7, 3) := by decide +kernel
theorem d_Tables_streamsOf_100 : decode b_Tables_streamsOf 100 = .ok (.aload_n 1, 1) := by decide +kernel
theorem d_Tables_streamsOf_101 : decode b_Tables_streamsOf 101 = .ok (.goto 4, 3) := by decide +kernel
theorem d_Tables_streamsOf_104 : decode b_Tables_streamsOf 104 = .ok (.aconst_null, 1) := by decide +kernel
theorem d_Tables_streamsOf_105 : decode b_Tables_streamsOf 105 = .ok (.areturn, 1) := by decide +kernel
/-! The streams of a plan -/
def soL (f : Nat → Int32) (n : Nat) : Nat → Nat → List (Int32 × Nat) × Nat
  | 0, i => ([], i)
  | m + 1, i => if n < i + 5 then ([], i) else ((nI (rbN f n 1024 i), bN f n 1024 (8 * i + 11) 13) :: (soL f n m (i + (5 + bN f n 1024 (8 * i + 28) 12))).1, (soL f n m (i + (5 + bN f n 1024 (8 * i + 28) 12))).2)
def soR (f : Nat → Int32) (n : Nat) : List (Int32 × Nat) × Nat := soL f n 4 (12 + bN f n 1024 84 12)
def soX (f : Nat → Int32) (n i : Nat) : Int32 × Nat := (nI (rbN f n 1024 i), bN f n 1024 (8 * i + 11) 13)
def scn (sst : Option (Nat × (Nat → Option Nat))) : Nat := match sst with
  | none => 0
  | some _ => 1
def sok (ex : va_W) (sst : Option (Nat × (Nat → Option Nat))) (S : List (Int32 × Nat)) : Prop := match sst with
  | none => S = []
  | some q => ∀ j, j < S.length → ∃ a, q.2 j = some a ∧ (a, smE (S.getD j (0, 0)).1 (S.getD j (0, 0)).2) ∈ ex ∧ (S.getD j (0, 0)).2 < 8192
def kpC (n : Nat) : Nat := if n < 17 then 1 else 6
def kpS (n : Nat) : Nat := if n < 17 then 3 else 21
theorem kpC_pos (n : Nat) : 1 ≤ kpC n ∧ 3 ≤ kpS n := by
  unfold kpC kpS
  split <;> exact ⟨by omega, by omega⟩
theorem kpC_17 {n : Nat} (h : 17 ≤ n) : kpC n = 6 ∧ kpS n = 21 := ⟨if_neg (by omega), if_neg (by omega)⟩
theorem so_end {f : Nat → Int32} {n i m : Nat} {S : List (Int32 × Nat)} (h : (S ++ (soL f n m i).1, (soL f n m i).2) = soR f n) (he : m = 0 ∨ n < i + 5) : soR f n = (S, i) := by
  rw [← h]
  rcases he with q | q
  · subst q; exact Prod.ext (List.append_nil _) rfl
  · cases m with
    | zero => exact Prod.ext (List.append_nil _) rfl
    | succ m => rw [soL, if_pos q]; exact Prod.ext (List.append_nil _) rfl
theorem so_step {f : Nat → Int32} {n i m : Nat} {S : List (Int32 × Nat)} (h : (S ++ (soL f n (m + 1) i).1, (soL f n (m + 1) i).2) = soR f n) (hi : i + 5 ≤ n) : ((S ++ [soX f n i]) ++ (soL f n m (i + (5 + bN f n 1024 (8 * i + 28) 12))).1, (soL f n m (i + (5 + bN f n 1024 (8 * i + 28) 12))).2) = soR f n := by
  rw [← h, soL, if_neg (by omega), List.append_assoc]
  rfl
theorem sok_add {ex : va_W} {g : Nat → Option Nat} {S : List (Int32 × Nat)} {b a : Nat} {x : Int32 × Nat} (h : ∀ j, j < S.length → ∃ a, g j = some a ∧ (a, smE (S.getD j (0, 0)).1 (S.getD j (0, 0)).2) ∈ ex ∧ (S.getD j (0, 0)).2 < 8192) (hx : x.2 < 8192) : sok ((a, smE x.1 x.2) :: ex) (some (b, va_up g S.length (some a))) (S ++ [x]) := by
  intro j hj
  rw [List.length_append, List.length_singleton] at hj
  by_cases c : j = S.length
  · subst c
    refine ⟨a, va_up_self _ _ _, ?_⟩
    rw [List.getD_eq_getElem?_getD, List.getElem?_append_right (by omega), Nat.sub_self]
    exact ⟨List.mem_cons_self, hx⟩
  · obtain ⟨a2, h1, h2, h3⟩ := h j (by omega)
    refine ⟨a2, by rw [← h1]; exact va_up_ne _ _ c, ?_⟩
    rw [List.getD_eq_getElem?_getD, List.getElem?_append_left (by omega), ← List.getD_eq_getElem?_getD]
    exact ⟨List.mem_cons_of_mem _ h2, h3⟩
theorem so_isS {ex : va_W} {cO : ClassId} {e0 q0 : Nat} {mo : Int32} {sst : Option (Nat × (Nat → Option Nat))} {S : List (Int32 × Nat)} (h : sok ex sst S) (h4 : S.length ≤ 4) : isS (wlc cO e0 q0 S.length mo sst ++ ex) cO q0 S := by
  cases sst with
  | none =>
    obtain rfl : S = [] := h
    exact ⟨e0, mo, fun _ => none, ⟨List.mem_append_left _ List.mem_cons_self, by omega, Or.inl rfl⟩, fun j hj => absurd hj (Nat.not_lt_zero j)⟩
  | some q =>
    refine ⟨q.1, mo, q.2, ⟨List.mem_append_left _ List.mem_cons_self, by omega, Or.inr (List.mem_append_left _ (List.mem_cons_of_mem _ List.mem_cons_self))⟩, fun j hj => ?_⟩
    obtain ⟨a, h1, h2, h3⟩ := h j hj
    exact ⟨a, h1, List.mem_append_right _ h2, h3⟩

set_option maxHeartbeats 16000000 in
set_option maxRecDepth 100000 in
theorem c_Tables_streamsOf (l : Launch) (D : va_G) (B0 : State) (hG : zG B0) (sz : Nat) (cB : ClassId) (h a n : Nat) (f : Nat → Int32) (cO : ClassId) (e0 : Nat) (Q : va_W) (hn : n ≤ 1024) (he0 : zE0 B0 e0) : Met l y_Tables_streamsOf [Cond.code y_Tables_streamsOf b_Tables_streamsOf 3 (some (.object "java/util/ArrayList"))] ({ frames := 5, cells := kpC n, slots := kpS n, locals := 101 }) (zMo [.ref h] D ([(h, .inr (0, [.ref a, .int (nI n)])), (a, .inl (cB, 1024, .inl f))] ++ Q) [(cB, .byte), (cO, .object "java/lang/Object")] sz B0) (va_Qq (fun r (u : List (Int32 × Nat) × va_W) => (¬ (soR f n).2 = n ∧ r = none) ∨ ((soR f n).2 = n ∧ u.1 = (soR f n).1 ∧ ∃ q0, r = some q0 ∧ isS u.2 cO q0 u.1)) (fun (u : List (Int32 × Nat) × va_W) t => zW D (va_A ([(h, .inr (0, [.ref a, .int (nI n)])), (a, .inl (cB, 1024, .inl f))] ++ Q) sz) ([(h, .inr (0, [.ref a, .int (nI n)])), (a, .inl (cB, 1024, .inl f))] ++ (u.2 ++ Q)) [(cB, .byte), (cO, .object "java/lang/Object")] t) (va_A ([(h, .inr (0, [.ref a, .int (nI n)])), (a, .inl (cB, 1024, .inl f))] ++ Q) sz)) (kpC n) (kpS n) (va_A ([(h, .inr (0, [.ref a, .int (nI n)])), (a, .inl (cB, 1024, .inl f))] ++ Q) sz) := by
  refine Met.ofW (cc := b_Tables_streamsOf) (maxL := 3) (ret := (some (.object "java/util/ArrayList"))) (by decide) rfl ?_
  intro p e s m args below meth cd s₁ Bd hml hv
  obtain ⟨rfl, hsz, hP, hK, hN, hD0, hO⟩ := hv
  have hx := Bd.exec
  have hb := Bd.bytes
  have hr := Bd.returns
  have hts := hN.use (a := ([.ref h]).toArray)
  have hown : s.vm.findClass R_Tables = some m.cls := findClass_of_methodNamed Bd.named
  have hlocks := Bd.notSynchronized
  subst hsz
  have hD := hD0.self (sz := s.heap.size)
  have hAO := z_AO hD0 hO
  clear hD0
  have hA : ∀ q : Nat, s.heap.size ≤ q → va_A ([(h, .inr (0, [.ref a, .int (nI n)])), (a, .inl (cB, 1024, .inl f))] ++ Q) s.heap.size q := fun q h => Or.inr h
  have hS : va_S (va_A ([(h, .inr (0, [.ref a, .int (nI n)])), (a, .inl (cB, 1024, .inl f))] ++ Q) s.heap.size) s.heap s.heap [] := va_S.rf
  generalize hAe : va_A ([(h, .inr (0, [.ref a, .int (nI n)])), (a, .inl (cB, 1024, .inl f))] ++ Q) s.heap.size = A at hD hA hS hAO ⊢
  have hP : va_P D classes ([(h, .inr (0, [.ref a, .int (nI n)])), (a, .inl (cB, 1024, .inl f))] ++ Q) s.heap := hP
  have hl := lv_entry ([.ref h]) (n := 3) (Nat.le_of_ble_eq_true rfl)
  rw [lg_entry_eq]
  generalize (lg_sl ([.ref h]) ++ List.replicate (3 - (lg_sl ([.ref h])).length) Slot.unset).toArray = ls at hl ⊢
  have hl : lv_has ls 3 [(0, .ref h)] := hl
  have hb84 := bN_lt f n 1024 84 12
  have hkp := kpC_pos n
  refine va_new (ci := 12) (fs := [.null, .int 0, .int 0]) (C := R_AL) (T := F_AL) (N := 3) hx hb hts i_AL t_AL t_AL_ok hown (hts _ wd_138) (hts _ wd_139) (hts _ wd_66) hK hP hD hS hA rfl (fs_AL) (by show 0 + 1 ≤ kpC n; omega) (by show 0 + 3 ≤ kpS n; omega) d_Tables_streamsOf_0 (fun q0 H hP hD hS => ?_)
  have hP := hP.swap
  have hD := hD.swap
  have hP : va_P D classes ([(h, .inr (0, [.ref a, .int (nI n)])), (a, .inl (cB, 1024, .inl f)), (q0, .inr (12, [.null, .int 0, .int 0]))] ++ Q) H := hP
  have hD : va_D A ([(h, .inr (0, [.ref a, .int (nI n)])), (a, .inl (cB, 1024, .inl f)), (q0, .inr (12, [.null, .int 0, .int 0]))] ++ Q) := hD
  refine lv_dup hx hb d_Tables_streamsOf_3 rfl ?_
  have hPc := hP.sub (ws' := [(q0, .inr (12, [.null, .int 0, .int 0]))]) [2] rfl
  have hKc := hK.sub (tys' := []) [] rfl
  have hDc := hD.sub (ws' := [(q0, .inr (12, [.null, .int 0, .int 0]))]) [2] (by decide) rfl
  have hFc := va_free (wc := [(q0, .inr (12, [.null, .int 0, .int 0]))]) hD hS hA [2] rfl
  refine va_callv (va_runI (As := []) (rest := [.ref q0]) ⟨hx, hb, hml, hown, hts⟩ (c_AL_init l D B0 hG H.size q0 e0 he0) (z_cI hN wd_142 wd_66 wd_140 hd_AL_init rfl rfl ⟨Nat.le_of_ble_eq_true rfl, Nat.le_of_ble_eq_true rfl⟩ wd_141 rfl) (z_preSo hPc hKc hN hDc hO hS hAO) rfl rfl hl.1 rfl (lv_room (Nat.le_of_ble_eq_true rfl)) d_Tables_streamsOf_4 ⟨by show 0 + 1 + 0 ≤ kpC n; omega, by show 0 + 3 + 0 ≤ kpS n; omega⟩) hS (fun q _ h => hFc q h) hFc (fun u4 t H locs ht hvm e4 hB hz1 hk1 hS => ?_)
  obtain ⟨hP1, hK1, hD1⟩ := hB
  rw [ht] at hP1
  obtain ⟨hP, hD⟩ := va_joinQ (cx := [(q0, .inr (12, [.null, .int 0, .int 0]))]) (wr := [(h, .inr (0, [.ref a, .int (nI n)])), (a, .inl (cB, 1024, .inl f))]) (w1 := [(q0, .inr (12, [.ref e0, .int 0, .int 0]))]) hP hD [2] [0, 1] rfl rfl (by decide) (by decide) hk1 hFc hP1 hD1
  clear hk1 hP1 hD1 hFc hPc hDc hz1
  have hP : va_P D classes ([(h, .inr (0, [.ref a, .int (nI n)])), (a, .inl (cB, 1024, .inl f)), (q0, .inr (12, [.ref e0, .int 0, .int 0]))] ++ Q) H := hP
  have hD : va_D A ([(h, .inr (0, [.ref a, .int (nI n)])), (a, .inl (cB, 1024, .inl f)), (q0, .inr (12, [.ref e0, .int 0, .int 0]))] ++ Q) := hD
  refine lv_astore_n (lv' := [(1, .ref q0), (0, .ref h)]) hx hb d_Tables_streamsOf_7 rfl hl (by decide) rfl (fun ls hl => ?_)
  refine lv_bipush (v := 12) hx hb d_Tables_streamsOf_8 (by decide) ?_
  refine lv_aload_n hx hb d_Tables_streamsOf_10 rfl (lv_at hl 1 rfl) ?_
  refine lv_bipush (v := 84) hx hb d_Tables_streamsOf_11 (by decide) ?_
  refine lv_bipush (v := 12) hx hb d_Tables_streamsOf_13 (by decide) ?_
  have hPc := hP.sub (ws' := [(h, .inr (0, [.ref a, .int (nI n)])), (a, .inl (cB, 1024, .inl f))]) [0, 1] rfl
  have hKc := hK.sub (tys' := [(cB, .byte)]) [0] rfl
  refine z_cl (va_runV (As := [.int (nI 84), .int (nI 12)]) (rest := [.int 12]) ⟨hx, hb, hml, hown, hts⟩ (c_Row_bits l D cB h a n 1024 f 84 12 (by omega) (by omega)) (z_cV hN wd_280 wd_61 wd_564 hd_Row_bits rfl rfl ⟨Nat.le_of_ble_eq_true rfl, Nat.le_of_ble_eq_true rfl⟩ wd_278 wd_279) (z_preV (va_recv (ci := 0) (q0 := 0) hK hP rfl rfl) hPc hKc hN) rfl rfl hl.1 rfl (lv_room (Nat.le_of_ble_eq_true rfl)) d_Tables_streamsOf_15 ⟨by show 0 + 1 + 0 ≤ kpC n; omega, by show 0 + 3 + 0 ≤ kpS n; omega⟩) (fun r15 e15 => ?_)
  refine z_topl (w := rw_bits f n 1024 84 12) e15 ?_
  refine lv_l2i (v := (rw_bits f n 1024 84 12).toInt32) hx hb d_Tables_streamsOf_18 rfl ?_
  refine z_topi (w := nI (bN f n 1024 84 12)) (bits_i (by omega)) ?_
  refine lv_iadd hx hb d_Tables_streamsOf_19 ?_
  refine z_topi (w := nI (12 + bN f n 1024 84 12)) (nI_add 12 _) ?_
  refine lv_istore_n (lv' := [(2, .int (nI (12 + bN f n 1024 84 12))), (1, .ref q0), (0, .ref h)]) hx hb d_Tables_streamsOf_20 rfl hl (by decide) rfl (fun ls hl => ?_)
  have hP : va_P D classes ([(h, .inr (0, [.ref a, .int (nI n)])), (a, .inl (cB, 1024, .inl f))] ++ (wlc cO e0 q0 (([] : List (Int32 × Nat)).length) 0 none ++ ([] ++ Q))) H := hP
  have hD : va_D A ([(h, .inr (0, [.ref a, .int (nI n)])), (a, .inl (cB, 1024, .inl f))] ++ (wlc cO e0 q0 (([] : List (Int32 × Nat)).length) 0 none ++ ([] ++ Q))) := hD
  have loop21 : ∀ (N : Nat) (i : Nat) (S : List (Int32 × Nat)) (sst : Option (Nat × (Nat → Option Nat))) (mo1 : Int32) (ex : va_W) (H : Heap) (locs : List Loc) (ls : Array Slot) (hm : 4 - S.length < N) (hi : 12 ≤ i) (hi2 : i ≤ 9999) (hS4 : S.length ≤ 4) (hsk : sok ex sst S) (hs17 : ¬ sst = none → 17 ≤ n) (hrun : (S ++ (soL f n (4 - S.length) i).1, (soL f n (4 - S.length) i).2) = soR f n) (hl : lv_has ls 3 [(0, .ref h), (1, .ref q0), (2, .int (nI i))]) (hP : va_P D classes ([(h, .inr (0, [.ref a, .int (nI n)])), (a, .inl (cB, 1024, .inl f))] ++ (wlc cO e0 q0 S.length mo1 sst ++ (ex ++ Q))) H) (hD : va_D A ([(h, .inr (0, [.ref a, .int (nI n)])), (a, .inl (cB, 1024, .inl f))] ++ (wlc cO e0 q0 S.length mo1 sst ++ (ex ++ Q)))) (hS : va_S A s.heap H locs), W p l e ({ frames := 5, cells := kpC n, slots := kpS n, locals := 101 }) s m ([.ref h]).toArray below meth cd H locs (1 + (scn sst + S.length)) (3 + (10 * scn sst + 2 * S.length)) (MQ below (va_Qq (fun r (u : List (Int32 × Nat) × va_W) => (¬ (soR f n).2 = n ∧ r = none) ∨ ((soR f n).2 = n ∧ u.1 = (soR f n).1 ∧ ∃ q0, r = some q0 ∧ isS u.2 cO q0 u.1)) (fun (u : List (Int32 × Nat) × va_W) t => zW D (A) ([(h, .inr (0, [.ref a, .int (nI n)])), (a, .inl (cB, 1024, .inl f))] ++ (u.2 ++ Q)) [(cB, .byte), (cO, .object "java/lang/Object")] t) (A)) ([.ref h]).toArray s (kpC n) (kpS n) (A)) (F0 m 21 ls []) := by
    intro N21
    induction N21 with
    | zero => intro i S sst mo1 ex H locs ls hm hi hi2 hS4 hsk hs17 hrun hl hP hD hS; exact absurd hm (Nat.not_lt_zero _)
    | succ N21 ih21 =>
      intro i S sst mo1 ex H locs ls hm hi hi2 hS4 hsk hs17 hrun hl hP hD hS
      refine lv_iload_n hx hb d_Tables_streamsOf_21 rfl (lv_at hl 2 rfl) ?_
      cases sst with
      | none =>
        obtain rfl : S = [] := hsk
        have hP : va_P D classes ([(h, .inr (0, [.ref a, .int (nI n)])), (a, .inl (cB, 1024, .inl f)), (q0, .inr (12, [.ref e0, .int 0, .int mo1]))] ++ (ex ++ Q)) H := hP
        have hD : va_D A ([(h, .inr (0, [.ref a, .int (nI n)])), (a, .inl (cB, 1024, .inl f)), (q0, .inr (12, [.ref e0, .int 0, .int mo1]))] ++ (ex ++ Q)) := hD
        refine lv_iconst (v := 5) hx hb d_Tables_streamsOf_22 (by decide) ?_
        refine lv_iadd hx hb d_Tables_streamsOf_23 ?_
        refine z_topi (w := nI (i + 5)) (nI_add _ 5) ?_
        refine lv_aload_n hx hb d_Tables_streamsOf_24 rfl (lv_at hl 0 rfl) ?_
        refine va_getN (D := D) (ci := 0) (v := .int (nI n)) (C := R_Row) (T := F_Row) (N := 2) hx hb hts i_Row hown hK hP 0 rfl rfl 1 (by decide) (hts _ wd_112) (fun _ h9 => h9) rfl d_Tables_streamsOf_25 ?_
        refine lv_icmp_gt (tgt := 92) hx hb d_Tables_streamsOf_28 rfl (fun h28 => ?_) (fun h28 => ?_)
        · have h28 := (nI_ltI (by omega) (by omega)).mp h28
          refine lv_iload_n hx hb d_Tables_streamsOf_92 rfl (lv_at hl 2 rfl) ?_
          refine lv_aload_n hx hb d_Tables_streamsOf_93 rfl (lv_at hl 0 rfl) ?_
          refine va_getN (D := D) (ci := 0) (v := .int (nI n)) (C := R_Row) (T := F_Row) (N := 2) hx hb hts i_Row hown hK hP 0 rfl rfl 1 (by decide) (hts _ wd_112) (fun _ h9 => h9) rfl d_Tables_streamsOf_94 ?_
          refine lv_icmp_ne (tgt := 104) hx hb d_Tables_streamsOf_97 rfl (fun h97 => ?_) (fun h97 => ?_)
          · have h97 : ¬ i = n := fun q => h97 (by rw [q])
            refine lv_null hx hb d_Tables_streamsOf_104 ?_
            have hfin : soR f n = (([] : List (Int32 × Nat)), i) := so_end hrun (by first | exact Or.inr h28 | exact Or.inl (by omega))
            have hP9 := hP.part (cx := [(h, .inr (0, [.ref a, .int (nI n)])), (a, .inl (cB, 1024, .inl f))]) [0, 1] rfl
            have hD9 := hD.part (cx := [(h, .inr (0, [.ref a, .int (nI n)])), (a, .inl (cB, 1024, .inl f))]) [0, 1] (by decide) rfl
            have hK9 := hK.sub (tys' := [(cB, .byte), (cO, .object "java/lang/Object")]) [0, 1] rfl
            refine W.widen (k := kpC n) (n := kpS n) (by have := kpC_pos n; show 1 ≤ kpC n; omega) (by have := kpC_pos n; show 3 ≤ kpS n; omega) ?_
            exact W.aret (v := va_rf none) hx hb hr (Or.inl ⟨_, rfl⟩) (va_rf_or _) (fun t ht hW => ⟨⟨_, (([] : List (Int32 × Nat)), ex), rfl, Or.inl ⟨by rw [hfin]; exact h97, rfl⟩, ⟨by rw [ht]; exact hP9, va_K.moved hW.alike hK9, hD9⟩⟩, hS.F ht⟩) hS.2.2 d_Tables_streamsOf_105
          · have h97 : i = n := (nI_eq (by omega) (by omega)).mp (by first | exact h97 | exact Classical.not_not.mp h97)
            refine lv_aload_n hx hb d_Tables_streamsOf_100 rfl (lv_at hl 1 rfl) ?_
            refine lv_goto (tgt := 105) hx hb d_Tables_streamsOf_101 rfl ?_
            have hfin : soR f n = (([] : List (Int32 × Nat)), i) := so_end hrun (by first | exact Or.inr h28 | exact Or.inl (by omega))
            have hP : va_P D classes ([(h, .inr (0, [.ref a, .int (nI n)])), (a, .inl (cB, 1024, .inl f))] ++ ((wlc cO e0 q0 ([] : List (Int32 × Nat)).length mo1 none ++ ex) ++ Q)) H := hP
            have hD : va_D A ([(h, .inr (0, [.ref a, .int (nI n)])), (a, .inl (cB, 1024, .inl f))] ++ ((wlc cO e0 q0 ([] : List (Int32 × Nat)).length mo1 none ++ ex) ++ Q)) := hD
            have hP9 := hP.part (cx := [(h, .inr (0, [.ref a, .int (nI n)])), (a, .inl (cB, 1024, .inl f))]) [0, 1] rfl
            have hD9 := hD.part (cx := [(h, .inr (0, [.ref a, .int (nI n)])), (a, .inl (cB, 1024, .inl f))]) [0, 1] (by decide) rfl
            have hK9 := hK.sub (tys' := [(cB, .byte), (cO, .object "java/lang/Object")]) [0, 1] rfl
            refine W.widen (k := kpC n) (n := kpS n) (by have := kpC_pos n; show 1 ≤ kpC n; omega) (by have := kpC_pos n; show 3 ≤ kpS n; omega) ?_
            exact W.aret (v := va_rf (some q0)) hx hb hr (Or.inl ⟨_, rfl⟩) (va_rf_or _) (fun t ht hW => ⟨⟨_, (([] : List (Int32 × Nat)), wlc cO e0 q0 ([] : List (Int32 × Nat)).length mo1 none ++ ex), rfl, Or.inr ⟨by rw [hfin]; exact h97, by rw [hfin], q0, rfl, so_isS (by first | exact hsk | exact rfl) hS4⟩, ⟨by rw [ht]; exact hP9, va_K.moved hW.alike hK9, hD9⟩⟩, hS.F ht⟩) hS.2.2 d_Tables_streamsOf_105
        · have h28 : i + 5 ≤ n := by have := mt (nI_ltI (a := n) (by omega) (by omega)).mpr h28; omega
          have hpc := kpC_17 (n := n) (by omega)
          have hpx : (soX f n i).2 < 8192 := bN_lt f n 1024 (8 * i + 11) 13
          have hb12 := bN_lt f n 1024 (8 * i + 28) 12
          refine lv_aload_n hx hb d_Tables_streamsOf_31 rfl (lv_at hl 1 rfl) ?_
          have hPc := hP.sub (ws' := [(q0, .inr (12, [.ref e0, .int 0, .int mo1]))]) [2] rfl
          have hKc := hK.sub (tys' := []) [] rfl
          refine z_ci (va_runV (As := []) (rest := []) ⟨hx, hb, hml, hown, hts⟩ (c_AL_size l D q0 e0 0 mo1 ) (z_cV hN wd_305 wd_66 wd_302 hd_AL_size rfl rfl ⟨Nat.le_of_ble_eq_true rfl, Nat.le_of_ble_eq_true rfl⟩ wd_303 wd_304) (z_preV (va_recv (ci := 12) (q0 := 2) hK hP rfl rfl) hPc hKc hN) rfl rfl hl.1 rfl (lv_room (Nat.le_of_ble_eq_true rfl)) d_Tables_streamsOf_32 ⟨by show 1 + 0 ≤ kpC n; omega, by show 3 + 0 ≤ kpS n; omega⟩) (fun r32 e32 => ?_)
          refine z_topi (w := 0) e32 ?_
          refine lv_iconst (v := 4) hx hb d_Tables_streamsOf_35 (by decide) ?_
          refine lv_icmp_ge (tgt := 92) hx hb d_Tables_streamsOf_36 rfl (fun h9 => absurd h9 (by decide)) (fun h36 => ?_)
          refine lv_aload_n hx hb d_Tables_streamsOf_39 rfl (lv_at hl 1 rfl) ?_
          refine va_new (ci := 5) (fs := [.int 0, .int 0]) (C := R_Stream) (T := F_Stream) (N := 2) hx hb hts i_Stream t_Stream t_Stream_ok hown (hts _ wd_628) (hts _ wd_629) (hts _ wd_83) hK hP hD hS hA rfl (fs_Stream) (by show 1 + 1 ≤ kpC n; omega) (by show 3 + 2 ≤ kpS n; omega) d_Tables_streamsOf_40 (fun q40 H hP hD hS => ?_)
          have hP := hP.swap
          have hD := hD.swap
          have hP : va_P D classes ([(h, .inr (0, [.ref a, .int (nI n)])), (a, .inl (cB, 1024, .inl f)), (q0, .inr (12, [.ref e0, .int 0, .int mo1])), (q40, .inr (5, [.int 0, .int 0]))] ++ (ex ++ Q)) H := hP
          have hD : va_D A ([(h, .inr (0, [.ref a, .int (nI n)])), (a, .inl (cB, 1024, .inl f)), (q0, .inr (12, [.ref e0, .int 0, .int mo1])), (q40, .inr (5, [.int 0, .int 0]))] ++ (ex ++ Q)) := hD
          refine lv_dup hx hb d_Tables_streamsOf_43 rfl ?_
          refine lv_aload_n hx hb d_Tables_streamsOf_44 rfl (lv_at hl 0 rfl) ?_
          refine lv_iload_n hx hb d_Tables_streamsOf_45 rfl (lv_at hl 2 rfl) ?_
          have hPc := hP.sub (ws' := [(h, .inr (0, [.ref a, .int (nI n)])), (a, .inl (cB, 1024, .inl f))]) [0, 1] rfl
          have hKc := hK.sub (tys' := [(cB, .byte)]) [0] rfl
          refine z_ci (va_runV (As := [.int (nI i)]) (rest := [.ref q40, .ref q40, .ref q0]) ⟨hx, hb, hml, hown, hts⟩ (c_Row_at l D cB h a n 1024 f (nI i) (by omega)) (z_cV hN wd_212 wd_61 wd_556 hd_Row_at rfl rfl ⟨Nat.le_of_ble_eq_true rfl, Nat.le_of_ble_eq_true rfl⟩ wd_210 wd_211) (z_preV (va_recv (ci := 0) (q0 := 0) hK hP rfl rfl) hPc hKc hN) rfl rfl hl.1 rfl (lv_room (Nat.le_of_ble_eq_true rfl)) d_Tables_streamsOf_46 ⟨by show 1 + 1 + 0 ≤ kpC n; omega, by show 3 + 2 + 0 ≤ kpS n; omega⟩) (fun r46 e46 => ?_)
          refine z_topi (w := rw_at f n 1024 (nI i)) e46 ?_
          refine z_topi (w := nI (rbN f n 1024 i)) (rb_eq _ _ _ _) ?_
          refine lv_aload_n hx hb d_Tables_streamsOf_49 rfl (lv_at hl 0 rfl) ?_
          refine lv_bipush (v := 8) hx hb d_Tables_streamsOf_50 (by decide) ?_
          refine lv_iload_n hx hb d_Tables_streamsOf_52 rfl (lv_at hl 2 rfl) ?_
          refine lv_imul hx hb d_Tables_streamsOf_53 ?_
          refine z_topi (w := nI (8 * i)) (pk_mul 8 _) ?_
          refine lv_bipush (v := 11) hx hb d_Tables_streamsOf_54 (by decide) ?_
          refine lv_iadd hx hb d_Tables_streamsOf_56 ?_
          refine z_topi (w := nI (8 * i + 11)) (nI_add _ 11) ?_
          refine lv_bipush (v := 13) hx hb d_Tables_streamsOf_57 (by decide) ?_
          have hPc := hP.sub (ws' := [(h, .inr (0, [.ref a, .int (nI n)])), (a, .inl (cB, 1024, .inl f))]) [0, 1] rfl
          have hKc := hK.sub (tys' := [(cB, .byte)]) [0] rfl
          refine z_cl (va_runV (As := [.int (nI (8 * i + 11)), .int (nI 13)]) (rest := [.int (nI (rbN f n 1024 i)), .ref q40, .ref q40, .ref q0]) ⟨hx, hb, hml, hown, hts⟩ (c_Row_bits l D cB h a n 1024 f (8 * i + 11) 13 (by omega) (by omega)) (z_cV hN wd_280 wd_61 wd_564 hd_Row_bits rfl rfl ⟨Nat.le_of_ble_eq_true rfl, Nat.le_of_ble_eq_true rfl⟩ wd_278 wd_279) (z_preV (va_recv (ci := 0) (q0 := 0) hK hP rfl rfl) hPc hKc hN) rfl rfl hl.1 rfl (lv_room (Nat.le_of_ble_eq_true rfl)) d_Tables_streamsOf_59 ⟨by show 1 + 1 + 0 ≤ kpC n; omega, by show 3 + 2 + 0 ≤ kpS n; omega⟩) (fun r59 e59 => ?_)
          refine z_topl (w := rw_bits f n 1024 (8 * i + 11) 13) e59 ?_
          refine lv_l2i (v := (rw_bits f n 1024 (8 * i + 11) 13).toInt32) hx hb d_Tables_streamsOf_62 rfl ?_
          refine z_topi (w := nI (bN f n 1024 (8 * i + 11) 13)) (bits_i (by omega)) ?_
          have hPc := hP.sub (ws' := [(q40, .inr (5, [.int 0, .int 0]))]) [3] rfl
          have hKc := hK.sub (tys' := []) [] rfl
          have hDc := hD.sub (ws' := [(q40, .inr (5, [.int 0, .int 0]))]) [3] (by decide) rfl
          have hFc := va_free (wc := [(q40, .inr (5, [.int 0, .int 0]))]) hD hS hA [3] rfl
          refine va_callv (va_runI (As := [.int ((soX f n i).1), .int (nI (soX f n i).2)]) (rest := [.ref q40, .ref q0]) ⟨hx, hb, hml, hown, hts⟩ (c_Stream_init l D H.size q40 ((soX f n i).1) (nI (soX f n i).2) ) (z_cI hN wd_632 wd_83 wd_630 hd_Stream_init rfl rfl ⟨Nat.le_of_ble_eq_true rfl, Nat.le_of_ble_eq_true rfl⟩ wd_631 rfl) (z_preSm hPc hKc hN hDc) rfl rfl hl.1 rfl (lv_room (Nat.le_of_ble_eq_true rfl)) d_Tables_streamsOf_63 ⟨by show 1 + 1 + 0 ≤ kpC n; omega, by show 3 + 2 + 0 ≤ kpS n; omega⟩) hS (fun q _ h => hFc q h) hFc (fun u63 t H locs ht hvm e63 hB hz1 hk1 hS => ?_)
          obtain ⟨hP1, hK1, hD1⟩ := hB
          rw [ht] at hP1
          obtain ⟨hP, hD⟩ := va_joinQ (cx := [(q40, .inr (5, [.int 0, .int 0]))]) (wr := [(h, .inr (0, [.ref a, .int (nI n)])), (a, .inl (cB, 1024, .inl f)), (q0, .inr (12, [.ref e0, .int 0, .int mo1]))]) (w1 := [(q40, .inr (5, [.int ((soX f n i).1), .int (nI (soX f n i).2)]))]) hP hD [3] [0, 1, 2] rfl rfl (by decide) (by decide) hk1 hFc hP1 hD1
          clear hk1 hP1 hD1 hFc hPc hDc hz1
          have hP : va_P D classes ([(h, .inr (0, [.ref a, .int (nI n)])), (a, .inl (cB, 1024, .inl f)), (q0, .inr (12, [.ref e0, .int 0, .int mo1])), (q40, .inr (5, [.int ((soX f n i).1), .int (nI (soX f n i).2)]))] ++ (ex ++ Q)) H := hP
          have hD : va_D A ([(h, .inr (0, [.ref a, .int (nI n)])), (a, .inl (cB, 1024, .inl f)), (q0, .inr (12, [.ref e0, .int 0, .int mo1])), (q40, .inr (5, [.int ((soX f n i).1), .int (nI (soX f n i).2)]))] ++ (ex ++ Q)) := hD
          have hPc := hP.sub (ws' := [(q0, .inr (12, [.ref e0, .int 0, .int mo1])), (q40, .inr (5, [.int (soX f n i).1, .int (nI (soX f n i).2)]))]) [2, 3] rfl
          have hKc := hK.sub (tys' := [(cO, .object "java/lang/Object")]) [1] rfl
          have hDc := hD.sub (ws' := [(q0, .inr (12, [.ref e0, .int 0, .int mo1])), (q40, .inr (5, [.int (soX f n i).1, .int (nI (soX f n i).2)]))]) [2, 3] (by decide) rfl
          have hFc := va_free (wc := [(q0, .inr (12, [.ref e0, .int 0, .int mo1])), (q40, .inr (5, [.int (soX f n i).1, .int (nI (soX f n i).2)]))]) hD hS hA [2, 3] rfl
          refine va_calli (va_runV (As := [.ref q40]) (rest := []) ⟨hx, hb, hml, hown, hts⟩ (c_AL_add0e l D B0 hG H.size cO q0 e0 mo1 q40 5 [.int (soX f n i).1, .int (nI (soX f n i).2)] (R_Stream, F_Stream, 2) he0 rfl wd_1502) (z_cV hN wd_465 wd_66 wd_620 hd_AL_add0 rfl rfl ⟨Nat.le_of_ble_eq_true rfl, Nat.le_of_ble_eq_true rfl⟩ wd_463 wd_464) (z_preVo (va_recv (ci := 12) (q0 := 2) hK hP rfl rfl) hPc hKc hN hDc hO hS hAO) rfl rfl hl.1 rfl (lv_room (Nat.le_of_ble_eq_true rfl)) d_Tables_streamsOf_66 ⟨by show 1 + 1 + 1 ≤ kpC n; omega, by show 3 + 2 + 10 ≤ kpS n; omega⟩) hS (fun q _ h => hFc q h) hFc (fun r66 q9 t H locs ht hvm e66 hB hz1 hk1 hS => ?_)
          obtain ⟨hP1, hK1, hD1⟩ := hB
          rw [ht] at hP1
          obtain ⟨hP, hD⟩ := va_joinQ (cx := [(q0, .inr (12, [.ref e0, .int 0, .int mo1])), (q40, .inr (5, [.int (soX f n i).1, .int (nI (soX f n i).2)]))]) (wr := [(h, .inr (0, [.ref a, .int (nI n)])), (a, .inl (cB, 1024, .inl f))]) (w1 := [(q0, .inr (12, [.ref q9, .int 1, .int (mo1 + 1)])), (q9, .inl (cO, 10, .inr (.inr (.inr (.inr (va_up (fun _ => none) 0 (some q40))))))), (q40, .inr (5, [.int (soX f n i).1, .int (nI (soX f n i).2)]))]) hP hD [2, 3] [0, 1] rfl rfl (by decide) (by decide) hk1 hFc hP1 hD1
          clear hk1 hP1 hD1 hFc hPc hDc hz1
          have hP : va_P D classes ([(h, .inr (0, [.ref a, .int (nI n)])), (a, .inl (cB, 1024, .inl f)), (q0, .inr (12, [.ref q9, .int 1, .int (mo1 + 1)])), (q9, .inl (cO, 10, .inr (.inr (.inr (.inr (va_up (fun _ => none) 0 (some q40))))))), (q40, .inr (5, [.int (soX f n i).1, .int (nI (soX f n i).2)]))] ++ (ex ++ Q)) H := hP
          have hD : va_D A ([(h, .inr (0, [.ref a, .int (nI n)])), (a, .inl (cB, 1024, .inl f)), (q0, .inr (12, [.ref q9, .int 1, .int (mo1 + 1)])), (q9, .inl (cO, 10, .inr (.inr (.inr (.inr (va_up (fun _ => none) 0 (some q40))))))), (q40, .inr (5, [.int (soX f n i).1, .int (nI (soX f n i).2)]))] ++ (ex ++ Q)) := hD
          refine lv_pop hx hb d_Tables_streamsOf_69 rfl ?_
          refine lv_iload_n hx hb d_Tables_streamsOf_70 rfl (lv_at hl 2 rfl) ?_
          refine lv_iconst (v := 5) hx hb d_Tables_streamsOf_71 (by decide) ?_
          refine lv_aload_n hx hb d_Tables_streamsOf_72 rfl (lv_at hl 0 rfl) ?_
          refine lv_bipush (v := 8) hx hb d_Tables_streamsOf_73 (by decide) ?_
          refine lv_iload_n hx hb d_Tables_streamsOf_75 rfl (lv_at hl 2 rfl) ?_
          refine lv_imul hx hb d_Tables_streamsOf_76 ?_
          refine z_topi (w := nI (8 * i)) (pk_mul 8 _) ?_
          refine lv_bipush (v := 28) hx hb d_Tables_streamsOf_77 (by decide) ?_
          refine lv_iadd hx hb d_Tables_streamsOf_79 ?_
          refine z_topi (w := nI (8 * i + 28)) (nI_add _ 28) ?_
          refine lv_bipush (v := 12) hx hb d_Tables_streamsOf_80 (by decide) ?_
          have hPc := hP.sub (ws' := [(h, .inr (0, [.ref a, .int (nI n)])), (a, .inl (cB, 1024, .inl f))]) [0, 1] rfl
          have hKc := hK.sub (tys' := [(cB, .byte)]) [0] rfl
          refine z_cl (va_runV (As := [.int (nI (8 * i + 28)), .int (nI 12)]) (rest := [.int 5, .int (nI i)]) ⟨hx, hb, hml, hown, hts⟩ (c_Row_bits l D cB h a n 1024 f (8 * i + 28) 12 (by omega) (by omega)) (z_cV hN wd_280 wd_61 wd_564 hd_Row_bits rfl rfl ⟨Nat.le_of_ble_eq_true rfl, Nat.le_of_ble_eq_true rfl⟩ wd_278 wd_279) (z_preV (va_recv (ci := 0) (q0 := 0) hK hP rfl rfl) hPc hKc hN) rfl rfl hl.1 rfl (lv_room (Nat.le_of_ble_eq_true rfl)) d_Tables_streamsOf_82 ⟨by show 1 + 1 + 1 + 0 ≤ kpC n; omega, by show 3 + 2 + 10 + 0 ≤ kpS n; omega⟩) (fun r82 e82 => ?_)
          refine z_topl (w := rw_bits f n 1024 (8 * i + 28) 12) e82 ?_
          refine lv_l2i (v := (rw_bits f n 1024 (8 * i + 28) 12).toInt32) hx hb d_Tables_streamsOf_85 rfl ?_
          refine z_topi (w := nI (bN f n 1024 (8 * i + 28) 12)) (bits_i (by omega)) ?_
          refine lv_iadd hx hb d_Tables_streamsOf_86 ?_
          refine z_topi (w := nI (5 + bN f n 1024 (8 * i + 28) 12)) (nI_add 5 _) ?_
          refine lv_iadd hx hb d_Tables_streamsOf_87 ?_
          refine z_topi (w := nI (i + (5 + bN f n 1024 (8 * i + 28) 12))) (nI_add _ _) ?_
          refine lv_istore_n (lv' := [(2, .int (nI (i + (5 + bN f n 1024 (8 * i + 28) 12)))), (0, .ref h), (1, .ref q0)]) hx hb d_Tables_streamsOf_88 rfl hl (by decide) rfl (fun ls hl => ?_)
          refine lv_goto (tgt := 21) hx hb d_Tables_streamsOf_89 rfl ?_
          have hP : va_P D classes ([(h, .inr (0, [.ref a, .int (nI n)])), (a, .inl (cB, 1024, .inl f))] ++ (wlc cO e0 q0 ([(soX f n i)].length) (mo1 + 1) (some (q9, va_up (fun _ => none) 0 (some q40))) ++ (((q40, smE (soX f n i).1 (soX f n i).2) :: ex) ++ Q))) H := hP
          have hD : va_D A ([(h, .inr (0, [.ref a, .int (nI n)])), (a, .inl (cB, 1024, .inl f))] ++ (wlc cO e0 q0 ([(soX f n i)].length) (mo1 + 1) (some (q9, va_up (fun _ => none) 0 (some q40))) ++ (((q40, smE (soX f n i).1 (soX f n i).2) :: ex) ++ Q))) := hD
          refine W.widen (k := 1 + (scn (some (q9, va_up (fun _ => none) 0 (some q40))) + [(soX f n i)].length)) (n := 3 + (10 * scn (some (q9, va_up (fun _ => none) 0 (some q40))) + 2 * [(soX f n i)].length)) (by show 1 + 1 + 1 ≤ 1 + (1 + 1); omega) (by show 3 + 2 + 10 ≤ 3 + (10 * 1 + 2 * 1); omega) ?_
          exact ih21 (i + (5 + bN f n 1024 (8 * i + 28) 12)) [(soX f n i)] (some (q9, va_up (fun _ => none) 0 (some q40))) (mo1 + 1) ((q40, smE (soX f n i).1 (soX f n i).2) :: ex) H locs ls (by show 4 - 1 < _; have : ([] : List (Int32 × Nat)).length = 0 := rfl; omega) (by omega) (by omega) (by show 1 ≤ 4; omega) (sok_add (S := []) (fun j hj => absurd hj (Nat.not_lt_zero j)) hpx) (fun _ => by omega) (so_step (m := 3) (S := []) hrun h28) (lv_sub hl [1, 2, 0] rfl) hP hD hS
      | some wq =>
        have hsk9 : ∀ j, j < S.length → ∃ a, wq.2 j = some a ∧ (a, smE (S.getD j (0, 0)).1 (S.getD j (0, 0)).2) ∈ ex ∧ (S.getD j (0, 0)).2 < 8192 := hsk
        have h17 : 17 ≤ n := hs17 (fun z => by cases z)
        have hP : va_P D classes ([(h, .inr (0, [.ref a, .int (nI n)])), (a, .inl (cB, 1024, .inl f)), (q0, .inr (12, [.ref wq.1, .int (nI S.length), .int mo1])), (wq.1, .inl (cO, 10, .inr (.inr (.inr (.inr wq.2)))))] ++ (ex ++ Q)) H := hP
        have hD : va_D A ([(h, .inr (0, [.ref a, .int (nI n)])), (a, .inl (cB, 1024, .inl f)), (q0, .inr (12, [.ref wq.1, .int (nI S.length), .int mo1])), (wq.1, .inl (cO, 10, .inr (.inr (.inr (.inr wq.2)))))] ++ (ex ++ Q)) := hD
        refine lv_iconst (v := 5) hx hb d_Tables_streamsOf_22 (by decide) ?_
        refine lv_iadd hx hb d_Tables_streamsOf_23 ?_
        refine z_topi (w := nI (i + 5)) (nI_add _ 5) ?_
        refine lv_aload_n hx hb d_Tables_streamsOf_24 rfl (lv_at hl 0 rfl) ?_
        refine va_getN (D := D) (ci := 0) (v := .int (nI n)) (C := R_Row) (T := F_Row) (N := 2) hx hb hts i_Row hown hK hP 0 rfl rfl 1 (by decide) (hts _ wd_112) (fun _ h9 => h9) rfl d_Tables_streamsOf_25 ?_
        refine lv_icmp_gt (tgt := 92) hx hb d_Tables_streamsOf_28 rfl (fun h28 => ?_) (fun h28 => ?_)
        · have h28 := (nI_ltI (by omega) (by omega)).mp h28
          refine lv_iload_n hx hb d_Tables_streamsOf_92 rfl (lv_at hl 2 rfl) ?_
          refine lv_aload_n hx hb d_Tables_streamsOf_93 rfl (lv_at hl 0 rfl) ?_
          refine va_getN (D := D) (ci := 0) (v := .int (nI n)) (C := R_Row) (T := F_Row) (N := 2) hx hb hts i_Row hown hK hP 0 rfl rfl 1 (by decide) (hts _ wd_112) (fun _ h9 => h9) rfl d_Tables_streamsOf_94 ?_
          refine lv_icmp_ne (tgt := 104) hx hb d_Tables_streamsOf_97 rfl (fun h97 => ?_) (fun h97 => ?_)
          · have h97 : ¬ i = n := fun q => h97 (by rw [q])
            refine lv_null hx hb d_Tables_streamsOf_104 ?_
            have hfin : soR f n = (S, i) := so_end hrun (by first | exact Or.inr h28 | exact Or.inl (by omega))
            have hP9 := hP.part (cx := [(h, .inr (0, [.ref a, .int (nI n)])), (a, .inl (cB, 1024, .inl f))]) [0, 1] rfl
            have hD9 := hD.part (cx := [(h, .inr (0, [.ref a, .int (nI n)])), (a, .inl (cB, 1024, .inl f))]) [0, 1] (by decide) rfl
            have hK9 := hK.sub (tys' := [(cB, .byte), (cO, .object "java/lang/Object")]) [0, 1] rfl
            refine W.widen (k := kpC n) (n := kpS n) (by have := kpC_17 h17; show 1 + (1 + S.length) ≤ kpC n; omega) (by have := kpC_17 h17; show 3 + (10 * 1 + 2 * S.length) ≤ kpS n; omega) ?_
            exact W.aret (v := va_rf none) hx hb hr (Or.inl ⟨_, rfl⟩) (va_rf_or _) (fun t ht hW => ⟨⟨_, (S, ex), rfl, Or.inl ⟨by rw [hfin]; exact h97, rfl⟩, ⟨by rw [ht]; exact hP9, va_K.moved hW.alike hK9, hD9⟩⟩, hS.F ht⟩) hS.2.2 d_Tables_streamsOf_105
          · have h97 : i = n := (nI_eq (by omega) (by omega)).mp (by first | exact h97 | exact Classical.not_not.mp h97)
            refine lv_aload_n hx hb d_Tables_streamsOf_100 rfl (lv_at hl 1 rfl) ?_
            refine lv_goto (tgt := 105) hx hb d_Tables_streamsOf_101 rfl ?_
            have hfin : soR f n = (S, i) := so_end hrun (by first | exact Or.inr h28 | exact Or.inl (by omega))
            have hP : va_P D classes ([(h, .inr (0, [.ref a, .int (nI n)])), (a, .inl (cB, 1024, .inl f))] ++ ((wlc cO e0 q0 S.length mo1 (some wq) ++ ex) ++ Q)) H := hP
            have hD : va_D A ([(h, .inr (0, [.ref a, .int (nI n)])), (a, .inl (cB, 1024, .inl f))] ++ ((wlc cO e0 q0 S.length mo1 (some wq) ++ ex) ++ Q)) := hD
            have hP9 := hP.part (cx := [(h, .inr (0, [.ref a, .int (nI n)])), (a, .inl (cB, 1024, .inl f))]) [0, 1] rfl
            have hD9 := hD.part (cx := [(h, .inr (0, [.ref a, .int (nI n)])), (a, .inl (cB, 1024, .inl f))]) [0, 1] (by decide) rfl
            have hK9 := hK.sub (tys' := [(cB, .byte), (cO, .object "java/lang/Object")]) [0, 1] rfl
            refine W.widen (k := kpC n) (n := kpS n) (by have := kpC_17 h17; show 1 + (1 + S.length) ≤ kpC n; omega) (by have := kpC_17 h17; show 3 + (10 * 1 + 2 * S.length) ≤ kpS n; omega) ?_
            exact W.aret (v := va_rf (some q0)) hx hb hr (Or.inl ⟨_, rfl⟩) (va_rf_or _) (fun t ht hW => ⟨⟨_, (S, wlc cO e0 q0 S.length mo1 (some wq) ++ ex), rfl, Or.inr ⟨by rw [hfin]; exact h97, by rw [hfin], q0, rfl, so_isS (by first | exact hsk | exact rfl) hS4⟩, ⟨by rw [ht]; exact hP9, va_K.moved hW.alike hK9, hD9⟩⟩, hS.F ht⟩) hS.2.2 d_Tables_streamsOf_105
        · have h28 : i + 5 ≤ n := by have := mt (nI_ltI (a := n) (by omega) (by omega)).mpr h28; omega
          have hpc := kpC_17 (n := n) (by omega)
          have hpx : (soX f n i).2 < 8192 := bN_lt f n 1024 (8 * i + 11) 13
          have hb12 := bN_lt f n 1024 (8 * i + 28) 12
          refine lv_aload_n hx hb d_Tables_streamsOf_31 rfl (lv_at hl 1 rfl) ?_
          have hPc := hP.sub (ws' := [(q0, .inr (12, [.ref wq.1, .int (nI S.length), .int mo1]))]) [2] rfl
          have hKc := hK.sub (tys' := []) [] rfl
          refine z_ci (va_runV (As := []) (rest := []) ⟨hx, hb, hml, hown, hts⟩ (c_AL_size l D q0 wq.1 (nI S.length) mo1 ) (z_cV hN wd_305 wd_66 wd_302 hd_AL_size rfl rfl ⟨Nat.le_of_ble_eq_true rfl, Nat.le_of_ble_eq_true rfl⟩ wd_303 wd_304) (z_preV (va_recv (ci := 12) (q0 := 2) hK hP rfl rfl) hPc hKc hN) rfl rfl hl.1 rfl (lv_room (Nat.le_of_ble_eq_true rfl)) d_Tables_streamsOf_32 ⟨by show 1 + (1 + S.length) + 0 ≤ kpC n; omega, by show 3 + (10 * 1 + 2 * S.length) + 0 ≤ kpS n; omega⟩) (fun r32 e32 => ?_)
          refine z_topi (w := (nI S.length)) e32 ?_
          refine lv_iconst (v := 4) hx hb d_Tables_streamsOf_35 (by decide) ?_
          refine lv_icmp_ge (tgt := 92) hx hb d_Tables_streamsOf_36 rfl (fun h36 => ?_) (fun h36 => ?_)
          · have h36 := (nI_leI (a := 4) (by omega) (by omega)).mp h36
            refine lv_iload_n hx hb d_Tables_streamsOf_92 rfl (lv_at hl 2 rfl) ?_
            refine lv_aload_n hx hb d_Tables_streamsOf_93 rfl (lv_at hl 0 rfl) ?_
            refine va_getN (D := D) (ci := 0) (v := .int (nI n)) (C := R_Row) (T := F_Row) (N := 2) hx hb hts i_Row hown hK hP 0 rfl rfl 1 (by decide) (hts _ wd_112) (fun _ h9 => h9) rfl d_Tables_streamsOf_94 ?_
            refine lv_icmp_ne (tgt := 104) hx hb d_Tables_streamsOf_97 rfl (fun h97 => ?_) (fun h97 => ?_)
            · have h97 : ¬ i = n := fun q => h97 (by rw [q])
              refine lv_null hx hb d_Tables_streamsOf_104 ?_
              have hfin : soR f n = (S, i) := so_end hrun (by first | exact Or.inr h28 | exact Or.inl (by omega))
              have hP9 := hP.part (cx := [(h, .inr (0, [.ref a, .int (nI n)])), (a, .inl (cB, 1024, .inl f))]) [0, 1] rfl
              have hD9 := hD.part (cx := [(h, .inr (0, [.ref a, .int (nI n)])), (a, .inl (cB, 1024, .inl f))]) [0, 1] (by decide) rfl
              have hK9 := hK.sub (tys' := [(cB, .byte), (cO, .object "java/lang/Object")]) [0, 1] rfl
              refine W.widen (k := kpC n) (n := kpS n) (by have := kpC_17 h17; show 1 + (1 + S.length) ≤ kpC n; omega) (by have := kpC_17 h17; show 3 + (10 * 1 + 2 * S.length) ≤ kpS n; omega) ?_
              exact W.aret (v := va_rf none) hx hb hr (Or.inl ⟨_, rfl⟩) (va_rf_or _) (fun t ht hW => ⟨⟨_, (S, ex), rfl, Or.inl ⟨by rw [hfin]; exact h97, rfl⟩, ⟨by rw [ht]; exact hP9, va_K.moved hW.alike hK9, hD9⟩⟩, hS.F ht⟩) hS.2.2 d_Tables_streamsOf_105
            · have h97 : i = n := (nI_eq (by omega) (by omega)).mp (by first | exact h97 | exact Classical.not_not.mp h97)
              refine lv_aload_n hx hb d_Tables_streamsOf_100 rfl (lv_at hl 1 rfl) ?_
              refine lv_goto (tgt := 105) hx hb d_Tables_streamsOf_101 rfl ?_
              have hfin : soR f n = (S, i) := so_end hrun (by first | exact Or.inr h28 | exact Or.inl (by omega))
              have hP : va_P D classes ([(h, .inr (0, [.ref a, .int (nI n)])), (a, .inl (cB, 1024, .inl f))] ++ ((wlc cO e0 q0 S.length mo1 (some wq) ++ ex) ++ Q)) H := hP
              have hD : va_D A ([(h, .inr (0, [.ref a, .int (nI n)])), (a, .inl (cB, 1024, .inl f))] ++ ((wlc cO e0 q0 S.length mo1 (some wq) ++ ex) ++ Q)) := hD
              have hP9 := hP.part (cx := [(h, .inr (0, [.ref a, .int (nI n)])), (a, .inl (cB, 1024, .inl f))]) [0, 1] rfl
              have hD9 := hD.part (cx := [(h, .inr (0, [.ref a, .int (nI n)])), (a, .inl (cB, 1024, .inl f))]) [0, 1] (by decide) rfl
              have hK9 := hK.sub (tys' := [(cB, .byte), (cO, .object "java/lang/Object")]) [0, 1] rfl
              refine W.widen (k := kpC n) (n := kpS n) (by have := kpC_17 h17; show 1 + (1 + S.length) ≤ kpC n; omega) (by have := kpC_17 h17; show 3 + (10 * 1 + 2 * S.length) ≤ kpS n; omega) ?_
              exact W.aret (v := va_rf (some q0)) hx hb hr (Or.inl ⟨_, rfl⟩) (va_rf_or _) (fun t ht hW => ⟨⟨_, (S, wlc cO e0 q0 S.length mo1 (some wq) ++ ex), rfl, Or.inr ⟨by rw [hfin]; exact h97, by rw [hfin], q0, rfl, so_isS (by first | exact hsk | exact rfl) hS4⟩, ⟨by rw [ht]; exact hP9, va_K.moved hW.alike hK9, hD9⟩⟩, hS.F ht⟩) hS.2.2 d_Tables_streamsOf_105
          · have h36 := mt (nI_leI (a := 4) (by omega) (by omega)).mpr h36
            refine lv_aload_n hx hb d_Tables_streamsOf_39 rfl (lv_at hl 1 rfl) ?_
            refine va_new (ci := 5) (fs := [.int 0, .int 0]) (C := R_Stream) (T := F_Stream) (N := 2) hx hb hts i_Stream t_Stream t_Stream_ok hown (hts _ wd_628) (hts _ wd_629) (hts _ wd_83) hK hP hD hS hA rfl (fs_Stream) (by show 1 + (1 + S.length) + 1 ≤ kpC n; omega) (by show 3 + (10 * 1 + 2 * S.length) + 2 ≤ kpS n; omega) d_Tables_streamsOf_40 (fun q40 H hP hD hS => ?_)
            have hP := hP.swap
            have hD := hD.swap
            have hP : va_P D classes ([(h, .inr (0, [.ref a, .int (nI n)])), (a, .inl (cB, 1024, .inl f)), (q0, .inr (12, [.ref wq.1, .int (nI S.length), .int mo1])), (wq.1, .inl (cO, 10, .inr (.inr (.inr (.inr wq.2))))), (q40, .inr (5, [.int 0, .int 0]))] ++ (ex ++ Q)) H := hP
            have hD : va_D A ([(h, .inr (0, [.ref a, .int (nI n)])), (a, .inl (cB, 1024, .inl f)), (q0, .inr (12, [.ref wq.1, .int (nI S.length), .int mo1])), (wq.1, .inl (cO, 10, .inr (.inr (.inr (.inr wq.2))))), (q40, .inr (5, [.int 0, .int 0]))] ++ (ex ++ Q)) := hD
            refine lv_dup hx hb d_Tables_streamsOf_43 rfl ?_
            refine lv_aload_n hx hb d_Tables_streamsOf_44 rfl (lv_at hl 0 rfl) ?_
            refine lv_iload_n hx hb d_Tables_streamsOf_45 rfl (lv_at hl 2 rfl) ?_
            have hPc := hP.sub (ws' := [(h, .inr (0, [.ref a, .int (nI n)])), (a, .inl (cB, 1024, .inl f))]) [0, 1] rfl
            have hKc := hK.sub (tys' := [(cB, .byte)]) [0] rfl
            refine z_ci (va_runV (As := [.int (nI i)]) (rest := [.ref q40, .ref q40, .ref q0]) ⟨hx, hb, hml, hown, hts⟩ (c_Row_at l D cB h a n 1024 f (nI i) (by omega)) (z_cV hN wd_212 wd_61 wd_556 hd_Row_at rfl rfl ⟨Nat.le_of_ble_eq_true rfl, Nat.le_of_ble_eq_true rfl⟩ wd_210 wd_211) (z_preV (va_recv (ci := 0) (q0 := 0) hK hP rfl rfl) hPc hKc hN) rfl rfl hl.1 rfl (lv_room (Nat.le_of_ble_eq_true rfl)) d_Tables_streamsOf_46 ⟨by show 1 + (1 + S.length) + 1 + 0 ≤ kpC n; omega, by show 3 + (10 * 1 + 2 * S.length) + 2 + 0 ≤ kpS n; omega⟩) (fun r46 e46 => ?_)
            refine z_topi (w := rw_at f n 1024 (nI i)) e46 ?_
            refine z_topi (w := nI (rbN f n 1024 i)) (rb_eq _ _ _ _) ?_
            refine lv_aload_n hx hb d_Tables_streamsOf_49 rfl (lv_at hl 0 rfl) ?_
            refine lv_bipush (v := 8) hx hb d_Tables_streamsOf_50 (by decide) ?_
            refine lv_iload_n hx hb d_Tables_streamsOf_52 rfl (lv_at hl 2 rfl) ?_
            refine lv_imul hx hb d_Tables_streamsOf_53 ?_
            refine z_topi (w := nI (8 * i)) (pk_mul 8 _) ?_
            refine lv_bipush (v := 11) hx hb d_Tables_streamsOf_54 (by decide) ?_
            refine lv_iadd hx hb d_Tables_streamsOf_56 ?_
            refine z_topi (w := nI (8 * i + 11)) (nI_add _ 11) ?_
            refine lv_bipush (v := 13) hx hb d_Tables_streamsOf_57 (by decide) ?_
            have hPc := hP.sub (ws' := [(h, .inr (0, [.ref a, .int (nI n)])), (a, .inl (cB, 1024, .inl f))]) [0, 1] rfl
            have hKc := hK.sub (tys' := [(cB, .byte)]) [0] rfl
            refine z_cl (va_runV (As := [.int (nI (8 * i + 11)), .int (nI 13)]) (rest := [.int (nI (rbN f n 1024 i)), .ref q40, .ref q40, .ref q0]) ⟨hx, hb, hml, hown, hts⟩ (c_Row_bits l D cB h a n 1024 f (8 * i + 11) 13 (by omega) (by omega)) (z_cV hN wd_280 wd_61 wd_564 hd_Row_bits rfl rfl ⟨Nat.le_of_ble_eq_true rfl, Nat.le_of_ble_eq_true rfl⟩ wd_278 wd_279) (z_preV (va_recv (ci := 0) (q0 := 0) hK hP rfl rfl) hPc hKc hN) rfl rfl hl.1 rfl (lv_room (Nat.le_of_ble_eq_true rfl)) d_Tables_streamsOf_59 ⟨by show 1 + (1 + S.length) + 1 + 0 ≤ kpC n; omega, by show 3 + (10 * 1 + 2 * S.length) + 2 + 0 ≤ kpS n; omega⟩) (fun r59 e59 => ?_)
            refine z_topl (w := rw_bits f n 1024 (8 * i + 11) 13) e59 ?_
            refine lv_l2i (v := (rw_bits f n 1024 (8 * i + 11) 13).toInt32) hx hb d_Tables_streamsOf_62 rfl ?_
            refine z_topi (w := nI (bN f n 1024 (8 * i + 11) 13)) (bits_i (by omega)) ?_
            have hPc := hP.sub (ws' := [(q40, .inr (5, [.int 0, .int 0]))]) [4] rfl
            have hKc := hK.sub (tys' := []) [] rfl
            have hDc := hD.sub (ws' := [(q40, .inr (5, [.int 0, .int 0]))]) [4] (by decide) rfl
            have hFc := va_free (wc := [(q40, .inr (5, [.int 0, .int 0]))]) hD hS hA [4] rfl
            refine va_callv (va_runI (As := [.int ((soX f n i).1), .int (nI (soX f n i).2)]) (rest := [.ref q40, .ref q0]) ⟨hx, hb, hml, hown, hts⟩ (c_Stream_init l D H.size q40 ((soX f n i).1) (nI (soX f n i).2) ) (z_cI hN wd_632 wd_83 wd_630 hd_Stream_init rfl rfl ⟨Nat.le_of_ble_eq_true rfl, Nat.le_of_ble_eq_true rfl⟩ wd_631 rfl) (z_preSm hPc hKc hN hDc) rfl rfl hl.1 rfl (lv_room (Nat.le_of_ble_eq_true rfl)) d_Tables_streamsOf_63 ⟨by show 1 + (1 + S.length) + 1 + 0 ≤ kpC n; omega, by show 3 + (10 * 1 + 2 * S.length) + 2 + 0 ≤ kpS n; omega⟩) hS (fun q _ h => hFc q h) hFc (fun u63 t H locs ht hvm e63 hB hz1 hk1 hS => ?_)
            obtain ⟨hP1, hK1, hD1⟩ := hB
            rw [ht] at hP1
            obtain ⟨hP, hD⟩ := va_joinQ (cx := [(q40, .inr (5, [.int 0, .int 0]))]) (wr := [(h, .inr (0, [.ref a, .int (nI n)])), (a, .inl (cB, 1024, .inl f)), (q0, .inr (12, [.ref wq.1, .int (nI S.length), .int mo1])), (wq.1, .inl (cO, 10, .inr (.inr (.inr (.inr wq.2)))))]) (w1 := [(q40, .inr (5, [.int ((soX f n i).1), .int (nI (soX f n i).2)]))]) hP hD [4] [0, 1, 2, 3] rfl rfl (by decide) (by decide) hk1 hFc hP1 hD1
            clear hk1 hP1 hD1 hFc hPc hDc hz1
            have hP : va_P D classes ([(h, .inr (0, [.ref a, .int (nI n)])), (a, .inl (cB, 1024, .inl f)), (q0, .inr (12, [.ref wq.1, .int (nI S.length), .int mo1])), (wq.1, .inl (cO, 10, .inr (.inr (.inr (.inr wq.2))))), (q40, .inr (5, [.int ((soX f n i).1), .int (nI (soX f n i).2)]))] ++ (ex ++ Q)) H := hP
            have hD : va_D A ([(h, .inr (0, [.ref a, .int (nI n)])), (a, .inl (cB, 1024, .inl f)), (q0, .inr (12, [.ref wq.1, .int (nI S.length), .int mo1])), (wq.1, .inl (cO, 10, .inr (.inr (.inr (.inr wq.2))))), (q40, .inr (5, [.int ((soX f n i).1), .int (nI (soX f n i).2)]))] ++ (ex ++ Q)) := hD
            have hPc := hP.sub (ws' := [(q0, .inr (12, [.ref wq.1, .int (nI S.length), .int mo1])), (wq.1, .inl (cO, 10, .inr (.inr (.inr (.inr wq.2))))), (q40, .inr (5, [.int (soX f n i).1, .int (nI (soX f n i).2)]))]) [2, 3, 4] rfl
            have hKc := hK.sub (tys' := [(cO, .object "java/lang/Object")]) [1] rfl
            have hDc := hD.sub (ws' := [(q0, .inr (12, [.ref wq.1, .int (nI S.length), .int mo1])), (wq.1, .inl (cO, 10, .inr (.inr (.inr (.inr wq.2))))), (q40, .inr (5, [.int (soX f n i).1, .int (nI (soX f n i).2)]))]) [2, 3, 4] (by decide) rfl
            have hFc := va_free (wc := [(q0, .inr (12, [.ref wq.1, .int (nI S.length), .int mo1])), (wq.1, .inl (cO, 10, .inr (.inr (.inr (.inr wq.2))))), (q40, .inr (5, [.int (soX f n i).1, .int (nI (soX f n i).2)]))]) hD hS hA [2, 3, 4] rfl
            refine va_calli (va_runV (As := [.ref q40]) (rest := []) ⟨hx, hb, hml, hown, hts⟩ (c_AL_add0 l D H.size cO q0 wq.1 S.length mo1 wq.2 q40 5 [.int (soX f n i).1, .int (nI (soX f n i).2)] (R_Stream, F_Stream, 2) (by omega) rfl wd_1502) (z_cV hN wd_465 wd_66 wd_620 hd_AL_add0 rfl rfl ⟨Nat.le_of_ble_eq_true rfl, Nat.le_of_ble_eq_true rfl⟩ wd_463 wd_464) (z_preVm (va_recv (ci := 12) (q0 := 2) hK hP rfl rfl) hPc hKc hN hDc) rfl rfl hl.1 rfl (lv_room (Nat.le_of_ble_eq_true rfl)) d_Tables_streamsOf_66 ⟨by show 1 + (1 + S.length) + 1 + 0 ≤ kpC n; omega, by show 3 + (10 * 1 + 2 * S.length) + 2 + 0 ≤ kpS n; omega⟩) hS (fun q _ h => hFc q h) hFc (fun r66 u66 t H locs ht hvm e66 hB hz1 hk1 hS => ?_)
            obtain ⟨hP1, hK1, hD1⟩ := hB
            rw [ht] at hP1
            obtain ⟨hP, hD⟩ := va_joinQ (cx := [(q0, .inr (12, [.ref wq.1, .int (nI S.length), .int mo1])), (wq.1, .inl (cO, 10, .inr (.inr (.inr (.inr wq.2))))), (q40, .inr (5, [.int (soX f n i).1, .int (nI (soX f n i).2)]))]) (wr := [(h, .inr (0, [.ref a, .int (nI n)])), (a, .inl (cB, 1024, .inl f))]) (w1 := [(q0, .inr (12, [.ref wq.1, .int (nI (S.length + 1)), .int (mo1 + 1)])), (wq.1, .inl (cO, 10, .inr (.inr (.inr (.inr (va_up wq.2 S.length (some q40))))))), (q40, .inr (5, [.int (soX f n i).1, .int (nI (soX f n i).2)]))]) hP hD [2, 3, 4] [0, 1] rfl rfl (by decide) (by decide) hk1 hFc hP1 hD1
            clear hk1 hP1 hD1 hFc hPc hDc hz1
            have hP : va_P D classes ([(h, .inr (0, [.ref a, .int (nI n)])), (a, .inl (cB, 1024, .inl f)), (q0, .inr (12, [.ref wq.1, .int (nI (S.length + 1)), .int (mo1 + 1)])), (wq.1, .inl (cO, 10, .inr (.inr (.inr (.inr (va_up wq.2 S.length (some q40))))))), (q40, .inr (5, [.int (soX f n i).1, .int (nI (soX f n i).2)]))] ++ (ex ++ Q)) H := hP
            have hD : va_D A ([(h, .inr (0, [.ref a, .int (nI n)])), (a, .inl (cB, 1024, .inl f)), (q0, .inr (12, [.ref wq.1, .int (nI (S.length + 1)), .int (mo1 + 1)])), (wq.1, .inl (cO, 10, .inr (.inr (.inr (.inr (va_up wq.2 S.length (some q40))))))), (q40, .inr (5, [.int (soX f n i).1, .int (nI (soX f n i).2)]))] ++ (ex ++ Q)) := hD
            refine lv_pop hx hb d_Tables_streamsOf_69 rfl ?_
            refine lv_iload_n hx hb d_Tables_streamsOf_70 rfl (lv_at hl 2 rfl) ?_
            refine lv_iconst (v := 5) hx hb d_Tables_streamsOf_71 (by decide) ?_
            refine lv_aload_n hx hb d_Tables_streamsOf_72 rfl (lv_at hl 0 rfl) ?_
            refine lv_bipush (v := 8) hx hb d_Tables_streamsOf_73 (by decide) ?_
            refine lv_iload_n hx hb d_Tables_streamsOf_75 rfl (lv_at hl 2 rfl) ?_
            refine lv_imul hx hb d_Tables_streamsOf_76 ?_
            refine z_topi (w := nI (8 * i)) (pk_mul 8 _) ?_
            refine lv_bipush (v := 28) hx hb d_Tables_streamsOf_77 (by decide) ?_
            refine lv_iadd hx hb d_Tables_streamsOf_79 ?_
            refine z_topi (w := nI (8 * i + 28)) (nI_add _ 28) ?_
            refine lv_bipush (v := 12) hx hb d_Tables_streamsOf_80 (by decide) ?_
            have hPc := hP.sub (ws' := [(h, .inr (0, [.ref a, .int (nI n)])), (a, .inl (cB, 1024, .inl f))]) [0, 1] rfl
            have hKc := hK.sub (tys' := [(cB, .byte)]) [0] rfl
            refine z_cl (va_runV (As := [.int (nI (8 * i + 28)), .int (nI 12)]) (rest := [.int 5, .int (nI i)]) ⟨hx, hb, hml, hown, hts⟩ (c_Row_bits l D cB h a n 1024 f (8 * i + 28) 12 (by omega) (by omega)) (z_cV hN wd_280 wd_61 wd_564 hd_Row_bits rfl rfl ⟨Nat.le_of_ble_eq_true rfl, Nat.le_of_ble_eq_true rfl⟩ wd_278 wd_279) (z_preV (va_recv (ci := 0) (q0 := 0) hK hP rfl rfl) hPc hKc hN) rfl rfl hl.1 rfl (lv_room (Nat.le_of_ble_eq_true rfl)) d_Tables_streamsOf_82 ⟨by show 1 + (1 + S.length) + 1 + 0 ≤ kpC n; omega, by show 3 + (10 * 1 + 2 * S.length) + 2 + 0 ≤ kpS n; omega⟩) (fun r82 e82 => ?_)
            refine z_topl (w := rw_bits f n 1024 (8 * i + 28) 12) e82 ?_
            refine lv_l2i (v := (rw_bits f n 1024 (8 * i + 28) 12).toInt32) hx hb d_Tables_streamsOf_85 rfl ?_
            refine z_topi (w := nI (bN f n 1024 (8 * i + 28) 12)) (bits_i (by omega)) ?_
            refine lv_iadd hx hb d_Tables_streamsOf_86 ?_
            refine z_topi (w := nI (5 + bN f n 1024 (8 * i + 28) 12)) (nI_add 5 _) ?_
            refine lv_iadd hx hb d_Tables_streamsOf_87 ?_
            refine z_topi (w := nI (i + (5 + bN f n 1024 (8 * i + 28) 12))) (nI_add _ _) ?_
            refine lv_istore_n (lv' := [(2, .int (nI (i + (5 + bN f n 1024 (8 * i + 28) 12)))), (0, .ref h), (1, .ref q0)]) hx hb d_Tables_streamsOf_88 rfl hl (by decide) rfl (fun ls hl => ?_)
            refine lv_goto (tgt := 21) hx hb d_Tables_streamsOf_89 rfl ?_
            have hn9 : S.length + 1 = (S ++ [(soX f n i)]).length := by rw [List.length_append, List.length_singleton]
            rw [hn9] at hP hD
            have hP : va_P D classes ([(h, .inr (0, [.ref a, .int (nI n)])), (a, .inl (cB, 1024, .inl f))] ++ (wlc cO e0 q0 ((S ++ [(soX f n i)]).length) (mo1 + 1) (some (wq.1, va_up wq.2 S.length (some q40))) ++ (((q40, smE (soX f n i).1 (soX f n i).2) :: ex) ++ Q))) H := hP
            have hD : va_D A ([(h, .inr (0, [.ref a, .int (nI n)])), (a, .inl (cB, 1024, .inl f))] ++ (wlc cO e0 q0 ((S ++ [(soX f n i)]).length) (mo1 + 1) (some (wq.1, va_up wq.2 S.length (some q40))) ++ (((q40, smE (soX f n i).1 (soX f n i).2) :: ex) ++ Q))) := hD
            refine W.widen (k := 1 + (scn (some (wq.1, va_up wq.2 S.length (some q40))) + (S ++ [(soX f n i)]).length)) (n := 3 + (10 * scn (some (wq.1, va_up wq.2 S.length (some q40))) + 2 * (S ++ [(soX f n i)]).length)) (by show 1 + (1 + S.length) + 1 ≤ 1 + (1 + (S ++ [(soX f n i)]).length); rw [List.length_append, List.length_singleton]; omega) (by show 3 + (10 * 1 + 2 * S.length) + 2 ≤ 3 + (10 * 1 + 2 * (S ++ [(soX f n i)]).length); rw [List.length_append, List.length_singleton]; omega) ?_
            exact ih21 (i + (5 + bN f n 1024 (8 * i + 28) 12)) (S ++ [(soX f n i)]) (some (wq.1, va_up wq.2 S.length (some q40))) (mo1 + 1) ((q40, smE (soX f n i).1 (soX f n i).2) :: ex) H locs ls (by rw [List.length_append, List.length_singleton]; omega) (by omega) (by omega) (by rw [List.length_append, List.length_singleton]; omega) (sok_add hsk9 hpx) (fun _ => by omega) (by rw [List.length_append, List.length_singleton]; exact so_step (by rw [show 4 - (S.length + 1) + 1 = 4 - S.length by omega]; exact hrun) h28) (lv_sub hl [1, 2, 0] rfl) hP hD hS
  exact loop21 _ (12 + bN f n 1024 84 12) [] none 0 [] H locs ls (Nat.lt_succ_self _) (by omega) (by omega) (Nat.zero_le _) rfl (fun z => absurd rfl z) rfl (lv_sub hl [2, 1, 0] rfl) hP hD hS
