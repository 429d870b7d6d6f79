theorem wd_36 : (Jvm.Cond.selects "StreamSplitterModel" ({ cls := "StreamSplitterModel", name := "finish", desc := "(I)V" } : Jvm.MethodName) ({ cls := "StreamSplitterModel", name := "finish", desc := "(I)V" } : Jvm.MethodName)) ∈ lw_ok := List.mem_filter.mpr ⟨List.mem_of_getElem? (i := 36) (by decide +kernel), rfl⟩
theorem wd_1099 : (Jvm.Cond.fieldLink "StreamSplitterModel" (39 : Nat) "StreamSplitterModel" "kinds" "[I") ∈ lw_ok := List.mem_filter.mpr ⟨List.mem_of_getElem? (i := 1099) (by decide +kernel), rfl⟩
theorem wd_1100 : (Jvm.Cond.fieldLink "StreamSplitterModel" (42 : Nat) "StreamSplitterModel" "wanted" "[I") ∈ lw_ok := List.mem_filter.mpr ⟨List.mem_of_getElem? (i := 1100) (by decide +kernel), rfl⟩
theorem wd_1101 : (Jvm.Cond.fieldLink "StreamSplitterModel" (45 : Nat) "StreamSplitterModel" "sums" "[I") ∈ lw_ok := List.mem_filter.mpr ⟨List.mem_of_getElem? (i := 1101) (by decide +kernel), rfl⟩
theorem wd_1102 : (Jvm.Cond.fieldLink "StreamSplitterModel" (48 : Nat) "StreamSplitterModel" "times" "[J") ∈ lw_ok := List.mem_filter.mpr ⟨List.mem_of_getElem? (i := 1102) (by decide +kernel), rfl⟩
theorem wd_1105 : (Jvm.Cond.fieldLink "StreamSplitterModel" (54 : Nat) "StreamSplitterModel" "packet" "[I") ∈ lw_ok := List.mem_filter.mpr ⟨List.mem_of_getElem? (i := 1105) (by decide +kernel), rfl⟩
theorem wd_1323 : (Jvm.Cond.methodLink "StreamSplitterModel" (258 : Nat) ({ cls := "StreamSplitterModel", name := "finish", desc := "(I)V" } : Jvm.MethodName)) ∈ lw_ok := List.mem_filter.mpr ⟨List.mem_of_getElem? (i := 1323) (by decide +kernel), rfl⟩
theorem wd_1325 : (Jvm.Cond.instanceMethod ({ cls := "StreamSplitterModel", name := "finish", desc := "(I)V" } : Jvm.MethodName)) ∈ lw_ok := List.mem_filter.mpr ⟨List.mem_of_getElem? (i := 1325) (by decide +kernel), rfl⟩
set_option maxRecDepth 100000 in
theorem wd_1326 : (Jvm.Cond.code ({ cls := "StreamSplitterModel", name := "finish", desc := "(I)V" } : Jvm.MethodName) prog_14_method_31_code (3 : Nat) (Option.none : Option Jvm.ClassFile.FieldType)) ∈ lw_ok := List.mem_filter.mpr ⟨List.mem_of_getElem? (i := 1326) (by rfl), rfl⟩
theorem hd_Mo_finish : y_Mo_finish.cls ≠ "java/lang/invoke/MethodHandle" ∧ y_Mo_finish.cls ≠ "java/lang/invoke/VarHandle" ∧ (parseMethodDescriptor y_Mo_finish.desc).map (fun d => d.parameters.length) = some 1 := by decide +kernel
theorem d_Mo_finish_0 : decode b_Mo_finish 0 = .ok (.iconst 5, 1) := by decide +kernel
theorem d_Mo_finish_1 : decode b_Mo_finish 1 = .ok (.aload_n 0, 1) := by decide +kernel
theorem d_Mo_finish_2 : decode b_Mo_finish 2 = .ok (.getfield 255, 3) := by decide +kernel
theorem d_Mo_finish_5 : decode b_Mo_finish 5 = .ok (.bipush 16, 2) := by decide +kernel
theorem d_Mo_finish_7 : decode b_Mo_finish 7 = .ok (.irem, 1) := by decide +kernel
theorem d_Mo_finish_8 : decode b_Mo_finish 8 = .ok (.imul, 1) := by decide +kernel
theorem d_Mo_finish_9 : decode b_Mo_finish 9 = .ok (.istore_n 2, 1) := by decide +kernel
theorem d_Mo_finish_10 : decode b_Mo_finish 10 = .ok (.aload_n 0, 1) := by decide +kernel
theorem d_Mo_finish_11 : decode b_Mo_finish 11 = .ok (.getfield 130, 3) := by decide +kernel
theorem d_Mo_finish_14 : decode b_Mo_finish 14 = .ok (.iload_n 2, 1) := by decide +kernel
theorem d_Mo_finish_15 : decode b_Mo_finish 15 = .ok (.aload_n 0, 1) := by decide +kernel
theorem d_Mo_finish_16 : decode b_Mo_finish 16 = .ok (.getfield 27, 3) := by decide +kernel
theorem d_Mo_finish_19 : decode b_Mo_finish 19 = .ok (.iload_n 1, 1) := by decide +kernel
theorem d_Mo_finish_20 : decode b_Mo_finish 20 = .ok (.iaload, 1) := by decide +kernel
theorem d_Mo_finish_21 : decode b_Mo_finish 21 = .ok (.i2l, 1) := by decide +kernel
theorem d_Mo_finish_22 : decode b_Mo_finish 22 = .ok (.lastore, 1) := by decide +kernel
theorem d_Mo_finish_23 : decode b_Mo_finish 23 = .ok (.aload_n 0, 1) := by decide +kernel
theorem d_Mo_finish_24 : decode b_Mo_finish 24 = .ok (.getfield 130, 3) := by decide +kernel
theorem d_Mo_finish_27 : decode b_Mo_finish 27 = .ok (.iload_n 2, 1) := by decide +kernel
theorem d_Mo_finish_28 : decode b_Mo_finish 28 = .ok (.iconst 1, 1) := by decide +kernel
theorem d_Mo_finish_29 : decode b_Mo_finish 29 = .ok (.iadd, 1) := by decide +kernel
theorem d_Mo_finish_30 : decode b_Mo_finish 30 = .ok (.aload_n 0, 1) := by decide +kernel
theorem d_Mo_finish_31 : decode b_Mo_finish 31 = .ok (.getfield 39, 3) := by decide +kernel
theorem d_Mo_finish_34 : decode b_Mo_finish 34 = .ok (.iload_n 1, 1) := by decide +kernel
theorem d_Mo_finish_35 : decode b_Mo_finish 35 = .ok (.iaload, 1) := by decide +kernel
theorem d_Mo_finish_36 : decode b_Mo_finish 36 = .ok (.i2l, 1) := by decide +kernel
theorem d_Mo_finish_37 : decode b_Mo_finish 37 = .ok (.lastore, 1) := by decide +kernel
theorem d_Mo_finish_38 : decode b_Mo_finish 38 = .ok (.aload_n 0, 1) := by decide +kernel
theorem d_Mo_finish_39 : decode b_Mo_finish 39 = .ok (.getfield 130, 3) := by decide +kernel
theorem d_Mo_finish_42 : decode b_Mo_finish 42 = .ok (.iload_n 2, 1) := by decide +kernel
theorem d_Mo_finish_43 : decode b_Mo_finish 43 = .ok (.iconst 2, 1) := by decide +kernel
theorem d_Mo_finish_44 : decode b_Mo_finish 44 = .ok (.iadd, 1) := by decide +kernel
theorem d_Mo_finish_45 : decode b_Mo_finish 45 = .ok (.aload_n 0, 1) := by decide +kernel
theorem d_Mo_finish_46 : decode b_Mo_finish 46 = .ok (.getfield 48, 3) := by decide +kernel
theorem d_Mo_finish_49 : decode b_Mo_finish 49 = .ok (.iload_n 1, 1) := by decide +kernel
theorem d_Mo_finish_50 : decode b_Mo_finish 50 = .ok (.laload, 1) := by decide +kernel
theorem d_Mo_finish_51 : decode b_Mo_finish 51 = .ok (.lastore, 1) := by decide +kernel
theorem d_Mo_finish_52 : decode b_Mo_finish 52 = .ok (.aload_n 0, 1) := by decide +kernel
theorem d_Mo_finish_53 : decode b_Mo_finish 53 = .ok (.getfield 130, 3) := by decide +kernel
theorem d_Mo_finish_56 : decode b_Mo_finish 56 = .ok (.iload_n 2, 1) := by decide +kernel
theorem d_Mo_finish_57 : decode b_Mo_finish 57 = .ok (.iconst 3, 1) := by decide +kernel
theorem d_Mo_finish_58 : decode b_Mo_finish 58 = .ok (.iadd, 1) := by decide +kernel
theorem d_Mo_finish_59 : decode b_Mo_finish 59 = .ok (.aload_n 0, 1) := by decide +kernel
theorem d_Mo_finish_60 : decode b_Mo_finish 60 = .ok (.getfield 36, 3) := by decide +kernel
theorem d_Mo_finish_63 : decode b_Mo_finish 63 = .ok (.iload_n 1, 1) := by decide +kernel
theorem d_Mo_finish_64 : decode b_Mo_finish 64 = .ok (.iaload, 1) := by decide +kernel
theorem d_Mo_finish_65 : decode b_Mo_finish 65 = .ok (.i2l, 1) := by decide +kernel
theorem d_Mo_finish_66 : decode b_Mo_finish 66 = .ok (.lastore, 1) := by decide +kernel
theorem d_Mo_finish_67 : decode b_Mo_finish 67 = .ok (.aload_n 0, 1) := by decide +kernel
theorem d_Mo_finish_68 : decode b_Mo_finish 68 = .ok (.getfield 130, 3) := by decide +kernel
theorem d_Mo_finish_71 : decode b_Mo_finish 71 = .ok (.iload_n 2, 1) := by decide +kernel
theorem d_Mo_finish_72 : decode b_Mo_finish 72 = .ok (.iconst 4, 1) := by decide +kernel
theorem d_Mo_finish_73 : decode b_Mo_finish 73 = .ok (.iadd, 1) := by decide +kernel
theorem d_Mo_finish_74 : decode b_Mo_finish 74 = .ok (.aload_n 0, 1) := by decide +kernel
theorem d_Mo_finish_75 : decode b_Mo_finish 75 = .ok (.getfield 45, 3) := by decide +kernel
theorem d_Mo_finish_78 : decode b_Mo_finish 78 = .ok (.iload_n 1, 1) := by decide +kernel
theorem d_Mo_finish_79 : decode b_Mo_finish 79 = .ok (.iaload, 1) := by decide +kernel
theorem d_Mo_finish_80 : decode b_Mo_finish 80 = .ok (.i2l, 1) := by decide +kernel
theorem d_Mo_finish_81 : decode b_Mo_finish 81 = .ok (.lastore, 1) := by decide +kernel
theorem d_Mo_finish_82 : decode b_Mo_finish 82 = .ok (.aload_n 0, 1) := by decide +kernel
theorem d_Mo_finish_83 : decode b_Mo_finish 83 = .ok (.dup, 1) := by decide +kernel
theorem d_Mo_finish_84 : decode b_Mo_finish 84 = .ok (.getfield 255, 3) := by decide +kernel
theorem d_Mo_finish_87 : decode b_Mo_finish 87 = .ok (.iconst 1, 1) := by decide +kernel
theorem d_Mo_finish_88 : decode b_Mo_finish 88 = .ok (.iadd, 1) := by decide +kernel
theorem d_Mo_finish_89 : decode b_Mo_finish 89 = .ok (.putfield 255, 3) := by decide +kernel
theorem d_Mo_finish_92 : decode b_Mo_finish 92 = .ok (.aload_n 0, 1) := by decide +kernel
theorem d_Mo_finish_93 : decode b_Mo_finish 93 = .ok (.getfield 13, 3) := by decide +kernel
theorem d_Mo_finish_96 : decode b_Mo_finish 96 = .ok (.bipush 9, 2) := by decide +kernel
theorem d_Mo_finish_98 : decode b_Mo_finish 98 = .ok (.dup2, 1) := by decide +kernel
theorem d_Mo_finish_99 : decode b_Mo_finish 99 = .ok (.iaload, 1) := by decide +kernel
theorem d_Mo_finish_100 : decode b_Mo_finish 100 = .ok (.iconst 1, 1) := by decide +kernel
theorem d_Mo_finish_101 : decode b_Mo_finish 101 = .ok (.iadd, 1) := by decide +kernel
theorem d_Mo_finish_102 : decode b_Mo_finish 102 = .ok (.iastore, 1) := by decide +kernel
theorem d_Mo_finish_103 : decode b_Mo_finish 103 = .ok (.aload_n 0, 1) := by decide +kernel
theorem d_Mo_finish_104 : decode b_Mo_finish 104 = .ok (.getfield 27, 3) := by decide +kernel
theorem d_Mo_finish_107 : decode b_Mo_finish 107 = .ok (.iload_n 1, 1) := by decide +kernel
theorem d_Mo_finish_108 : decode b_Mo_finish 108 = .ok (.iconst (-1), 1) := by decide +kernel
theorem d_Mo_finish_109 : decode b_Mo_finish 109 = .ok (.iastore, 1) := by decide +kernel
theorem d_Mo_finish_110 : decode b_Mo_finish 110 = .ok (.return_, 1) := by decide +kernel
theorem d_Mo_gather_0 : decode b_Mo_gather 0 = .ok (.iload_n 2, 1) := by decide +kernel
theorem d_Mo_gather_1 : decode b_Mo_gather 1 = .ok (.istore_n 3, 1) := by decide +kernel
theorem d_Mo_gather_2 : decode b_Mo_gather 2 = .ok (.iload_n 3, 1) := by decide +kernel
theorem d_Mo_gather_3 : decode b_Mo_gather 3 = .ok (.sipush 188, 3) := by decide +kernel
theorem d_Mo_gather_6 : decode b_Mo_gather 6 = .ok (.if_icmp .ge 56, 3) := by decide +kernel
theorem d_Mo_gather_9 : decode b_Mo_gather 9 = .ok (.aload_n 0, 1) := by decide +kernel
theorem d_Mo_gather_10 : decode b_Mo_gather 10 = .ok (.getfield 36, 3) := by decide +kernel
theorem d_Mo_gather_13 : decode b_Mo_gather 13 = .ok (.iload_n 1, 1) := by decide +kernel
theorem d_Mo_gather_14 : decode b_Mo_gather 14 = .ok (.iaload, 1) := by decide +kernel
theorem d_Mo_gather_15 : decode b_Mo_gather 15 = .ok (.aload_n 0, 1) := by decide +kernel
theorem d_Mo_gather_16 : decode b_Mo_gather 16 = .ok (.getfield 42, 3) := by decide +kernel
theorem d_Mo_gather_19 : decode b_Mo_gather 19 = .ok (.iload_n 1, 1) := by decide +kernel
theorem d_Mo_gather_20 : decode b_Mo_gather 20 = .ok (.iaload, 1) := by decide +kernel
theorem d_Mo_gather_21 : decode b_Mo_gather 21 = .ok (.if_icmp .eq 41, 3) := by decide +kernel
theorem d_Mo_gather_24 : decode b_Mo_gather 24 = .ok (.aload_n 0, 1) := by decide +kernel
theorem d_Mo_gather_25 : decode b_Mo_gather 25 = .ok (.getfield 45, 3) := by decide +kernel
theorem d_Mo_gather_28 : decode b_Mo_gather 28 = .ok (.iload_n 1, 1) := by decide +kernel
theorem d_Mo_gather_29 : decode b_Mo_gather 29 = .ok (.bipush 31, 2) := by decide +kernel
theorem d_Mo_gather_31 : decode b_Mo_gather 31 = .ok (.aload_n 0, 1) := by decide +kernel
theorem d_Mo_gather_32 : decode b_Mo_gather 32 = .ok (.getfield 45, 3) := by decide +kernel
theorem d_Mo_gather_35 : decode b_Mo_gather 35 = .ok (.iload_n 1, 1) := by decide +kernel
theorem d_Mo_gather_36 : decode b_Mo_gather 36 = .ok (.iaload, 1) := by decide +kernel
theorem d_Mo_gather_37 : decode b_Mo_gather 37 = .ok (.imul, 1) := by decide +kernel
theorem d_Mo_gather_38 : decode b_Mo_gather 38 = .ok (.aload_n 0, 1) := by decide +kernel
theorem d_Mo_gather_39 : decode b_Mo_gather 39 = .ok (.getfield 54, 3) := by decide +kernel
theorem d_Mo_gather_42 : decode b_Mo_gather 42 = .ok (.iload_n 3, 1) := by decide +kernel
theorem d_Mo_gather_43 : decode b_Mo_gather 43 = .ok (.iaload, 1) := by decide +kernel
theorem d_Mo_gather_44 : decode b_Mo_gather 44 = .ok (.iadd, 1) := by decide +kernel
theorem d_Mo_gather_45 : decode b_Mo_gather 45 = .ok (.iastore, 1) := by decide +kernel
theorem d_Mo_gather_46 : decode b_Mo_gather 46 = .ok (.aload_n 0, 1) := by decide +kernel
theorem d_Mo_gather_47 : decode b_Mo_gather 47 = .ok (.getfield 36, 3) := by decide +kernel
theorem d_Mo_gather_50 : decode b_Mo_gather 50 = .ok (.iload_n 1, 1) := by decide +kernel
theorem d_Mo_gather_51 : decode b_Mo_gather 51 = .ok (.dup2, 1) := by decide +kernel
theorem d_Mo_gather_52 : decode b_Mo_gather 52 = .ok (.iaload, 1) := by decide +kernel
theorem d_Mo_gather_53 : decode b_Mo_gather 53 = .ok (.iconst 1, 1) := by decide +kernel
theorem d_Mo_gather_54 : decode b_Mo_gather 54 = .ok (.iadd, 1) := by decide +kernel
theorem d_Mo_gather_55 : decode b_Mo_gather 55 = .ok (.iastore, 1) := by decide +kernel
theorem d_Mo_gather_56 : decode b_Mo_gather 56 = .ok (.iinc 3 1, 3) := by decide +kernel
theorem d_Mo_gather_59 : decode b_Mo_gather 59 = .ok (.goto (-57), 3) := by decide +kernel
theorem d_Mo_gather_62 : decode b_Mo_gather 62 = .ok (.aload_n 0, 1) := by decide +kernel
theorem d_Mo_gather_63 : decode b_Mo_gather 63 = .ok (.getfield 36, 3) := by decide +kernel
theorem d_Mo_gather_66 : decode b_Mo_gather 66 = .ok (.iload_n 1, 1) := by decide +kernel
theorem d_Mo_gather_67 : decode b_Mo_gather 67 = .ok (.iaload, 1) := by decide +kernel
theorem d_Mo_gather_68 : decode b_Mo_gather 68 = .ok (.aload_n 0, 1) := by decide +kernel
theorem d_Mo_gather_69 : decode b_Mo_gather 69 = .ok (.getfield 42, 3) := by decide +kernel
theorem d_Mo_gather_72 : decode b_Mo_gather 72 = .ok (.iload_n 1, 1) := by decide +kernel
theorem d_Mo_gather_73 : decode b_Mo_gather 73 = .ok (.iaload, 1) := by decide +kernel
theorem d_Mo_gather_74 : decode b_Mo_gather 74 = .ok (.if_icmp .ne 8, 3) := by decide +kernel
theorem d_Mo_gather_77 : decode b_Mo_gather 77 = .ok (.aload_n 0, 1) := by decide +kernel
theorem d_Mo_gather_78 : decode b_Mo_gather 78 = .ok (.iload_n 1, 1) := by decide +kernel
theorem d_Mo_gather_79 : decode b_Mo_gather 79 = .ok (.invokevirtual 258, 3) := by decide +kernel
theorem d_Mo_gather_82 : decode b_Mo_gather 82 = .ok (.return_, 1) := by decide +kernel
/-! The reference's pieces -/
def dnU (dn : Nat → Int64) (i : Nat) (a b : Int32) (t : Int64) (c d : Int32) : Nat → Int64 := vp_updL (vp_updL (vp_updL (vp_updL (vp_updL dn i a.toInt64) (i + 1) b.toInt64) (i + 2) t) (i + 3) c.toInt64) (i + 4) d.toInt64
abbrev FQ := Nat × (Nat → Int32) × (Nat → Int32) × (Nat → Int64)
def fnU (z : FQ) (k : Nat) (kd : Int32) (t : Int64) (c d : Int32) : FQ := (z.1 + 1, upd z.2.1 9 (z.2.1 9 + 1), upd z.2.2.1 k (-1), dnU z.2.2.2 (5 * (z.1 % 16)) (z.2.2.1 k) kd t c d)
def gaS (pk : Nat → Int32) (x : Int32) (fr : Nat) : Nat → Int32
  | 0 => x
  | j + 1 => 31 * gaS pk x fr j + pk (fr + j)
theorem ga_z (x : Int32) (j : Nat) : (x + nI j) + 1 = x + nI (j + 1) := by
  rw [← nI_1, Int32.add_assoc]
theorem ga_0 (x : Int32) : x + nI 0 = x := Int32.add_zero x

set_option maxHeartbeats 4000000 in
set_option maxRecDepth 100000 in
theorem c_Mo_finish (l : Launch) (D : va_G) (sz : Nat) (cI : ClassId) (h : Nat) (r : Nat → Nat) (th si le lv pg pl rs : Int32) (cJ : ClassId) (np : Nat) (tl sP sZ kd su : Nat → Int32) (ti dn : Nat → Int64) (k : Nat) (hk : k < 24) (hnp : np < 2 ^ 30) : Met l y_Mo_finish [Cond.code y_Mo_finish b_Mo_finish 3 none] ({ frames := 0, cells := 0, slots := 0, locals := 0 }) (zM [.ref h, .int (nI k)] D [(h, .inr (13, mO r th si le lv pg (nI np) pl rs)), (r 3, .inl (cI, 10, .inl tl)), (r 7, .inl (cI, 24, .inl sP)), (r 10, .inl (cI, 24, .inl sZ)), (r 11, .inl (cI, 24, .inl kd)), (r 13, .inl (cI, 24, .inl su)), (r 14, .inl (cJ, 24, .inr (.inl ti))), (r 43, .inl (cJ, 80, .inr (.inl dn)))] [(cI, .int), (cJ, .long)] sz) (va_Qv (fun (u : FQ) => u = fnU (np, tl, sP, dn) k (kd k) (ti k) (sZ k) (su k)) (fun (u : FQ) t => zW D (va_A [(h, .inr (13, mO r th si le lv pg (nI np) pl rs)), (r 3, .inl (cI, 10, .inl tl)), (r 7, .inl (cI, 24, .inl sP)), (r 10, .inl (cI, 24, .inl sZ)), (r 11, .inl (cI, 24, .inl kd)), (r 13, .inl (cI, 24, .inl su)), (r 14, .inl (cJ, 24, .inr (.inl ti))), (r 43, .inl (cJ, 80, .inr (.inl dn)))] sz) [(h, .inr (13, mO r th si le lv pg (nI u.1) pl rs)), (r 3, .inl (cI, 10, .inl u.2.1)), (r 7, .inl (cI, 24, .inl u.2.2.1)), (r 10, .inl (cI, 24, .inl sZ)), (r 11, .inl (cI, 24, .inl kd)), (r 13, .inl (cI, 24, .inl su)), (r 14, .inl (cJ, 24, .inr (.inl ti))), (r 43, .inl (cJ, 80, .inr (.inl u.2.2.2)))] [(cI, .int), (cJ, .long)] t) (va_A [(h, .inr (13, mO r th si le lv pg (nI np) pl rs)), (r 3, .inl (cI, 10, .inl tl)), (r 7, .inl (cI, 24, .inl sP)), (r 10, .inl (cI, 24, .inl sZ)), (r 11, .inl (cI, 24, .inl kd)), (r 13, .inl (cI, 24, .inl su)), (r 14, .inl (cJ, 24, .inr (.inl ti))), (r 43, .inl (cJ, 80, .inr (.inl dn)))] sz)) 0 0 (va_A [(h, .inr (13, mO r th si le lv pg (nI np) pl rs)), (r 3, .inl (cI, 10, .inl tl)), (r 7, .inl (cI, 24, .inl sP)), (r 10, .inl (cI, 24, .inl sZ)), (r 11, .inl (cI, 24, .inl kd)), (r 13, .inl (cI, 24, .inl su)), (r 14, .inl (cJ, 24, .inr (.inl ti))), (r 43, .inl (cJ, 80, .inr (.inl dn)))] sz) := by
  refine Met.ofW (cc := b_Mo_finish) (maxL := 3) (ret := none) (by decide) rfl ?_
  intro p e s m args below meth cd s₁ Bd hml hv
  obtain ⟨rfl, hsz, hP, hK, hN, hD0⟩ := hv
  have hx := Bd.exec
  have hb := Bd.bytes
  have hr := Bd.returns
  have hts := hN.use (a := ([.ref h, .int (nI k)]).toArray)
  have hown : s.vm.findClass R_Mo = some m.cls := findClass_of_methodNamed Bd.named
  have hlocks := Bd.notSynchronized
  subst hsz
  have hD := hD0.self (sz := s.heap.size)
  clear hD0
  have hA : ∀ q : Nat, s.heap.size ≤ q → va_A [(h, .inr (13, mO r th si le lv pg (nI np) pl rs)), (r 3, .inl (cI, 10, .inl tl)), (r 7, .inl (cI, 24, .inl sP)), (r 10, .inl (cI, 24, .inl sZ)), (r 11, .inl (cI, 24, .inl kd)), (r 13, .inl (cI, 24, .inl su)), (r 14, .inl (cJ, 24, .inr (.inl ti))), (r 43, .inl (cJ, 80, .inr (.inl dn)))] s.heap.size q := fun q h => Or.inr h
  have hS : va_S (va_A [(h, .inr (13, mO r th si le lv pg (nI np) pl rs)), (r 3, .inl (cI, 10, .inl tl)), (r 7, .inl (cI, 24, .inl sP)), (r 10, .inl (cI, 24, .inl sZ)), (r 11, .inl (cI, 24, .inl kd)), (r 13, .inl (cI, 24, .inl su)), (r 14, .inl (cJ, 24, .inr (.inl ti))), (r 43, .inl (cJ, 80, .inr (.inl dn)))] s.heap.size) s.heap s.heap [] := va_S.rf
  generalize hAe : va_A [(h, .inr (13, mO r th si le lv pg (nI np) pl rs)), (r 3, .inl (cI, 10, .inl tl)), (r 7, .inl (cI, 24, .inl sP)), (r 10, .inl (cI, 24, .inl sZ)), (r 11, .inl (cI, 24, .inl kd)), (r 13, .inl (cI, 24, .inl su)), (r 14, .inl (cJ, 24, .inr (.inl ti))), (r 43, .inl (cJ, 80, .inr (.inl dn)))] s.heap.size = A at hD hA hS ⊢
  have hP : va_P D classes [(h, .inr (13, mO r th si le lv pg (nI np) pl rs)), (r 3, .inl (cI, 10, .inl tl)), (r 7, .inl (cI, 24, .inl sP)), (r 10, .inl (cI, 24, .inl sZ)), (r 11, .inl (cI, 24, .inl kd)), (r 13, .inl (cI, 24, .inl su)), (r 14, .inl (cJ, 24, .inr (.inl ti))), (r 43, .inl (cJ, 80, .inr (.inl dn)))] s.heap := hP
  have hl := lv_entry ([.ref h, .int (nI k)]) (n := 3) (Nat.le_of_ble_eq_true rfl)
  rw [lg_entry_eq]
  generalize (lg_sl ([.ref h, .int (nI k)]) ++ List.replicate (3 - (lg_sl ([.ref h, .int (nI k)])).length) Slot.unset).toArray = ls at hl ⊢
  have hl : lv_has ls 3 [(0, .ref h), (1, .int (nI k))] := hl
  refine lv_iconst (v := 5) hx hb d_Mo_finish_0 (by decide) ?_
  refine lv_aload_n hx hb d_Mo_finish_1 rfl (lv_at hl 0 rfl) ?_
  refine va_get (D := D) (ci := 13) (v := .int (nI np)) (C := R_Mo) (T := F_Mo) (N := 54) hx hb hts i_Mo hown hK hP 0 rfl rfl 44 (by decide) (hts _ wd_1132) (fun _ h9 => h9) rfl d_Mo_finish_2 ?_
  refine lv_bipush (v := 16) hx hb d_Mo_finish_5 (by decide) ?_
  refine lv_irem hx hb d_Mo_finish_7 (by decide) ?_
  refine z_topi (w := nI (np % 16)) (pk_rem (d := 16) (by omega) (by omega) (by omega)) ?_
  refine lv_imul hx hb d_Mo_finish_8 ?_
  refine z_topi (w := nI (5 * (np % 16))) (pk_mul 5 _) ?_
  refine lv_istore_n (lv' := [(2, .int (nI (5 * (np % 16)))), (0, .ref h), (1, .int (nI k))]) hx hb d_Mo_finish_9 rfl hl (by decide) rfl (fun ls hl => ?_)
  refine lv_aload_n hx hb d_Mo_finish_10 rfl (lv_at hl 1 rfl) ?_
  refine va_get (D := D) (ci := 13) (v := .ref (r 43)) (C := R_Mo) (T := F_Mo) (N := 54) hx hb hts i_Mo hown hK hP 0 rfl rfl 43 (by decide) (hts _ wd_1131) (fun _ h9 => h9) rfl d_Mo_finish_11 ?_
  refine lv_iload_n hx hb d_Mo_finish_14 rfl (lv_at hl 0 rfl) ?_
  refine lv_aload_n hx hb d_Mo_finish_15 rfl (lv_at hl 1 rfl) ?_
  refine va_get (D := D) (ci := 13) (v := .ref (r 7)) (C := R_Mo) (T := F_Mo) (N := 54) hx hb hts i_Mo hown hK hP 0 rfl rfl 7 (by decide) (hts _ wd_1095) (fun _ h9 => h9) rfl d_Mo_finish_16 ?_
  refine lv_iload_n hx hb d_Mo_finish_19 rfl (lv_at hl 2 rfl) ?_
  refine z_iald hx hb hK hP 2 0 rfl rfl k rfl (by omega) (by omega) d_Mo_finish_20 ?_
  refine lv_i2l (v := (sP k).toInt64) hx hb d_Mo_finish_21 rfl ?_
  refine z_last hx hb hK hP hD hS 7 1 rfl rfl (5 * (np % 16)) rfl (by omega) (by omega) d_Mo_finish_22 (fun H locs hP hD hS => ?_)
  have hP : va_P D classes [(h, .inr (13, mO r th si le lv pg (nI np) pl rs)), (r 3, .inl (cI, 10, .inl tl)), (r 7, .inl (cI, 24, .inl sP)), (r 10, .inl (cI, 24, .inl sZ)), (r 11, .inl (cI, 24, .inl kd)), (r 13, .inl (cI, 24, .inl su)), (r 14, .inl (cJ, 24, .inr (.inl ti))), (r 43, .inl (cJ, 80, .inr (.inl (vp_updL dn (5 * (np % 16)) ((sP k).toInt64)))))] H := hP
  have hD : va_D A [(h, .inr (13, mO r th si le lv pg (nI np) pl rs)), (r 3, .inl (cI, 10, .inl tl)), (r 7, .inl (cI, 24, .inl sP)), (r 10, .inl (cI, 24, .inl sZ)), (r 11, .inl (cI, 24, .inl kd)), (r 13, .inl (cI, 24, .inl su)), (r 14, .inl (cJ, 24, .inr (.inl ti))), (r 43, .inl (cJ, 80, .inr (.inl (vp_updL dn (5 * (np % 16)) ((sP k).toInt64)))))] := hD
  refine lv_aload_n hx hb d_Mo_finish_23 rfl (lv_at hl 1 rfl) ?_
  refine va_get (D := D) (ci := 13) (v := .ref (r 43)) (C := R_Mo) (T := F_Mo) (N := 54) hx hb hts i_Mo hown hK hP 0 rfl rfl 43 (by decide) (hts _ wd_1131) (fun _ h9 => h9) rfl d_Mo_finish_24 ?_
  refine lv_iload_n hx hb d_Mo_finish_27 rfl (lv_at hl 0 rfl) ?_
  refine lv_iconst (v := 1) hx hb d_Mo_finish_28 (by decide) ?_
  refine lv_iadd hx hb d_Mo_finish_29 ?_
  refine z_topi (w := nI (5 * (np % 16) + 1)) (nI_add _ 1) ?_
  refine lv_aload_n hx hb d_Mo_finish_30 rfl (lv_at hl 1 rfl) ?_
  refine va_get (D := D) (ci := 13) (v := .ref (r 11)) (C := R_Mo) (T := F_Mo) (N := 54) hx hb hts i_Mo hown hK hP 0 rfl rfl 11 (by decide) (hts _ wd_1099) (fun _ h9 => h9) rfl d_Mo_finish_31 ?_
  refine lv_iload_n hx hb d_Mo_finish_34 rfl (lv_at hl 2 rfl) ?_
  refine z_iald hx hb hK hP 4 0 rfl rfl k rfl (by omega) (by omega) d_Mo_finish_35 ?_
  refine lv_i2l (v := (kd k).toInt64) hx hb d_Mo_finish_36 rfl ?_
  refine z_last hx hb hK hP hD hS 7 1 rfl rfl (5 * (np % 16) + 1) rfl (by omega) (by omega) d_Mo_finish_37 (fun H locs hP hD hS => ?_)
  have hP : va_P D classes [(h, .inr (13, mO r th si le lv pg (nI np) pl rs)), (r 3, .inl (cI, 10, .inl tl)), (r 7, .inl (cI, 24, .inl sP)), (r 10, .inl (cI, 24, .inl sZ)), (r 11, .inl (cI, 24, .inl kd)), (r 13, .inl (cI, 24, .inl su)), (r 14, .inl (cJ, 24, .inr (.inl ti))), (r 43, .inl (cJ, 80, .inr (.inl (vp_updL (vp_updL dn (5 * (np % 16)) ((sP k).toInt64)) (5 * (np % 16) + 1) ((kd k).toInt64)))))] H := hP
  have hD : va_D A [(h, .inr (13, mO r th si le lv pg (nI np) pl rs)), (r 3, .inl (cI, 10, .inl tl)), (r 7, .inl (cI, 24, .inl sP)), (r 10, .inl (cI, 24, .inl sZ)), (r 11, .inl (cI, 24, .inl kd)), (r 13, .inl (cI, 24, .inl su)), (r 14, .inl (cJ, 24, .inr (.inl ti))), (r 43, .inl (cJ, 80, .inr (.inl (vp_updL (vp_updL dn (5 * (np % 16)) ((sP k).toInt64)) (5 * (np % 16) + 1) ((kd k).toInt64)))))] := hD
  refine lv_aload_n hx hb d_Mo_finish_38 rfl (lv_at hl 1 rfl) ?_
  refine va_get (D := D) (ci := 13) (v := .ref (r 43)) (C := R_Mo) (T := F_Mo) (N := 54) hx hb hts i_Mo hown hK hP 0 rfl rfl 43 (by decide) (hts _ wd_1131) (fun _ h9 => h9) rfl d_Mo_finish_39 ?_
  refine lv_iload_n hx hb d_Mo_finish_42 rfl (lv_at hl 0 rfl) ?_
  refine lv_iconst (v := 2) hx hb d_Mo_finish_43 (by decide) ?_
  refine lv_iadd hx hb d_Mo_finish_44 ?_
  refine z_topi (w := nI (5 * (np % 16) + 2)) (nI_add _ 2) ?_
  refine lv_aload_n hx hb d_Mo_finish_45 rfl (lv_at hl 1 rfl) ?_
  refine va_get (D := D) (ci := 13) (v := .ref (r 14)) (C := R_Mo) (T := F_Mo) (N := 54) hx hb hts i_Mo hown hK hP 0 rfl rfl 14 (by decide) (hts _ wd_1102) (fun _ h9 => h9) rfl d_Mo_finish_46 ?_
  refine lv_iload_n hx hb d_Mo_finish_49 rfl (lv_at hl 2 rfl) ?_
  refine z_lald hx hb hK hP 6 1 rfl rfl k rfl (by omega) (by omega) d_Mo_finish_50 ?_
  refine z_last hx hb hK hP hD hS 7 1 rfl rfl (5 * (np % 16) + 2) rfl (by omega) (by omega) d_Mo_finish_51 (fun H locs hP hD hS => ?_)
  have hP : va_P D classes [(h, .inr (13, mO r th si le lv pg (nI np) pl rs)), (r 3, .inl (cI, 10, .inl tl)), (r 7, .inl (cI, 24, .inl sP)), (r 10, .inl (cI, 24, .inl sZ)), (r 11, .inl (cI, 24, .inl kd)), (r 13, .inl (cI, 24, .inl su)), (r 14, .inl (cJ, 24, .inr (.inl ti))), (r 43, .inl (cJ, 80, .inr (.inl (vp_updL (vp_updL (vp_updL dn (5 * (np % 16)) ((sP k).toInt64)) (5 * (np % 16) + 1) ((kd k).toInt64)) (5 * (np % 16) + 2) (ti k)))))] H := hP
  have hD : va_D A [(h, .inr (13, mO r th si le lv pg (nI np) pl rs)), (r 3, .inl (cI, 10, .inl tl)), (r 7, .inl (cI, 24, .inl sP)), (r 10, .inl (cI, 24, .inl sZ)), (r 11, .inl (cI, 24, .inl kd)), (r 13, .inl (cI, 24, .inl su)), (r 14, .inl (cJ, 24, .inr (.inl ti))), (r 43, .inl (cJ, 80, .inr (.inl (vp_updL (vp_updL (vp_updL dn (5 * (np % 16)) ((sP k).toInt64)) (5 * (np % 16) + 1) ((kd k).toInt64)) (5 * (np % 16) + 2) (ti k)))))] := hD
  refine lv_aload_n hx hb d_Mo_finish_52 rfl (lv_at hl 1 rfl) ?_
  refine va_get (D := D) (ci := 13) (v := .ref (r 43)) (C := R_Mo) (T := F_Mo) (N := 54) hx hb hts i_Mo hown hK hP 0 rfl rfl 43 (by decide) (hts _ wd_1131) (fun _ h9 => h9) rfl d_Mo_finish_53 ?_
  refine lv_iload_n hx hb d_Mo_finish_56 rfl (lv_at hl 0 rfl) ?_
  refine lv_iconst (v := 3) hx hb d_Mo_finish_57 (by decide) ?_
  refine lv_iadd hx hb d_Mo_finish_58 ?_
  refine z_topi (w := nI (5 * (np % 16) + 3)) (nI_add _ 3) ?_
  refine lv_aload_n hx hb d_Mo_finish_59 rfl (lv_at hl 1 rfl) ?_
  refine va_get (D := D) (ci := 13) (v := .ref (r 10)) (C := R_Mo) (T := F_Mo) (N := 54) hx hb hts i_Mo hown hK hP 0 rfl rfl 10 (by decide) (hts _ wd_1098) (fun _ h9 => h9) rfl d_Mo_finish_60 ?_
  refine lv_iload_n hx hb d_Mo_finish_63 rfl (lv_at hl 2 rfl) ?_
  refine z_iald hx hb hK hP 3 0 rfl rfl k rfl (by omega) (by omega) d_Mo_finish_64 ?_
  refine lv_i2l (v := (sZ k).toInt64) hx hb d_Mo_finish_65 rfl ?_
  refine z_last hx hb hK hP hD hS 7 1 rfl rfl (5 * (np % 16) + 3) rfl (by omega) (by omega) d_Mo_finish_66 (fun H locs hP hD hS => ?_)
  have hP : va_P D classes [(h, .inr (13, mO r th si le lv pg (nI np) pl rs)), (r 3, .inl (cI, 10, .inl tl)), (r 7, .inl (cI, 24, .inl sP)), (r 10, .inl (cI, 24, .inl sZ)), (r 11, .inl (cI, 24, .inl kd)), (r 13, .inl (cI, 24, .inl su)), (r 14, .inl (cJ, 24, .inr (.inl ti))), (r 43, .inl (cJ, 80, .inr (.inl (vp_updL (vp_updL (vp_updL (vp_updL dn (5 * (np % 16)) ((sP k).toInt64)) (5 * (np % 16) + 1) ((kd k).toInt64)) (5 * (np % 16) + 2) (ti k)) (5 * (np % 16) + 3) ((sZ k).toInt64)))))] H := hP
  have hD : va_D A [(h, .inr (13, mO r th si le lv pg (nI np) pl rs)), (r 3, .inl (cI, 10, .inl tl)), (r 7, .inl (cI, 24, .inl sP)), (r 10, .inl (cI, 24, .inl sZ)), (r 11, .inl (cI, 24, .inl kd)), (r 13, .inl (cI, 24, .inl su)), (r 14, .inl (cJ, 24, .inr (.inl ti))), (r 43, .inl (cJ, 80, .inr (.inl (vp_updL (vp_updL (vp_updL (vp_updL dn (5 * (np % 16)) ((sP k).toInt64)) (5 * (np % 16) + 1) ((kd k).toInt64)) (5 * (np % 16) + 2) (ti k)) (5 * (np % 16) + 3) ((sZ k).toInt64)))))] := hD
  refine lv_aload_n hx hb d_Mo_finish_67 rfl (lv_at hl 1 rfl) ?_
  refine va_get (D := D) (ci := 13) (v := .ref (r 43)) (C := R_Mo) (T := F_Mo) (N := 54) hx hb hts i_Mo hown hK hP 0 rfl rfl 43 (by decide) (hts _ wd_1131) (fun _ h9 => h9) rfl d_Mo_finish_68 ?_
  refine lv_iload_n hx hb d_Mo_finish_71 rfl (lv_at hl 0 rfl) ?_
  refine lv_iconst (v := 4) hx hb d_Mo_finish_72 (by decide) ?_
  refine lv_iadd hx hb d_Mo_finish_73 ?_
  refine z_topi (w := nI (5 * (np % 16) + 4)) (nI_add _ 4) ?_
  refine lv_aload_n hx hb d_Mo_finish_74 rfl (lv_at hl 1 rfl) ?_
  refine va_get (D := D) (ci := 13) (v := .ref (r 13)) (C := R_Mo) (T := F_Mo) (N := 54) hx hb hts i_Mo hown hK hP 0 rfl rfl 13 (by decide) (hts _ wd_1101) (fun _ h9 => h9) rfl d_Mo_finish_75 ?_
  refine lv_iload_n hx hb d_Mo_finish_78 rfl (lv_at hl 2 rfl) ?_
  refine z_iald hx hb hK hP 5 0 rfl rfl k rfl (by omega) (by omega) d_Mo_finish_79 ?_
  refine lv_i2l (v := (su k).toInt64) hx hb d_Mo_finish_80 rfl ?_
  refine z_last hx hb hK hP hD hS 7 1 rfl rfl (5 * (np % 16) + 4) rfl (by omega) (by omega) d_Mo_finish_81 (fun H locs hP hD hS => ?_)
  have hP : va_P D classes [(h, .inr (13, mO r th si le lv pg (nI np) pl rs)), (r 3, .inl (cI, 10, .inl tl)), (r 7, .inl (cI, 24, .inl sP)), (r 10, .inl (cI, 24, .inl sZ)), (r 11, .inl (cI, 24, .inl kd)), (r 13, .inl (cI, 24, .inl su)), (r 14, .inl (cJ, 24, .inr (.inl ti))), (r 43, .inl (cJ, 80, .inr (.inl (vp_updL (vp_updL (vp_updL (vp_updL (vp_updL dn (5 * (np % 16)) ((sP k).toInt64)) (5 * (np % 16) + 1) ((kd k).toInt64)) (5 * (np % 16) + 2) (ti k)) (5 * (np % 16) + 3) ((sZ k).toInt64)) (5 * (np % 16) + 4) ((su k).toInt64)))))] H := hP
  have hD : va_D A [(h, .inr (13, mO r th si le lv pg (nI np) pl rs)), (r 3, .inl (cI, 10, .inl tl)), (r 7, .inl (cI, 24, .inl sP)), (r 10, .inl (cI, 24, .inl sZ)), (r 11, .inl (cI, 24, .inl kd)), (r 13, .inl (cI, 24, .inl su)), (r 14, .inl (cJ, 24, .inr (.inl ti))), (r 43, .inl (cJ, 80, .inr (.inl (vp_updL (vp_updL (vp_updL (vp_updL (vp_updL dn (5 * (np % 16)) ((sP k).toInt64)) (5 * (np % 16) + 1) ((kd k).toInt64)) (5 * (np % 16) + 2) (ti k)) (5 * (np % 16) + 3) ((sZ k).toInt64)) (5 * (np % 16) + 4) ((su k).toInt64)))))] := hD
  refine lv_aload_n hx hb d_Mo_finish_82 rfl (lv_at hl 1 rfl) ?_
  refine lv_dup hx hb d_Mo_finish_83 rfl ?_
  refine va_get (D := D) (ci := 13) (v := .int (nI np)) (C := R_Mo) (T := F_Mo) (N := 54) hx hb hts i_Mo hown hK hP 0 rfl rfl 44 (by decide) (hts _ wd_1132) (fun _ h9 => h9) rfl d_Mo_finish_84 ?_
  refine lv_iconst (v := 1) hx hb d_Mo_finish_87 (by decide) ?_
  refine lv_iadd hx hb d_Mo_finish_88 ?_
  refine z_topi (w := nI (np + 1)) (nI_1 np) ?_
  refine va_put (D := D) (ci := 13) (v := .int (nI (np + 1))) (ty := .int) (C := R_Mo) (T := F_Mo) (N := 54) hx hb hts i_Mo t_Mo t_Mo_ok n_Mo hown hK hP hD hS 0 rfl rfl 44 (by decide) (hts _ wd_1132) (fun _ h9 => h9) rfl (by decide +kernel) rfl rfl (Nat.le_of_ble_eq_true rfl) d_Mo_finish_89 (fun H locs hP hD hS => ?_)
  have hP : va_P D classes [(h, .inr (13, mO r th si le lv pg (nI (np + 1)) pl rs)), (r 3, .inl (cI, 10, .inl tl)), (r 7, .inl (cI, 24, .inl sP)), (r 10, .inl (cI, 24, .inl sZ)), (r 11, .inl (cI, 24, .inl kd)), (r 13, .inl (cI, 24, .inl su)), (r 14, .inl (cJ, 24, .inr (.inl ti))), (r 43, .inl (cJ, 80, .inr (.inl (vp_updL (vp_updL (vp_updL (vp_updL (vp_updL dn (5 * (np % 16)) ((sP k).toInt64)) (5 * (np % 16) + 1) ((kd k).toInt64)) (5 * (np % 16) + 2) (ti k)) (5 * (np % 16) + 3) ((sZ k).toInt64)) (5 * (np % 16) + 4) ((su k).toInt64)))))] H := hP
  have hD : va_D A [(h, .inr (13, mO r th si le lv pg (nI (np + 1)) pl rs)), (r 3, .inl (cI, 10, .inl tl)), (r 7, .inl (cI, 24, .inl sP)), (r 10, .inl (cI, 24, .inl sZ)), (r 11, .inl (cI, 24, .inl kd)), (r 13, .inl (cI, 24, .inl su)), (r 14, .inl (cJ, 24, .inr (.inl ti))), (r 43, .inl (cJ, 80, .inr (.inl (vp_updL (vp_updL (vp_updL (vp_updL (vp_updL dn (5 * (np % 16)) ((sP k).toInt64)) (5 * (np % 16) + 1) ((kd k).toInt64)) (5 * (np % 16) + 2) (ti k)) (5 * (np % 16) + 3) ((sZ k).toInt64)) (5 * (np % 16) + 4) ((su k).toInt64)))))] := hD
  refine lv_aload_n hx hb d_Mo_finish_92 rfl (lv_at hl 1 rfl) ?_
  refine va_get (D := D) (ci := 13) (v := .ref (r 3)) (C := R_Mo) (T := F_Mo) (N := 54) hx hb hts i_Mo hown hK hP 0 rfl rfl 3 (by decide) (hts _ wd_1091) (fun _ h9 => h9) rfl d_Mo_finish_93 ?_
  refine lv_bipush (v := 9) hx hb d_Mo_finish_96 (by decide) ?_
  refine lv_dup2_11 hx hb d_Mo_finish_98 rfl rfl ?_
  refine z_iald hx hb hK hP 1 0 rfl rfl 9 rfl (by omega) (by omega) d_Mo_finish_99 ?_
  refine lv_iconst (v := 1) hx hb d_Mo_finish_100 (by decide) ?_
  refine lv_iadd hx hb d_Mo_finish_101 ?_
  refine z_iast hx hb hK hP hD hS 1 0 rfl rfl 9 rfl (by omega) (by omega) d_Mo_finish_102 (fun H locs hP hD hS => ?_)
  have hP : va_P D classes [(h, .inr (13, mO r th si le lv pg (nI (np + 1)) pl rs)), (r 3, .inl (cI, 10, .inl (upd tl 9 ((tl 9) + 1)))), (r 7, .inl (cI, 24, .inl sP)), (r 10, .inl (cI, 24, .inl sZ)), (r 11, .inl (cI, 24, .inl kd)), (r 13, .inl (cI, 24, .inl su)), (r 14, .inl (cJ, 24, .inr (.inl ti))), (r 43, .inl (cJ, 80, .inr (.inl (vp_updL (vp_updL (vp_updL (vp_updL (vp_updL dn (5 * (np % 16)) ((sP k).toInt64)) (5 * (np % 16) + 1) ((kd k).toInt64)) (5 * (np % 16) + 2) (ti k)) (5 * (np % 16) + 3) ((sZ k).toInt64)) (5 * (np % 16) + 4) ((su k).toInt64)))))] H := hP
  have hD : va_D A [(h, .inr (13, mO r th si le lv pg (nI (np + 1)) pl rs)), (r 3, .inl (cI, 10, .inl (upd tl 9 ((tl 9) + 1)))), (r 7, .inl (cI, 24, .inl sP)), (r 10, .inl (cI, 24, .inl sZ)), (r 11, .inl (cI, 24, .inl kd)), (r 13, .inl (cI, 24, .inl su)), (r 14, .inl (cJ, 24, .inr (.inl ti))), (r 43, .inl (cJ, 80, .inr (.inl (vp_updL (vp_updL (vp_updL (vp_updL (vp_updL dn (5 * (np % 16)) ((sP k).toInt64)) (5 * (np % 16) + 1) ((kd k).toInt64)) (5 * (np % 16) + 2) (ti k)) (5 * (np % 16) + 3) ((sZ k).toInt64)) (5 * (np % 16) + 4) ((su k).toInt64)))))] := hD
  refine lv_aload_n hx hb d_Mo_finish_103 rfl (lv_at hl 1 rfl) ?_
  refine va_get (D := D) (ci := 13) (v := .ref (r 7)) (C := R_Mo) (T := F_Mo) (N := 54) hx hb hts i_Mo hown hK hP 0 rfl rfl 7 (by decide) (hts _ wd_1095) (fun _ h9 => h9) rfl d_Mo_finish_104 ?_
  refine lv_iload_n hx hb d_Mo_finish_107 rfl (lv_at hl 2 rfl) ?_
  refine lv_iconst (v := (-1)) hx hb d_Mo_finish_108 (by decide) ?_
  refine z_iast hx hb hK hP hD hS 2 0 rfl rfl k rfl (by omega) (by omega) d_Mo_finish_109 (fun H locs hP hD hS => ?_)
  have hP : va_P D classes [(h, .inr (13, mO r th si le lv pg (nI (np + 1)) pl rs)), (r 3, .inl (cI, 10, .inl (upd tl 9 ((tl 9) + 1)))), (r 7, .inl (cI, 24, .inl (upd sP k (-1)))), (r 10, .inl (cI, 24, .inl sZ)), (r 11, .inl (cI, 24, .inl kd)), (r 13, .inl (cI, 24, .inl su)), (r 14, .inl (cJ, 24, .inr (.inl ti))), (r 43, .inl (cJ, 80, .inr (.inl (vp_updL (vp_updL (vp_updL (vp_updL (vp_updL dn (5 * (np % 16)) ((sP k).toInt64)) (5 * (np % 16) + 1) ((kd k).toInt64)) (5 * (np % 16) + 2) (ti k)) (5 * (np % 16) + 3) ((sZ k).toInt64)) (5 * (np % 16) + 4) ((su k).toInt64)))))] H := hP
  have hD : va_D A [(h, .inr (13, mO r th si le lv pg (nI (np + 1)) pl rs)), (r 3, .inl (cI, 10, .inl (upd tl 9 ((tl 9) + 1)))), (r 7, .inl (cI, 24, .inl (upd sP k (-1)))), (r 10, .inl (cI, 24, .inl sZ)), (r 11, .inl (cI, 24, .inl kd)), (r 13, .inl (cI, 24, .inl su)), (r 14, .inl (cJ, 24, .inr (.inl ti))), (r 43, .inl (cJ, 80, .inr (.inl (vp_updL (vp_updL (vp_updL (vp_updL (vp_updL dn (5 * (np % 16)) ((sP k).toInt64)) (5 * (np % 16) + 1) ((kd k).toInt64)) (5 * (np % 16) + 2) (ti k)) (5 * (np % 16) + 3) ((sZ k).toInt64)) (5 * (np % 16) + 4) ((su k).toInt64)))))] := hD
  have hP9 := hP.sub (ws' := [(h, .inr (13, mO r th si le lv pg (nI (np + 1)) pl rs)), (r 3, .inl (cI, 10, .inl (upd tl 9 ((tl 9) + 1)))), (r 7, .inl (cI, 24, .inl (upd sP k (-1)))), (r 10, .inl (cI, 24, .inl sZ)), (r 11, .inl (cI, 24, .inl kd)), (r 13, .inl (cI, 24, .inl su)), (r 14, .inl (cJ, 24, .inr (.inl ti))), (r 43, .inl (cJ, 80, .inr (.inl (vp_updL (vp_updL (vp_updL (vp_updL (vp_updL dn (5 * (np % 16)) ((sP k).toInt64)) (5 * (np % 16) + 1) ((kd k).toInt64)) (5 * (np % 16) + 2) (ti k)) (5 * (np % 16) + 3) ((sZ k).toInt64)) (5 * (np % 16) + 4) ((su k).toInt64)))))]) [0, 1, 2, 3, 4, 5, 6, 7] rfl
  have hD9 := hD.sub (ws' := [(h, .inr (13, mO r th si le lv pg (nI (np + 1)) pl rs)), (r 3, .inl (cI, 10, .inl (upd tl 9 ((tl 9) + 1)))), (r 7, .inl (cI, 24, .inl (upd sP k (-1)))), (r 10, .inl (cI, 24, .inl sZ)), (r 11, .inl (cI, 24, .inl kd)), (r 13, .inl (cI, 24, .inl su)), (r 14, .inl (cJ, 24, .inr (.inl ti))), (r 43, .inl (cJ, 80, .inr (.inl (vp_updL (vp_updL (vp_updL (vp_updL (vp_updL dn (5 * (np % 16)) ((sP k).toInt64)) (5 * (np % 16) + 1) ((kd k).toInt64)) (5 * (np % 16) + 2) (ti k)) (5 * (np % 16) + 3) ((sZ k).toInt64)) (5 * (np % 16) + 4) ((su k).toInt64)))))]) [0, 1, 2, 3, 4, 5, 6, 7] (by decide) rfl
  have hK9 := hK.sub (tys' := [(cI, .int), (cJ, .long)]) [0, 1] rfl
  exact W.vret hx hb hr (fun t ht hW => ⟨⟨fnU (np, tl, sP, dn) k (kd k) (ti k) (sZ k) (su k), rfl, rfl, ⟨by rw [ht]; exact hP9, va_K.moved hW.alike hK9, hD9⟩⟩, hS.F ht⟩) hS.2.2 d_Mo_finish_110
set_option maxHeartbeats 4000000 in
set_option maxRecDepth 100000 in
theorem c_Mo_gather (l : Launch) (D : va_G) (sz : Nat) (cI : ClassId) (h : Nat) (r : Nat → Nat) (th si le lv pg pl rs : Int32) (cJ : ClassId) (np : Nat) (tl sP sZ kd su : Nat → Int32) (ti dn : Nat → Int64) (k : Nat) (wa pk : Nat → Int32) (fr : Nat) (hk : k < 24) (hnp : np < 2 ^ 30) (hfr : fr ≤ 188) : Met l y_Mo_gather [Cond.code y_Mo_gather b_Mo_gather 4 none] ({ frames := 1, cells := 0, slots := 0, locals := 22 }) (zM [.ref h, .int (nI k), .int (nI fr)] D [(h, .inr (13, mO r th si le lv pg (nI np) pl rs)), (r 3, .inl (cI, 10, .inl tl)), (r 7, .inl (cI, 24, .inl sP)), (r 10, .inl (cI, 24, .inl sZ)), (r 11, .inl (cI, 24, .inl kd)), (r 13, .inl (cI, 24, .inl su)), (r 14, .inl (cJ, 24, .inr (.inl ti))), (r 43, .inl (cJ, 80, .inr (.inl dn))), (r 12, .inl (cI, 24, .inl wa)), (r 17, .inl (cI, 188, .inl pk))] [(cI, .int), (cJ, .long)] sz) (va_Qv (fun (u : Nat × FQ) => fr + u.1 ≤ 188 ∧ (∀ x, x < u.1 → ¬ sZ k + nI x = wa k) ∧ ((sZ k + nI u.1 = wa k ∧ u.2 = fnU (np, tl, sP, dn) k (kd k) (ti k) (sZ k + nI u.1) (gaS pk (su k) fr u.1)) ∨ (¬ sZ k + nI u.1 = wa k ∧ fr + u.1 = 188 ∧ u.2 = (np, tl, sP, dn)))) (fun (u : Nat × FQ) t => zW D (va_A [(h, .inr (13, mO r th si le lv pg (nI np) pl rs)), (r 3, .inl (cI, 10, .inl tl)), (r 7, .inl (cI, 24, .inl sP)), (r 10, .inl (cI, 24, .inl sZ)), (r 11, .inl (cI, 24, .inl kd)), (r 13, .inl (cI, 24, .inl su)), (r 14, .inl (cJ, 24, .inr (.inl ti))), (r 43, .inl (cJ, 80, .inr (.inl dn))), (r 12, .inl (cI, 24, .inl wa)), (r 17, .inl (cI, 188, .inl pk))] sz) [(h, .inr (13, mO r th si le lv pg (nI u.2.1) pl rs)), (r 3, .inl (cI, 10, .inl u.2.2.1)), (r 7, .inl (cI, 24, .inl u.2.2.2.1)), (r 10, .inl (cI, 24, .inl (upd sZ k (sZ k + nI u.1)))), (r 11, .inl (cI, 24, .inl kd)), (r 13, .inl (cI, 24, .inl (upd su k (gaS pk (su k) fr u.1)))), (r 14, .inl (cJ, 24, .inr (.inl ti))), (r 43, .inl (cJ, 80, .inr (.inl u.2.2.2.2))), (r 12, .inl (cI, 24, .inl wa)), (r 17, .inl (cI, 188, .inl pk))] [(cI, .int), (cJ, .long)] t) (va_A [(h, .inr (13, mO r th si le lv pg (nI np) pl rs)), (r 3, .inl (cI, 10, .inl tl)), (r 7, .inl (cI, 24, .inl sP)), (r 10, .inl (cI, 24, .inl sZ)), (r 11, .inl (cI, 24, .inl kd)), (r 13, .inl (cI, 24, .inl su)), (r 14, .inl (cJ, 24, .inr (.inl ti))), (r 43, .inl (cJ, 80, .inr (.inl dn))), (r 12, .inl (cI, 24, .inl wa)), (r 17, .inl (cI, 188, .inl pk))] sz)) 0 0 (va_A [(h, .inr (13, mO r th si le lv pg (nI np) pl rs)), (r 3, .inl (cI, 10, .inl tl)), (r 7, .inl (cI, 24, .inl sP)), (r 10, .inl (cI, 24, .inl sZ)), (r 11, .inl (cI, 24, .inl kd)), (r 13, .inl (cI, 24, .inl su)), (r 14, .inl (cJ, 24, .inr (.inl ti))), (r 43, .inl (cJ, 80, .inr (.inl dn))), (r 12, .inl (cI, 24, .inl wa)), (r 17, .inl (cI, 188, .inl pk))] sz) := by
  refine Met.ofW (cc := b_Mo_gather) (maxL := 4) (ret := none) (by decide) rfl ?_
  intro p e s m args below meth cd s₁ Bd hml hv
  obtain ⟨rfl, hsz, hP, hK, hN, hD0⟩ := hv
  have hx := Bd.exec
  have hb := Bd.bytes
  have hr := Bd.returns
  have hts := hN.use (a := ([.ref h, .int (nI k), .int (nI fr)]).toArray)
  have hown : s.vm.findClass R_Mo = some m.cls := findClass_of_methodNamed Bd.named
  have hlocks := Bd.notSynchronized
  subst hsz
  have hD := hD0.self (sz := s.heap.size)
  clear hD0
  have hA : ∀ q : Nat, s.heap.size ≤ q → va_A [(h, .inr (13, mO r th si le lv pg (nI np) pl rs)), (r 3, .inl (cI, 10, .inl tl)), (r 7, .inl (cI, 24, .inl sP)), (r 10, .inl (cI, 24, .inl sZ)), (r 11, .inl (cI, 24, .inl kd)), (r 13, .inl (cI, 24, .inl su)), (r 14, .inl (cJ, 24, .inr (.inl ti))), (r 43, .inl (cJ, 80, .inr (.inl dn))), (r 12, .inl (cI, 24, .inl wa)), (r 17, .inl (cI, 188, .inl pk))] s.heap.size q := fun q h => Or.inr h
  have hS : va_S (va_A [(h, .inr (13, mO r th si le lv pg (nI np) pl rs)), (r 3, .inl (cI, 10, .inl tl)), (r 7, .inl (cI, 24, .inl sP)), (r 10, .inl (cI, 24, .inl sZ)), (r 11, .inl (cI, 24, .inl kd)), (r 13, .inl (cI, 24, .inl su)), (r 14, .inl (cJ, 24, .inr (.inl ti))), (r 43, .inl (cJ, 80, .inr (.inl dn))), (r 12, .inl (cI, 24, .inl wa)), (r 17, .inl (cI, 188, .inl pk))] s.heap.size) s.heap s.heap [] := va_S.rf
  generalize hAe : va_A [(h, .inr (13, mO r th si le lv pg (nI np) pl rs)), (r 3, .inl (cI, 10, .inl tl)), (r 7, .inl (cI, 24, .inl sP)), (r 10, .inl (cI, 24, .inl sZ)), (r 11, .inl (cI, 24, .inl kd)), (r 13, .inl (cI, 24, .inl su)), (r 14, .inl (cJ, 24, .inr (.inl ti))), (r 43, .inl (cJ, 80, .inr (.inl dn))), (r 12, .inl (cI, 24, .inl wa)), (r 17, .inl (cI, 188, .inl pk))] s.heap.size = A at hD hA hS ⊢
  have hP : va_P D classes [(h, .inr (13, mO r th si le lv pg (nI np) pl rs)), (r 3, .inl (cI, 10, .inl tl)), (r 7, .inl (cI, 24, .inl sP)), (r 10, .inl (cI, 24, .inl sZ)), (r 11, .inl (cI, 24, .inl kd)), (r 13, .inl (cI, 24, .inl su)), (r 14, .inl (cJ, 24, .inr (.inl ti))), (r 43, .inl (cJ, 80, .inr (.inl dn))), (r 12, .inl (cI, 24, .inl wa)), (r 17, .inl (cI, 188, .inl pk))] s.heap := hP
  have hl := lv_entry ([.ref h, .int (nI k), .int (nI fr)]) (n := 4) (Nat.le_of_ble_eq_true rfl)
  rw [lg_entry_eq]
  generalize (lg_sl ([.ref h, .int (nI k), .int (nI fr)]) ++ List.replicate (4 - (lg_sl ([.ref h, .int (nI k), .int (nI fr)])).length) Slot.unset).toArray = ls at hl ⊢
  have hl : lv_has ls 4 [(0, .ref h), (1, .int (nI k)), (2, .int (nI fr))] := hl
  refine lv_iload_n hx hb d_Mo_gather_0 rfl (lv_at hl 2 rfl) ?_
  refine lv_istore_n (lv' := [(3, .int (nI fr)), (0, .ref h), (1, .int (nI k)), (2, .int (nI fr))]) hx hb d_Mo_gather_1 rfl hl (by decide) rfl (fun ls hl => ?_)
  have loop2 : ∀ (N : Nat) (j : Nat) (H : Heap) (locs : List Loc) (ls : Array Slot) (hm : 188 - j < N) (hj : fr + j ≤ 188) (hne : ∀ x, x < j → ¬ sZ k + nI x = wa k) (hl : lv_has ls 4 [(0, .ref h), (1, .int (nI k)), (3, .int (nI (fr + j)))]) (hP : va_P D classes [(h, .inr (13, mO r th si le lv pg (nI np) pl rs)), (r 3, .inl (cI, 10, .inl tl)), (r 7, .inl (cI, 24, .inl sP)), (r 10, .inl (cI, 24, .inl (upd sZ k (sZ k + nI j)))), (r 11, .inl (cI, 24, .inl kd)), (r 13, .inl (cI, 24, .inl (upd su k (gaS pk (su k) fr j)))), (r 14, .inl (cJ, 24, .inr (.inl ti))), (r 43, .inl (cJ, 80, .inr (.inl dn))), (r 12, .inl (cI, 24, .inl wa)), (r 17, .inl (cI, 188, .inl pk))] H) (hD : va_D A [(h, .inr (13, mO r th si le lv pg (nI np) pl rs)), (r 3, .inl (cI, 10, .inl tl)), (r 7, .inl (cI, 24, .inl sP)), (r 10, .inl (cI, 24, .inl (upd sZ k (sZ k + nI j)))), (r 11, .inl (cI, 24, .inl kd)), (r 13, .inl (cI, 24, .inl (upd su k (gaS pk (su k) fr j)))), (r 14, .inl (cJ, 24, .inr (.inl ti))), (r 43, .inl (cJ, 80, .inr (.inl dn))), (r 12, .inl (cI, 24, .inl wa)), (r 17, .inl (cI, 188, .inl pk))]) (hS : va_S A s.heap H locs), W p l e ({ frames := 1, cells := 0, slots := 0, locals := 22 }) s m ([.ref h, .int (nI k), .int (nI fr)]).toArray below meth cd H locs 0 0 (MQ below (va_Qv (fun (u : Nat × FQ) => fr + u.1 ≤ 188 ∧ (∀ x, x < u.1 → ¬ sZ k + nI x = wa k) ∧ ((sZ k + nI u.1 = wa k ∧ u.2 = fnU (np, tl, sP, dn) k (kd k) (ti k) (sZ k + nI u.1) (gaS pk (su k) fr u.1)) ∨ (¬ sZ k + nI u.1 = wa k ∧ fr + u.1 = 188 ∧ u.2 = (np, tl, sP, dn)))) (fun (u : Nat × FQ) t => zW D (A) [(h, .inr (13, mO r th si le lv pg (nI u.2.1) pl rs)), (r 3, .inl (cI, 10, .inl u.2.2.1)), (r 7, .inl (cI, 24, .inl u.2.2.2.1)), (r 10, .inl (cI, 24, .inl (upd sZ k (sZ k + nI u.1)))), (r 11, .inl (cI, 24, .inl kd)), (r 13, .inl (cI, 24, .inl (upd su k (gaS pk (su k) fr u.1)))), (r 14, .inl (cJ, 24, .inr (.inl ti))), (r 43, .inl (cJ, 80, .inr (.inl u.2.2.2.2))), (r 12, .inl (cI, 24, .inl wa)), (r 17, .inl (cI, 188, .inl pk))] [(cI, .int), (cJ, .long)] t) (A)) ([.ref h, .int (nI k), .int (nI fr)]).toArray s 0 0 (A)) (F0 m 2 ls []) := by
    intro N2
    induction N2 with
    | zero => intro j H locs ls hm hj hne hl hP hD hS; exact absurd hm (Nat.not_lt_zero _)
    | succ N2 ih2 =>
      intro j H locs ls hm hj hne hl hP hD hS
      refine lv_iload_n hx hb d_Mo_gather_2 rfl (lv_at hl 2 rfl) ?_
      refine lv_sipush (v := 188) hx hb d_Mo_gather_3 (by decide) ?_
      refine lv_icmp_ge (tgt := 62) hx hb d_Mo_gather_6 rfl (fun h6 => ?_) (fun h6 => ?_)
      · have h6 := (nI_leI (a := 188) (by omega) (by omega)).mp h6
        refine lv_aload_n hx hb d_Mo_gather_62 rfl (lv_at hl 0 rfl) ?_
        refine va_get (D := D) (ci := 13) (v := .ref (r 10)) (C := R_Mo) (T := F_Mo) (N := 54) hx hb hts i_Mo hown hK hP 0 rfl rfl 10 (by decide) (hts _ wd_1098) (fun _ h9 => h9) rfl d_Mo_gather_63 ?_
        refine lv_iload_n hx hb d_Mo_gather_66 rfl (lv_at hl 1 rfl) ?_
        refine z_iald hx hb hK hP 3 0 rfl rfl k rfl (by omega) (by omega) d_Mo_gather_67 ?_
        refine z_topi (w := sZ k + nI j) pk_us ?_
        refine lv_aload_n hx hb d_Mo_gather_68 rfl (lv_at hl 0 rfl) ?_
        refine va_get (D := D) (ci := 13) (v := .ref (r 12)) (C := R_Mo) (T := F_Mo) (N := 54) hx hb hts i_Mo hown hK hP 0 rfl rfl 12 (by decide) (hts _ wd_1100) (fun _ h9 => h9) rfl d_Mo_gather_69 ?_
        refine lv_iload_n hx hb d_Mo_gather_72 rfl (lv_at hl 1 rfl) ?_
        refine z_iald hx hb hK hP 8 0 rfl rfl k rfl (by omega) (by omega) d_Mo_gather_73 ?_
        refine lv_icmp_ne (tgt := 82) hx hb d_Mo_gather_74 rfl (fun h74 => ?_) (fun h74 => ?_)
        · have hP9 := hP.sub (ws' := [(h, .inr (13, mO r th si le lv pg (nI np) pl rs)), (r 3, .inl (cI, 10, .inl tl)), (r 7, .inl (cI, 24, .inl sP)), (r 10, .inl (cI, 24, .inl (upd sZ k (sZ k + nI j)))), (r 11, .inl (cI, 24, .inl kd)), (r 13, .inl (cI, 24, .inl (upd su k (gaS pk (su k) fr j)))), (r 14, .inl (cJ, 24, .inr (.inl ti))), (r 43, .inl (cJ, 80, .inr (.inl dn))), (r 12, .inl (cI, 24, .inl wa)), (r 17, .inl (cI, 188, .inl pk))]) [0, 1, 2, 3, 4, 5, 6, 7, 8, 9] rfl
          have hD9 := hD.sub (ws' := [(h, .inr (13, mO r th si le lv pg (nI np) pl rs)), (r 3, .inl (cI, 10, .inl tl)), (r 7, .inl (cI, 24, .inl sP)), (r 10, .inl (cI, 24, .inl (upd sZ k (sZ k + nI j)))), (r 11, .inl (cI, 24, .inl kd)), (r 13, .inl (cI, 24, .inl (upd su k (gaS pk (su k) fr j)))), (r 14, .inl (cJ, 24, .inr (.inl ti))), (r 43, .inl (cJ, 80, .inr (.inl dn))), (r 12, .inl (cI, 24, .inl wa)), (r 17, .inl (cI, 188, .inl pk))]) [0, 1, 2, 3, 4, 5, 6, 7, 8, 9] (by decide) rfl
          have hK9 := hK.sub (tys' := [(cI, .int), (cJ, .long)]) [0, 1] rfl
          exact W.vret hx hb hr (fun t ht hW => ⟨⟨(j, (np, tl, sP, dn)), rfl, ⟨hj, hne, Or.inr ⟨h74, by first | omega | exact absurd h21 h74, rfl⟩⟩, ⟨by rw [ht]; exact hP9, va_K.moved hW.alike hK9, hD9⟩⟩, hS.F ht⟩) hS.2.2 d_Mo_gather_82
        · refine lv_aload_n hx hb d_Mo_gather_77 rfl (lv_at hl 0 rfl) ?_
          refine lv_iload_n hx hb d_Mo_gather_78 rfl (lv_at hl 1 rfl) ?_
          have hPc := hP.sub (ws' := [(h, .inr (13, mO r th si le lv pg (nI np) pl rs)), (r 3, .inl (cI, 10, .inl tl)), (r 7, .inl (cI, 24, .inl sP)), (r 10, .inl (cI, 24, .inl (upd sZ k (sZ k + nI j)))), (r 11, .inl (cI, 24, .inl kd)), (r 13, .inl (cI, 24, .inl (upd su k (gaS pk (su k) fr j)))), (r 14, .inl (cJ, 24, .inr (.inl ti))), (r 43, .inl (cJ, 80, .inr (.inl dn)))]) [0, 1, 2, 3, 4, 5, 6, 7] rfl
          have hKc := hK.sub (tys' := [(cI, .int), (cJ, .long)]) [0, 1] rfl
          have hDc := hD.sub (ws' := [(h, .inr (13, mO r th si le lv pg (nI np) pl rs)), (r 3, .inl (cI, 10, .inl tl)), (r 7, .inl (cI, 24, .inl sP)), (r 10, .inl (cI, 24, .inl (upd sZ k (sZ k + nI j)))), (r 11, .inl (cI, 24, .inl kd)), (r 13, .inl (cI, 24, .inl (upd su k (gaS pk (su k) fr j)))), (r 14, .inl (cJ, 24, .inr (.inl ti))), (r 43, .inl (cJ, 80, .inr (.inl dn)))]) [0, 1, 2, 3, 4, 5, 6, 7] (by decide) rfl
          have hFc := va_free (wc := [(h, .inr (13, mO r th si le lv pg (nI np) pl rs)), (r 3, .inl (cI, 10, .inl tl)), (r 7, .inl (cI, 24, .inl sP)), (r 10, .inl (cI, 24, .inl (upd sZ k (sZ k + nI j)))), (r 11, .inl (cI, 24, .inl kd)), (r 13, .inl (cI, 24, .inl (upd su k (gaS pk (su k) fr j)))), (r 14, .inl (cJ, 24, .inr (.inl ti))), (r 43, .inl (cJ, 80, .inr (.inl dn)))]) hD hS hA [0, 1, 2, 3, 4, 5, 6, 7] rfl
          refine va_callv (va_runV (As := [.int (nI k)]) (rest := []) ⟨hx, hb, hml, hown, hts⟩ (c_Mo_finish l D H.size cI h r th si le lv pg pl rs cJ np tl sP (upd sZ k (sZ k + nI j)) kd (upd su k (gaS pk (su k) fr j)) ti dn k hk hnp) (z_cV hN wd_1326 wd_67 wd_1323 hd_Mo_finish rfl rfl ⟨Nat.le_of_ble_eq_true rfl, Nat.le_of_ble_eq_true rfl⟩ wd_1325 wd_36) (z_preVm (va_recv (ci := 13) (q0 := 0) hK hP rfl rfl) hPc hKc hN hDc) rfl rfl hl.1 rfl (lv_room (Nat.le_of_ble_eq_true rfl)) d_Mo_gather_79 ⟨Nat.le_of_ble_eq_true rfl, Nat.le_of_ble_eq_true rfl⟩) hS (fun q _ h => hFc q h) hFc (fun y79 t H locs ht hvm e79 hB hz1 hk1 hS => ?_)
          obtain ⟨hP1, hK1, hD1⟩ := hB
          rw [ht] at hP1
          obtain ⟨hP, hD⟩ := va_join (wr := [(r 12, .inl (cI, 24, .inl wa)), (r 17, .inl (cI, 188, .inl pk))]) (w1 := [(h, .inr (13, mO r th si le lv pg (nI y79.1) pl rs)), (r 3, .inl (cI, 10, .inl y79.2.1)), (r 7, .inl (cI, 24, .inl y79.2.2.1)), (r 10, .inl (cI, 24, .inl (upd sZ k (sZ k + nI j)))), (r 11, .inl (cI, 24, .inl kd)), (r 13, .inl (cI, 24, .inl (upd su k (gaS pk (su k) fr j)))), (r 14, .inl (cJ, 24, .inr (.inl ti))), (r 43, .inl (cJ, 80, .inr (.inl y79.2.2.2)))]) hP hD [0, 1, 2, 3, 4, 5, 6, 7] [8, 9] rfl rfl (by decide) (by decide) hk1 hFc hP1 hD1
          clear hk1 hP1 hD1 hFc hPc hDc hz1
          have hP : va_P D classes [(r 12, .inl (cI, 24, .inl wa)), (r 17, .inl (cI, 188, .inl pk)), (h, .inr (13, mO r th si le lv pg (nI y79.1) pl rs)), (r 3, .inl (cI, 10, .inl y79.2.1)), (r 7, .inl (cI, 24, .inl y79.2.2.1)), (r 10, .inl (cI, 24, .inl (upd sZ k (sZ k + nI j)))), (r 11, .inl (cI, 24, .inl kd)), (r 13, .inl (cI, 24, .inl (upd su k (gaS pk (su k) fr j)))), (r 14, .inl (cJ, 24, .inr (.inl ti))), (r 43, .inl (cJ, 80, .inr (.inl y79.2.2.2)))] H := hP
          have hD : va_D A [(r 12, .inl (cI, 24, .inl wa)), (r 17, .inl (cI, 188, .inl pk)), (h, .inr (13, mO r th si le lv pg (nI y79.1) pl rs)), (r 3, .inl (cI, 10, .inl y79.2.1)), (r 7, .inl (cI, 24, .inl y79.2.2.1)), (r 10, .inl (cI, 24, .inl (upd sZ k (sZ k + nI j)))), (r 11, .inl (cI, 24, .inl kd)), (r 13, .inl (cI, 24, .inl (upd su k (gaS pk (su k) fr j)))), (r 14, .inl (cJ, 24, .inr (.inl ti))), (r 43, .inl (cJ, 80, .inr (.inl y79.2.2.2)))] := hD
          have hP9 := hP.sub (ws' := [(h, .inr (13, mO r th si le lv pg (nI y79.1) pl rs)), (r 3, .inl (cI, 10, .inl y79.2.1)), (r 7, .inl (cI, 24, .inl y79.2.2.1)), (r 10, .inl (cI, 24, .inl (upd sZ k (sZ k + nI j)))), (r 11, .inl (cI, 24, .inl kd)), (r 13, .inl (cI, 24, .inl (upd su k (gaS pk (su k) fr j)))), (r 14, .inl (cJ, 24, .inr (.inl ti))), (r 43, .inl (cJ, 80, .inr (.inl y79.2.2.2))), (r 12, .inl (cI, 24, .inl wa)), (r 17, .inl (cI, 188, .inl pk))]) [2, 3, 4, 5, 6, 7, 8, 9, 0, 1] rfl
          have hD9 := hD.sub (ws' := [(h, .inr (13, mO r th si le lv pg (nI y79.1) pl rs)), (r 3, .inl (cI, 10, .inl y79.2.1)), (r 7, .inl (cI, 24, .inl y79.2.2.1)), (r 10, .inl (cI, 24, .inl (upd sZ k (sZ k + nI j)))), (r 11, .inl (cI, 24, .inl kd)), (r 13, .inl (cI, 24, .inl (upd su k (gaS pk (su k) fr j)))), (r 14, .inl (cJ, 24, .inr (.inl ti))), (r 43, .inl (cJ, 80, .inr (.inl y79.2.2.2))), (r 12, .inl (cI, 24, .inl wa)), (r 17, .inl (cI, 188, .inl pk))]) [2, 3, 4, 5, 6, 7, 8, 9, 0, 1] (by decide) rfl
          have hK9 := hK.sub (tys' := [(cI, .int), (cJ, .long)]) [0, 1] rfl
          exact W.vret hx hb hr (fun t ht hW => ⟨⟨(j, y79), rfl, ⟨hj, hne, Or.inl ⟨h74, by rw [e79, pk_us, pk_us]⟩⟩, ⟨by rw [ht]; exact hP9, va_K.moved hW.alike hK9, hD9⟩⟩, hS.F ht⟩) hS.2.2 d_Mo_gather_82
      · have h6 := mt (nI_leI (a := 188) (by omega) (by omega)).mpr h6
        refine lv_aload_n hx hb d_Mo_gather_9 rfl (lv_at hl 0 rfl) ?_
        refine va_get (D := D) (ci := 13) (v := .ref (r 10)) (C := R_Mo) (T := F_Mo) (N := 54) hx hb hts i_Mo hown hK hP 0 rfl rfl 10 (by decide) (hts _ wd_1098) (fun _ h9 => h9) rfl d_Mo_gather_10 ?_
        refine lv_iload_n hx hb d_Mo_gather_13 rfl (lv_at hl 1 rfl) ?_
        refine z_iald hx hb hK hP 3 0 rfl rfl k rfl (by omega) (by omega) d_Mo_gather_14 ?_
        refine z_topi (w := sZ k + nI j) pk_us ?_
        refine lv_aload_n hx hb d_Mo_gather_15 rfl (lv_at hl 0 rfl) ?_
        refine va_get (D := D) (ci := 13) (v := .ref (r 12)) (C := R_Mo) (T := F_Mo) (N := 54) hx hb hts i_Mo hown hK hP 0 rfl rfl 12 (by decide) (hts _ wd_1100) (fun _ h9 => h9) rfl d_Mo_gather_16 ?_
        refine lv_iload_n hx hb d_Mo_gather_19 rfl (lv_at hl 1 rfl) ?_
        refine z_iald hx hb hK hP 8 0 rfl rfl k rfl (by omega) (by omega) d_Mo_gather_20 ?_
        refine lv_icmp_eq (tgt := 62) hx hb d_Mo_gather_21 rfl (fun h21 => ?_) (fun h21 => ?_)
        · refine lv_aload_n hx hb d_Mo_gather_62 rfl (lv_at hl 0 rfl) ?_
          refine va_get (D := D) (ci := 13) (v := .ref (r 10)) (C := R_Mo) (T := F_Mo) (N := 54) hx hb hts i_Mo hown hK hP 0 rfl rfl 10 (by decide) (hts _ wd_1098) (fun _ h9 => h9) rfl d_Mo_gather_63 ?_
          refine lv_iload_n hx hb d_Mo_gather_66 rfl (lv_at hl 1 rfl) ?_
          refine z_iald hx hb hK hP 3 0 rfl rfl k rfl (by omega) (by omega) d_Mo_gather_67 ?_
          refine z_topi (w := sZ k + nI j) pk_us ?_
          refine lv_aload_n hx hb d_Mo_gather_68 rfl (lv_at hl 0 rfl) ?_
          refine va_get (D := D) (ci := 13) (v := .ref (r 12)) (C := R_Mo) (T := F_Mo) (N := 54) hx hb hts i_Mo hown hK hP 0 rfl rfl 12 (by decide) (hts _ wd_1100) (fun _ h9 => h9) rfl d_Mo_gather_69 ?_
          refine lv_iload_n hx hb d_Mo_gather_72 rfl (lv_at hl 1 rfl) ?_
          refine z_iald hx hb hK hP 8 0 rfl rfl k rfl (by omega) (by omega) d_Mo_gather_73 ?_
          refine lv_icmp_ne (tgt := 82) hx hb d_Mo_gather_74 rfl (fun h74 => ?_) (fun h74 => ?_)
          · have hP9 := hP.sub (ws' := [(h, .inr (13, mO r th si le lv pg (nI np) pl rs)), (r 3, .inl (cI, 10, .inl tl)), (r 7, .inl (cI, 24, .inl sP)), (r 10, .inl (cI, 24, .inl (upd sZ k (sZ k + nI j)))), (r 11, .inl (cI, 24, .inl kd)), (r 13, .inl (cI, 24, .inl (upd su k (gaS pk (su k) fr j)))), (r 14, .inl (cJ, 24, .inr (.inl ti))), (r 43, .inl (cJ, 80, .inr (.inl dn))), (r 12, .inl (cI, 24, .inl wa)), (r 17, .inl (cI, 188, .inl pk))]) [0, 1, 2, 3, 4, 5, 6, 7, 8, 9] rfl
            have hD9 := hD.sub (ws' := [(h, .inr (13, mO r th si le lv pg (nI np) pl rs)), (r 3, .inl (cI, 10, .inl tl)), (r 7, .inl (cI, 24, .inl sP)), (r 10, .inl (cI, 24, .inl (upd sZ k (sZ k + nI j)))), (r 11, .inl (cI, 24, .inl kd)), (r 13, .inl (cI, 24, .inl (upd su k (gaS pk (su k) fr j)))), (r 14, .inl (cJ, 24, .inr (.inl ti))), (r 43, .inl (cJ, 80, .inr (.inl dn))), (r 12, .inl (cI, 24, .inl wa)), (r 17, .inl (cI, 188, .inl pk))]) [0, 1, 2, 3, 4, 5, 6, 7, 8, 9] (by decide) rfl
            have hK9 := hK.sub (tys' := [(cI, .int), (cJ, .long)]) [0, 1] rfl
            exact W.vret hx hb hr (fun t ht hW => ⟨⟨(j, (np, tl, sP, dn)), rfl, ⟨hj, hne, Or.inr ⟨h74, by first | omega | exact absurd h21 h74, rfl⟩⟩, ⟨by rw [ht]; exact hP9, va_K.moved hW.alike hK9, hD9⟩⟩, hS.F ht⟩) hS.2.2 d_Mo_gather_82
          · refine lv_aload_n hx hb d_Mo_gather_77 rfl (lv_at hl 0 rfl) ?_
            refine lv_iload_n hx hb d_Mo_gather_78 rfl (lv_at hl 1 rfl) ?_
            have hPc := hP.sub (ws' := [(h, .inr (13, mO r th si le lv pg (nI np) pl rs)), (r 3, .inl (cI, 10, .inl tl)), (r 7, .inl (cI, 24, .inl sP)), (r 10, .inl (cI, 24, .inl (upd sZ k (sZ k + nI j)))), (r 11, .inl (cI, 24, .inl kd)), (r 13, .inl (cI, 24, .inl (upd su k (gaS pk (su k) fr j)))), (r 14, .inl (cJ, 24, .inr (.inl ti))), (r 43, .inl (cJ, 80, .inr (.inl dn)))]) [0, 1, 2, 3, 4, 5, 6, 7] rfl
            have hKc := hK.sub (tys' := [(cI, .int), (cJ, .long)]) [0, 1] rfl
            have hDc := hD.sub (ws' := [(h, .inr (13, mO r th si le lv pg (nI np) pl rs)), (r 3, .inl (cI, 10, .inl tl)), (r 7, .inl (cI, 24, .inl sP)), (r 10, .inl (cI, 24, .inl (upd sZ k (sZ k + nI j)))), (r 11, .inl (cI, 24, .inl kd)), (r 13, .inl (cI, 24, .inl (upd su k (gaS pk (su k) fr j)))), (r 14, .inl (cJ, 24, .inr (.inl ti))), (r 43, .inl (cJ, 80, .inr (.inl dn)))]) [0, 1, 2, 3, 4, 5, 6, 7] (by decide) rfl
            have hFc := va_free (wc := [(h, .inr (13, mO r th si le lv pg (nI np) pl rs)), (r 3, .inl (cI, 10, .inl tl)), (r 7, .inl (cI, 24, .inl sP)), (r 10, .inl (cI, 24, .inl (upd sZ k (sZ k + nI j)))), (r 11, .inl (cI, 24, .inl kd)), (r 13, .inl (cI, 24, .inl (upd su k (gaS pk (su k) fr j)))), (r 14, .inl (cJ, 24, .inr (.inl ti))), (r 43, .inl (cJ, 80, .inr (.inl dn)))]) hD hS hA [0, 1, 2, 3, 4, 5, 6, 7] rfl
            refine va_callv (va_runV (As := [.int (nI k)]) (rest := []) ⟨hx, hb, hml, hown, hts⟩ (c_Mo_finish l D H.size cI h r th si le lv pg pl rs cJ np tl sP (upd sZ k (sZ k + nI j)) kd (upd su k (gaS pk (su k) fr j)) ti dn k hk hnp) (z_cV hN wd_1326 wd_67 wd_1323 hd_Mo_finish rfl rfl ⟨Nat.le_of_ble_eq_true rfl, Nat.le_of_ble_eq_true rfl⟩ wd_1325 wd_36) (z_preVm (va_recv (ci := 13) (q0 := 0) hK hP rfl rfl) hPc hKc hN hDc) rfl rfl hl.1 rfl (lv_room (Nat.le_of_ble_eq_true rfl)) d_Mo_gather_79 ⟨Nat.le_of_ble_eq_true rfl, Nat.le_of_ble_eq_true rfl⟩) hS (fun q _ h => hFc q h) hFc (fun y79 t H locs ht hvm e79 hB hz1 hk1 hS => ?_)
            obtain ⟨hP1, hK1, hD1⟩ := hB
            rw [ht] at hP1
            obtain ⟨hP, hD⟩ := va_join (wr := [(r 12, .inl (cI, 24, .inl wa)), (r 17, .inl (cI, 188, .inl pk))]) (w1 := [(h, .inr (13, mO r th si le lv pg (nI y79.1) pl rs)), (r 3, .inl (cI, 10, .inl y79.2.1)), (r 7, .inl (cI, 24, .inl y79.2.2.1)), (r 10, .inl (cI, 24, .inl (upd sZ k (sZ k + nI j)))), (r 11, .inl (cI, 24, .inl kd)), (r 13, .inl (cI, 24, .inl (upd su k (gaS pk (su k) fr j)))), (r 14, .inl (cJ, 24, .inr (.inl ti))), (r 43, .inl (cJ, 80, .inr (.inl y79.2.2.2)))]) hP hD [0, 1, 2, 3, 4, 5, 6, 7] [8, 9] rfl rfl (by decide) (by decide) hk1 hFc hP1 hD1
            clear hk1 hP1 hD1 hFc hPc hDc hz1
            have hP : va_P D classes [(r 12, .inl (cI, 24, .inl wa)), (r 17, .inl (cI, 188, .inl pk)), (h, .inr (13, mO r th si le lv pg (nI y79.1) pl rs)), (r 3, .inl (cI, 10, .inl y79.2.1)), (r 7, .inl (cI, 24, .inl y79.2.2.1)), (r 10, .inl (cI, 24, .inl (upd sZ k (sZ k + nI j)))), (r 11, .inl (cI, 24, .inl kd)), (r 13, .inl (cI, 24, .inl (upd su k (gaS pk (su k) fr j)))), (r 14, .inl (cJ, 24, .inr (.inl ti))), (r 43, .inl (cJ, 80, .inr (.inl y79.2.2.2)))] H := hP
            have hD : va_D A [(r 12, .inl (cI, 24, .inl wa)), (r 17, .inl (cI, 188, .inl pk)), (h, .inr (13, mO r th si le lv pg (nI y79.1) pl rs)), (r 3, .inl (cI, 10, .inl y79.2.1)), (r 7, .inl (cI, 24, .inl y79.2.2.1)), (r 10, .inl (cI, 24, .inl (upd sZ k (sZ k + nI j)))), (r 11, .inl (cI, 24, .inl kd)), (r 13, .inl (cI, 24, .inl (upd su k (gaS pk (su k) fr j)))), (r 14, .inl (cJ, 24, .inr (.inl ti))), (r 43, .inl (cJ, 80, .inr (.inl y79.2.2.2)))] := hD
            have hP9 := hP.sub (ws' := [(h, .inr (13, mO r th si le lv pg (nI y79.1) pl rs)), (r 3, .inl (cI, 10, .inl y79.2.1)), (r 7, .inl (cI, 24, .inl y79.2.2.1)), (r 10, .inl (cI, 24, .inl (upd sZ k (sZ k + nI j)))), (r 11, .inl (cI, 24, .inl kd)), (r 13, .inl (cI, 24, .inl (upd su k (gaS pk (su k) fr j)))), (r 14, .inl (cJ, 24, .inr (.inl ti))), (r 43, .inl (cJ, 80, .inr (.inl y79.2.2.2))), (r 12, .inl (cI, 24, .inl wa)), (r 17, .inl (cI, 188, .inl pk))]) [2, 3, 4, 5, 6, 7, 8, 9, 0, 1] rfl
            have hD9 := hD.sub (ws' := [(h, .inr (13, mO r th si le lv pg (nI y79.1) pl rs)), (r 3, .inl (cI, 10, .inl y79.2.1)), (r 7, .inl (cI, 24, .inl y79.2.2.1)), (r 10, .inl (cI, 24, .inl (upd sZ k (sZ k + nI j)))), (r 11, .inl (cI, 24, .inl kd)), (r 13, .inl (cI, 24, .inl (upd su k (gaS pk (su k) fr j)))), (r 14, .inl (cJ, 24, .inr (.inl ti))), (r 43, .inl (cJ, 80, .inr (.inl y79.2.2.2))), (r 12, .inl (cI, 24, .inl wa)), (r 17, .inl (cI, 188, .inl pk))]) [2, 3, 4, 5, 6, 7, 8, 9, 0, 1] (by decide) rfl
            have hK9 := hK.sub (tys' := [(cI, .int), (cJ, .long)]) [0, 1] rfl
            exact W.vret hx hb hr (fun t ht hW => ⟨⟨(j, y79), rfl, ⟨hj, hne, Or.inl ⟨h74, by rw [e79, pk_us, pk_us]⟩⟩, ⟨by rw [ht]; exact hP9, va_K.moved hW.alike hK9, hD9⟩⟩, hS.F ht⟩) hS.2.2 d_Mo_gather_82
        · refine lv_aload_n hx hb d_Mo_gather_24 rfl (lv_at hl 0 rfl) ?_
          refine va_get (D := D) (ci := 13) (v := .ref (r 13)) (C := R_Mo) (T := F_Mo) (N := 54) hx hb hts i_Mo hown hK hP 0 rfl rfl 13 (by decide) (hts _ wd_1101) (fun _ h9 => h9) rfl d_Mo_gather_25 ?_
          refine lv_iload_n hx hb d_Mo_gather_28 rfl (lv_at hl 1 rfl) ?_
          refine lv_bipush (v := 31) hx hb d_Mo_gather_29 (by decide) ?_
          refine lv_aload_n hx hb d_Mo_gather_31 rfl (lv_at hl 0 rfl) ?_
          refine va_get (D := D) (ci := 13) (v := .ref (r 13)) (C := R_Mo) (T := F_Mo) (N := 54) hx hb hts i_Mo hown hK hP 0 rfl rfl 13 (by decide) (hts _ wd_1101) (fun _ h9 => h9) rfl d_Mo_gather_32 ?_
          refine lv_iload_n hx hb d_Mo_gather_35 rfl (lv_at hl 1 rfl) ?_
          refine z_iald hx hb hK hP 5 0 rfl rfl k rfl (by omega) (by omega) d_Mo_gather_36 ?_
          refine z_topi (w := gaS pk (su k) fr j) pk_us ?_
          refine lv_imul hx hb d_Mo_gather_37 ?_
          refine lv_aload_n hx hb d_Mo_gather_38 rfl (lv_at hl 0 rfl) ?_
          refine va_get (D := D) (ci := 13) (v := .ref (r 17)) (C := R_Mo) (T := F_Mo) (N := 54) hx hb hts i_Mo hown hK hP 0 rfl rfl 17 (by decide) (hts _ wd_1105) (fun _ h9 => h9) rfl d_Mo_gather_39 ?_
          refine lv_iload_n hx hb d_Mo_gather_42 rfl (lv_at hl 2 rfl) ?_
          refine z_iald hx hb hK hP 9 0 rfl rfl (fr + j) rfl (by omega) (by omega) d_Mo_gather_43 ?_
          refine lv_iadd hx hb d_Mo_gather_44 ?_
          refine z_topi (w := gaS pk (su k) fr (j + 1)) rfl ?_
          refine z_iast hx hb hK hP hD hS 5 0 rfl rfl k rfl (by omega) (by omega) d_Mo_gather_45 (fun H locs hP hD hS => ?_)
          have hP : va_P D classes [(h, .inr (13, mO r th si le lv pg (nI np) pl rs)), (r 3, .inl (cI, 10, .inl tl)), (r 7, .inl (cI, 24, .inl sP)), (r 10, .inl (cI, 24, .inl (upd sZ k (sZ k + nI j)))), (r 11, .inl (cI, 24, .inl kd)), (r 13, .inl (cI, 24, .inl (upd (upd su k (gaS pk (su k) fr j)) k (gaS pk (su k) fr (j + 1))))), (r 14, .inl (cJ, 24, .inr (.inl ti))), (r 43, .inl (cJ, 80, .inr (.inl dn))), (r 12, .inl (cI, 24, .inl wa)), (r 17, .inl (cI, 188, .inl pk))] H := hP
          have hD : va_D A [(h, .inr (13, mO r th si le lv pg (nI np) pl rs)), (r 3, .inl (cI, 10, .inl tl)), (r 7, .inl (cI, 24, .inl sP)), (r 10, .inl (cI, 24, .inl (upd sZ k (sZ k + nI j)))), (r 11, .inl (cI, 24, .inl kd)), (r 13, .inl (cI, 24, .inl (upd (upd su k (gaS pk (su k) fr j)) k (gaS pk (su k) fr (j + 1))))), (r 14, .inl (cJ, 24, .inr (.inl ti))), (r 43, .inl (cJ, 80, .inr (.inl dn))), (r 12, .inl (cI, 24, .inl wa)), (r 17, .inl (cI, 188, .inl pk))] := hD
          rw [show upd (upd su k (gaS pk (su k) fr j)) k (gaS pk (su k) fr (j + 1)) = upd su k (gaS pk (su k) fr (j + 1)) from mw_uu] at hP hD
          have hP : va_P D classes [(h, .inr (13, mO r th si le lv pg (nI np) pl rs)), (r 3, .inl (cI, 10, .inl tl)), (r 7, .inl (cI, 24, .inl sP)), (r 10, .inl (cI, 24, .inl (upd sZ k (sZ k + nI j)))), (r 11, .inl (cI, 24, .inl kd)), (r 13, .inl (cI, 24, .inl (upd su k (gaS pk (su k) fr (j + 1))))), (r 14, .inl (cJ, 24, .inr (.inl ti))), (r 43, .inl (cJ, 80, .inr (.inl dn))), (r 12, .inl (cI, 24, .inl wa)), (r 17, .inl (cI, 188, .inl pk))] H := hP
          have hD : va_D A [(h, .inr (13, mO r th si le lv pg (nI np) pl rs)), (r 3, .inl (cI, 10, .inl tl)), (r 7, .inl (cI, 24, .inl sP)), (r 10, .inl (cI, 24, .inl (upd sZ k (sZ k + nI j)))), (r 11, .inl (cI, 24, .inl kd)), (r 13, .inl (cI, 24, .inl (upd su k (gaS pk (su k) fr (j + 1))))), (r 14, .inl (cJ, 24, .inr (.inl ti))), (r 43, .inl (cJ, 80, .inr (.inl dn))), (r 12, .inl (cI, 24, .inl wa)), (r 17, .inl (cI, 188, .inl pk))] := hD
          refine lv_aload_n hx hb d_Mo_gather_46 rfl (lv_at hl 0 rfl) ?_
          refine va_get (D := D) (ci := 13) (v := .ref (r 10)) (C := R_Mo) (T := F_Mo) (N := 54) hx hb hts i_Mo hown hK hP 0 rfl rfl 10 (by decide) (hts _ wd_1098) (fun _ h9 => h9) rfl d_Mo_gather_47 ?_
          refine lv_iload_n hx hb d_Mo_gather_50 rfl (lv_at hl 1 rfl) ?_
          refine lv_dup2_11 hx hb d_Mo_gather_51 rfl rfl ?_
          refine z_iald hx hb hK hP 3 0 rfl rfl k rfl (by omega) (by omega) d_Mo_gather_52 ?_
          refine z_topi (w := sZ k + nI j) pk_us ?_
          refine lv_iconst (v := 1) hx hb d_Mo_gather_53 (by decide) ?_
          refine lv_iadd hx hb d_Mo_gather_54 ?_
          refine z_topi (w := sZ k + nI (j + 1)) (ga_z _ _) ?_
          refine z_iast hx hb hK hP hD hS 3 0 rfl rfl k rfl (by omega) (by omega) d_Mo_gather_55 (fun H locs hP hD hS => ?_)
          have hP : va_P D classes [(h, .inr (13, mO r th si le lv pg (nI np) pl rs)), (r 3, .inl (cI, 10, .inl tl)), (r 7, .inl (cI, 24, .inl sP)), (r 10, .inl (cI, 24, .inl (upd (upd sZ k (sZ k + nI j)) k (sZ k + nI (j + 1))))), (r 11, .inl (cI, 24, .inl kd)), (r 13, .inl (cI, 24, .inl (upd su k (gaS pk (su k) fr (j + 1))))), (r 14, .inl (cJ, 24, .inr (.inl ti))), (r 43, .inl (cJ, 80, .inr (.inl dn))), (r 12, .inl (cI, 24, .inl wa)), (r 17, .inl (cI, 188, .inl pk))] H := hP
          have hD : va_D A [(h, .inr (13, mO r th si le lv pg (nI np) pl rs)), (r 3, .inl (cI, 10, .inl tl)), (r 7, .inl (cI, 24, .inl sP)), (r 10, .inl (cI, 24, .inl (upd (upd sZ k (sZ k + nI j)) k (sZ k + nI (j + 1))))), (r 11, .inl (cI, 24, .inl kd)), (r 13, .inl (cI, 24, .inl (upd su k (gaS pk (su k) fr (j + 1))))), (r 14, .inl (cJ, 24, .inr (.inl ti))), (r 43, .inl (cJ, 80, .inr (.inl dn))), (r 12, .inl (cI, 24, .inl wa)), (r 17, .inl (cI, 188, .inl pk))] := hD
          rw [show upd (upd sZ k (sZ k + nI j)) k (sZ k + nI (j + 1)) = upd sZ k (sZ k + nI (j + 1)) from mw_uu] at hP hD
          have hP : va_P D classes [(h, .inr (13, mO r th si le lv pg (nI np) pl rs)), (r 3, .inl (cI, 10, .inl tl)), (r 7, .inl (cI, 24, .inl sP)), (r 10, .inl (cI, 24, .inl (upd sZ k (sZ k + nI (j + 1))))), (r 11, .inl (cI, 24, .inl kd)), (r 13, .inl (cI, 24, .inl (upd su k (gaS pk (su k) fr (j + 1))))), (r 14, .inl (cJ, 24, .inr (.inl ti))), (r 43, .inl (cJ, 80, .inr (.inl dn))), (r 12, .inl (cI, 24, .inl wa)), (r 17, .inl (cI, 188, .inl pk))] H := hP
          have hD : va_D A [(h, .inr (13, mO r th si le lv pg (nI np) pl rs)), (r 3, .inl (cI, 10, .inl tl)), (r 7, .inl (cI, 24, .inl sP)), (r 10, .inl (cI, 24, .inl (upd sZ k (sZ k + nI (j + 1))))), (r 11, .inl (cI, 24, .inl kd)), (r 13, .inl (cI, 24, .inl (upd su k (gaS pk (su k) fr (j + 1))))), (r 14, .inl (cJ, 24, .inr (.inl ti))), (r 43, .inl (cJ, 80, .inr (.inl dn))), (r 12, .inl (cI, 24, .inl wa)), (r 17, .inl (cI, 188, .inl pk))] := hD
          refine lv_iinc (k := 2) (v := nI (fr + (j + 1))) (lv' := [(3, .int (nI (fr + (j + 1)))), (0, .ref h), (1, .int (nI k))]) hx hb d_Mo_gather_56 hl rfl (nI_1 (fr + j)) (by decide) rfl (fun ls hl => ?_)
          refine lv_goto (tgt := 2) hx hb d_Mo_gather_59 rfl ?_
          exact ih2 (j + 1) H locs ls (by omega) (by omega) (fun x hx => if c9 : x = j then by rw [c9]; exact h21 else hne x (by omega)) (lv_sub hl [1, 2, 0] rfl) hP hD hS
  have e0 : su = upd su k (gaS pk (su k) fr 0) := (mw_same rfl).symm
  have e1 : sZ = upd sZ k (sZ k + nI 0) := by rw [ga_0]; exact (mw_same rfl).symm
  rw [e0, e1] at hP hD
  exact loop2 _ 0 s.heap [] ls (Nat.lt_succ_self _) (by omega) (fun x hx => absurd hx (Nat.not_lt_zero x)) (lv_sub hl [1, 2, 0] rfl) hP hD hS
