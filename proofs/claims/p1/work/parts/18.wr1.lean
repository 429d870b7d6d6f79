theorem wd_242 : (Jvm.Cond.fieldLinkNest "StreamSplitter$Writer" (45 : Nat) "StreamSplitter$Lane" "pid" "I" "StreamSplitter") ∈ lw_ok := List.mem_filter.mpr ⟨List.mem_of_getElem? (i := 242) (by decide +kernel), rfl⟩
theorem wd_254 : (Jvm.Cond.fieldLinkNest "StreamSplitter$Writer" (50 : Nat) "StreamSplitter$Lane" "written" "I" "StreamSplitter") ∈ lw_ok := List.mem_filter.mpr ⟨List.mem_of_getElem? (i := 254) (by decide +kernel), rfl⟩
theorem wd_518 : (Jvm.Cond.static ({ cls := "java/lang/Math", name := "min", desc := "(II)I" } : Jvm.MethodName)) ∈ lw_ok := List.mem_filter.mpr ⟨List.mem_of_getElem? (i := 518) (by decide +kernel), rfl⟩
set_option maxRecDepth 100000 in
theorem wd_519 : (Jvm.Cond.code ({ cls := "java/lang/Math", name := "min", desc := "(II)I" } : Jvm.MethodName) prog_21_method_69_code (2 : Nat) (Option.some Jvm.ClassFile.FieldType.int)) ∈ lw_ok := List.mem_filter.mpr ⟨List.mem_of_getElem? (i := 519) (by rfl), rfl⟩
theorem wd_951 : (Jvm.Cond.methodLink "StreamSplitter$Writer" (3 : Nat) ({ cls := "java/lang/Object", name := "<init>", desc := "()V" } : Jvm.MethodName)) ∈ lw_ok := List.mem_filter.mpr ⟨List.mem_of_getElem? (i := 951) (by decide +kernel), rfl⟩
theorem wd_952 : (Jvm.Cond.fieldLink "StreamSplitter$Writer" (9 : Nat) "StreamSplitter$Writer" "tape" "LStreamSplitter$Row;") ∈ lw_ok := List.mem_filter.mpr ⟨List.mem_of_getElem? (i := 952) (by decide +kernel), rfl⟩
theorem wd_953 : (Jvm.Cond.fieldLink "StreamSplitter$Writer" (15 : Nat) "StreamSplitter$Writer" "lane" "LStreamSplitter$Lane;") ∈ lw_ok := List.mem_filter.mpr ⟨List.mem_of_getElem? (i := 953) (by decide +kernel), rfl⟩
theorem wd_954 : (Jvm.Cond.fieldLink "StreamSplitter$Writer" (19 : Nat) "StreamSplitter$Writer" "left" "I") ∈ lw_ok := List.mem_filter.mpr ⟨List.mem_of_getElem? (i := 954) (by decide +kernel), rfl⟩
theorem wd_955 : (Jvm.Cond.fieldLink "StreamSplitter$Writer" (23 : Nat) "StreamSplitter$Writer" "roomInPacket" "I") ∈ lw_ok := List.mem_filter.mpr ⟨List.mem_of_getElem? (i := 955) (by decide +kernel), rfl⟩
theorem wd_956 : (Jvm.Cond.fieldLink "StreamSplitter$Writer" (41 : Nat) "StreamSplitter$Writer" "begun" "Z") ∈ lw_ok := List.mem_filter.mpr ⟨List.mem_of_getElem? (i := 956) (by decide +kernel), rfl⟩
theorem wd_993 : (Jvm.Cond.methodLink "StreamSplitter$Writer" (35 : Nat) ({ cls := "java/lang/Math", name := "min", desc := "(II)I" } : Jvm.MethodName)) ∈ lw_ok := List.mem_filter.mpr ⟨List.mem_of_getElem? (i := 993) (by decide +kernel), rfl⟩
theorem wd_994 : (Jvm.Cond.methodLink "StreamSplitter$Writer" (29 : Nat) ({ cls := "StreamSplitter$Row", name := "add", desc := "(I)V" } : Jvm.MethodName)) ∈ lw_ok := List.mem_filter.mpr ⟨List.mem_of_getElem? (i := 994) (by decide +kernel), rfl⟩
theorem d_Writer_beginPacket_0 : decode b_Writer_beginPacket 0 = .ok (.aload_n 0, 1) := by decide +kernel
theorem d_Writer_beginPacket_1 : decode b_Writer_beginPacket 1 = .ok (.aload_n 0, 1) := by decide +kernel
theorem d_Writer_beginPacket_2 : decode b_Writer_beginPacket 2 = .ok (.getfield 19, 3) := by decide +kernel
theorem d_Writer_beginPacket_5 : decode b_Writer_beginPacket 5 = .ok (.sipush 184, 3) := by decide +kernel
theorem d_Writer_beginPacket_8 : decode b_Writer_beginPacket 8 = .ok (.invokestatic 35, 3) := by decide +kernel
theorem d_Writer_beginPacket_11 : decode b_Writer_beginPacket 11 = .ok (.putfield 23, 3) := by decide +kernel
theorem d_Writer_beginPacket_14 : decode b_Writer_beginPacket 14 = .ok (.sipush 184, 3) := by decide +kernel
theorem d_Writer_beginPacket_17 : decode b_Writer_beginPacket 17 = .ok (.aload_n 0, 1) := by decide +kernel
theorem d_Writer_beginPacket_18 : decode b_Writer_beginPacket 18 = .ok (.getfield 23, 3) := by decide +kernel
theorem d_Writer_beginPacket_21 : decode b_Writer_beginPacket 21 = .ok (.isub, 1) := by decide +kernel
theorem d_Writer_beginPacket_22 : decode b_Writer_beginPacket 22 = .ok (.istore_n 1, 1) := by decide +kernel
theorem d_Writer_beginPacket_23 : decode b_Writer_beginPacket 23 = .ok (.aload_n 0, 1) := by decide +kernel
theorem d_Writer_beginPacket_24 : decode b_Writer_beginPacket 24 = .ok (.getfield 9, 3) := by decide +kernel
theorem d_Writer_beginPacket_27 : decode b_Writer_beginPacket 27 = .ok (.bipush 71, 2) := by decide +kernel
theorem d_Writer_beginPacket_29 : decode b_Writer_beginPacket 29 = .ok (.invokevirtual 29, 3) := by decide +kernel
theorem d_Writer_beginPacket_32 : decode b_Writer_beginPacket 32 = .ok (.aload_n 0, 1) := by decide +kernel
theorem d_Writer_beginPacket_33 : decode b_Writer_beginPacket 33 = .ok (.getfield 9, 3) := by decide +kernel
theorem d_Writer_beginPacket_36 : decode b_Writer_beginPacket 36 = .ok (.aload_n 0, 1) := by decide +kernel
theorem d_Writer_beginPacket_37 : decode b_Writer_beginPacket 37 = .ok (.getfield 41, 3) := by decide +kernel
theorem d_Writer_beginPacket_40 : decode b_Writer_beginPacket 40 = .ok (.ifCond .eq 7, 3) := by decide +kernel
theorem d_Writer_beginPacket_43 : decode b_Writer_beginPacket 43 = .ok (.iconst 0, 1) := by decide +kernel
theorem d_Writer_beginPacket_44 : decode b_Writer_beginPacket 44 = .ok (.goto 5, 3) := by decide +kernel
theorem d_Writer_beginPacket_47 : decode b_Writer_beginPacket 47 = .ok (.bipush 64, 2) := by decide +kernel
theorem d_Writer_beginPacket_49 : decode b_Writer_beginPacket 49 = .ok (.aload_n 0, 1) := by decide +kernel
theorem d_Writer_beginPacket_50 : decode b_Writer_beginPacket 50 = .ok (.getfield 15, 3) := by decide +kernel
theorem d_Writer_beginPacket_53 : decode b_Writer_beginPacket 53 = .ok (.getfield 45, 3) := by decide +kernel
theorem d_Writer_beginPacket_56 : decode b_Writer_beginPacket 56 = .ok (.bipush 8, 2) := by decide +kernel
theorem d_Writer_beginPacket_58 : decode b_Writer_beginPacket 58 = .ok (.ishr, 1) := by decide +kernel
theorem d_Writer_beginPacket_59 : decode b_Writer_beginPacket 59 = .ok (.ior, 1) := by decide +kernel
theorem d_Writer_beginPacket_60 : decode b_Writer_beginPacket 60 = .ok (.invokevirtual 29, 3) := by decide +kernel
theorem d_Writer_beginPacket_63 : decode b_Writer_beginPacket 63 = .ok (.aload_n 0, 1) := by decide +kernel
theorem d_Writer_beginPacket_64 : decode b_Writer_beginPacket 64 = .ok (.getfield 9, 3) := by decide +kernel
theorem d_Writer_beginPacket_67 : decode b_Writer_beginPacket 67 = .ok (.aload_n 0, 1) := by decide +kernel
theorem d_Writer_beginPacket_68 : decode b_Writer_beginPacket 68 = .ok (.getfield 15, 3) := by decide +kernel
theorem d_Writer_beginPacket_71 : decode b_Writer_beginPacket 71 = .ok (.getfield 45, 3) := by decide +kernel
theorem d_Writer_beginPacket_74 : decode b_Writer_beginPacket 74 = .ok (.invokevirtual 29, 3) := by decide +kernel
theorem d_Writer_beginPacket_77 : decode b_Writer_beginPacket 77 = .ok (.aload_n 0, 1) := by decide +kernel
theorem d_Writer_beginPacket_78 : decode b_Writer_beginPacket 78 = .ok (.getfield 9, 3) := by decide +kernel
theorem d_Writer_beginPacket_81 : decode b_Writer_beginPacket 81 = .ok (.iload_n 1, 1) := by decide +kernel
theorem d_Writer_beginPacket_82 : decode b_Writer_beginPacket 82 = .ok (.ifCond .le 8, 3) := by decide +kernel
theorem d_Writer_beginPacket_85 : decode b_Writer_beginPacket 85 = .ok (.bipush 48, 2) := by decide +kernel
theorem d_Writer_beginPacket_87 : decode b_Writer_beginPacket 87 = .ok (.goto 5, 3) := by decide +kernel
theorem d_Writer_beginPacket_90 : decode b_Writer_beginPacket 90 = .ok (.bipush 16, 2) := by decide +kernel
theorem d_Writer_beginPacket_92 : decode b_Writer_beginPacket 92 = .ok (.aload_n 0, 1) := by decide +kernel
theorem d_Writer_beginPacket_93 : decode b_Writer_beginPacket 93 = .ok (.getfield 15, 3) := by decide +kernel
theorem d_Writer_beginPacket_96 : decode b_Writer_beginPacket 96 = .ok (.getfield 50, 3) := by decide +kernel
theorem d_Writer_beginPacket_99 : decode b_Writer_beginPacket 99 = .ok (.bipush 15, 2) := by decide +kernel
theorem d_Writer_beginPacket_101 : decode b_Writer_beginPacket 101 = .ok (.iand, 1) := by decide +kernel
theorem d_Writer_beginPacket_102 : decode b_Writer_beginPacket 102 = .ok (.ior, 1) := by decide +kernel
theorem d_Writer_beginPacket_103 : decode b_Writer_beginPacket 103 = .ok (.invokevirtual 29, 3) := by decide +kernel
theorem d_Writer_beginPacket_106 : decode b_Writer_beginPacket 106 = .ok (.aload_n 0, 1) := by decide +kernel
theorem d_Writer_beginPacket_107 : decode b_Writer_beginPacket 107 = .ok (.getfield 15, 3) := by decide +kernel
theorem d_Writer_beginPacket_110 : decode b_Writer_beginPacket 110 = .ok (.dup, 1) := by decide +kernel
theorem d_Writer_beginPacket_111 : decode b_Writer_beginPacket 111 = .ok (.getfield 50, 3) := by decide +kernel
theorem d_Writer_beginPacket_114 : decode b_Writer_beginPacket 114 = .ok (.iconst 1, 1) := by decide +kernel
theorem d_Writer_beginPacket_115 : decode b_Writer_beginPacket 115 = .ok (.iadd, 1) := by decide +kernel
theorem d_Writer_beginPacket_116 : decode b_Writer_beginPacket 116 = .ok (.putfield 50, 3) := by decide +kernel
theorem d_Writer_beginPacket_119 : decode b_Writer_beginPacket 119 = .ok (.aload_n 0, 1) := by decide +kernel
theorem d_Writer_beginPacket_120 : decode b_Writer_beginPacket 120 = .ok (.iconst 1, 1) := by decide +kernel
theorem d_Writer_beginPacket_121 : decode b_Writer_beginPacket 121 = .ok (.putfield 41, 3) := by decide +kernel
theorem d_Writer_beginPacket_124 : decode b_Writer_beginPacket 124 = .ok (.iload_n 1, 1) := by decide +kernel
theorem d_Writer_beginPacket_125 : decode b_Writer_beginPacket 125 = .ok (.ifCond .le 13, 3) := by decide +kernel
theorem d_Writer_beginPacket_128 : decode b_Writer_beginPacket 128 = .ok (.aload_n 0, 1) := by decide +kernel
theorem d_Writer_beginPacket_129 : decode b_Writer_beginPacket 129 = .ok (.getfield 9, 3) := by decide +kernel
theorem d_Writer_beginPacket_132 : decode b_Writer_beginPacket 132 = .ok (.iload_n 1, 1) := by decide +kernel
theorem d_Writer_beginPacket_133 : decode b_Writer_beginPacket 133 = .ok (.iconst 1, 1) := by decide +kernel
theorem d_Writer_beginPacket_134 : decode b_Writer_beginPacket 134 = .ok (.isub, 1) := by decide +kernel
theorem d_Writer_beginPacket_135 : decode b_Writer_beginPacket 135 = .ok (.invokevirtual 29, 3) := by decide +kernel
theorem d_Writer_beginPacket_138 : decode b_Writer_beginPacket 138 = .ok (.iconst 1, 1) := by decide +kernel
theorem d_Writer_beginPacket_139 : decode b_Writer_beginPacket 139 = .ok (.istore_n 2, 1) := by decide +kernel
theorem d_Writer_beginPacket_140 : decode b_Writer_beginPacket 140 = .ok (.iload_n 2, 1) := by decide +kernel
theorem d_Writer_beginPacket_141 : decode b_Writer_beginPacket 141 = .ok (.iload_n 1, 1) := by decide +kernel
theorem d_Writer_beginPacket_142 : decode b_Writer_beginPacket 142 = .ok (.if_icmp .ge 28, 3) := by decide +kernel
theorem d_Writer_beginPacket_145 : decode b_Writer_beginPacket 145 = .ok (.aload_n 0, 1) := by decide +kernel
theorem d_Writer_beginPacket_146 : decode b_Writer_beginPacket 146 = .ok (.getfield 9, 3) := by decide +kernel
theorem d_Writer_beginPacket_149 : decode b_Writer_beginPacket 149 = .ok (.iload_n 2, 1) := by decide +kernel
theorem d_Writer_beginPacket_150 : decode b_Writer_beginPacket 150 = .ok (.iconst 1, 1) := by decide +kernel
theorem d_Writer_beginPacket_151 : decode b_Writer_beginPacket 151 = .ok (.if_icmp .ne 7, 3) := by decide +kernel
theorem d_Writer_beginPacket_154 : decode b_Writer_beginPacket 154 = .ok (.iconst 0, 1) := by decide +kernel
theorem d_Writer_beginPacket_155 : decode b_Writer_beginPacket 155 = .ok (.goto 6, 3) := by decide +kernel
theorem d_Writer_beginPacket_158 : decode b_Writer_beginPacket 158 = .ok (.sipush 255, 3) := by decide +kernel
theorem d_Writer_beginPacket_161 : decode b_Writer_beginPacket 161 = .ok (.invokevirtual 29, 3) := by decide +kernel
theorem d_Writer_beginPacket_164 : decode b_Writer_beginPacket 164 = .ok (.iinc 2 1, 3) := by decide +kernel
theorem d_Writer_beginPacket_167 : decode b_Writer_beginPacket 167 = .ok (.goto (-27), 3) := by decide +kernel
theorem d_Writer_beginPacket_170 : decode b_Writer_beginPacket 170 = .ok (.return_, 1) := by decide +kernel
theorem d_Writer_init_0 : decode b_Writer_init 0 = .ok (.aload_n 0, 1) := by decide +kernel
theorem d_Writer_init_1 : decode b_Writer_init 1 = .ok (.invokespecial 3, 3) := by decide +kernel
theorem d_Writer_init_4 : decode b_Writer_init 4 = .ok (.aload_n 0, 1) := by decide +kernel
theorem d_Writer_init_5 : decode b_Writer_init 5 = .ok (.aload_n 1, 1) := by decide +kernel
theorem d_Writer_init_6 : decode b_Writer_init 6 = .ok (.putfield 9, 3) := by decide +kernel
theorem d_Writer_init_9 : decode b_Writer_init 9 = .ok (.aload_n 0, 1) := by decide +kernel
theorem d_Writer_init_10 : decode b_Writer_init 10 = .ok (.aload_n 2, 1) := by decide +kernel
theorem d_Writer_init_11 : decode b_Writer_init 11 = .ok (.putfield 15, 3) := by decide +kernel
theorem d_Writer_init_14 : decode b_Writer_init 14 = .ok (.aload_n 0, 1) := by decide +kernel
theorem d_Writer_init_15 : decode b_Writer_init 15 = .ok (.iload_n 3, 1) := by decide +kernel
theorem d_Writer_init_16 : decode b_Writer_init 16 = .ok (.putfield 19, 3) := by decide +kernel
theorem d_Writer_init_19 : decode b_Writer_init 19 = .ok (.return_, 1) := by decide +kernel
theorem wp_le {nn : Nat} (h : nI (184 - nn) ≤ 0) (h2 : nn ≤ 184) : ¬ nn < 184 := by
  have h3 := (nI_leI (b := 0) (by omega) (by omega)).mp h
  omega
theorem wp_gt {nn : Nat} (h : ¬ nI (184 - nn) ≤ 0) (h2 : nn ≤ 184) : nn < 184 := by
  have h3 := mt (nI_leI (a := 184 - nn) (b := 0) (by omega) (by omega)).mpr h
  omega
theorem wp_hd4 {T : List Int32} {pid w0 nn : Nat} {bg : Int32} (hp : pid < 8192) : (((T ++ [(71 : Int32) &&& 255]) ++ [((if bg = 0 then 64 else 0) ||| nI (pid / 256)) &&& 255]) ++ [nI pid &&& 255]) ++ [((if nn < 184 then 48 else 16) ||| nI (w0 % 16)) &&& 255] = T ++ hd4 pid (decide (bg = 0)) w0 nn := by
  have e1 : ((if bg = 0 then (64 : Int32) else 0) ||| nI (pid / 256)) &&& 255 = (if decide (bg = 0) = true then 64 else 0) ||| nI (pid / 256) := by
    have h := wr_b (pid / 256) (by omega)
    by_cases c : bg = 0
    · simp only [c, decide_true, if_true]; exact h.1
    · simp only [c, decide_false, if_false]; exact h.2
  have e2 : ((if nn < 184 then (48 : Int32) else 16) ||| nI (w0 % 16)) &&& 255 = (if nn < 184 then 48 else 16) ||| nI (w0 % 16) := by
    have h := wr_c (w0 % 16) (by omega)
    by_cases c : nn < 184
    · simp only [c, if_true]; exact h.1
    · simp only [c, if_false]; exact h.2
  rw [e1, e2, wr_256 (by omega)]
  simp only [List.append_assoc, hd4]
  rfl
theorem wp_i0 {T : List Int32} {nn : Nat} (h : 184 - nn = 0) : T = T ++ (stL (184 - nn)).take 1 := by
  rw [h]
  simp [stL]
theorem wp_i1 {T : List Int32} {nn : Nat} (h : 0 < 184 - nn) : T ++ [nI (184 - nn - 1) &&& 255] = T ++ (stL (184 - nn)).take 1 := by
  rw [st_take h, wr_255 (by omega)]
  simp
theorem wp_step {T X : List Int32} {nn k : Nat} (hX : X = T ++ (stL (184 - nn)).take k) (h : k < 184 - nn) (h1 : 1 ≤ k) : X ++ [(if k = 1 then 0 else 255) &&& 255] = T ++ (stL (184 - nn)).take (k + 1) := by
  rw [hX, st_take h, List.append_assoc]
  congr 3
  rw [if_neg (show ¬ k = 0 by omega)]
  by_cases c : k = 1
  · rw [if_pos c]; decide
  · rw [if_neg c]; decide
theorem wp_end {T X : List Int32} {pid w0 nn k : Nat} {b : Bool} (hX : X = (T ++ hd4 pid b w0 nn) ++ (stL (184 - nn)).take k) (h : 184 - nn ≤ k) : X = T ++ hdL pid b w0 nn := by
  rw [hX, List.take_of_length_le (by rw [st_len]; exact h), hdL, List.append_assoc]

set_option maxHeartbeats 4000000 in
set_option maxRecDepth 100000 in
theorem c_Row_addL (l : Launch) (D : va_G) (sz : Nat) (cB : ClassId) (h a ln : Nat) (T : List Int32) (f : Nat → Int32) (v : Int32) (hln : ln < 2 ^ 31) (hn : T.length < ln) (hf : rc f T) : Met l y_Row_add [Cond.code y_Row_add b_Row_add 2 none] ({ frames := 0, cells := 0, slots := 0, locals := 0 }) (zM [.ref h, .int v] D [(h, .inr (0, [.ref a, .int (nI (T).length)])), (a, .inl (cB, ln, .inl f))] [(cB, .byte)] sz) (va_Qv (fun (u : Nat → Int32) => rc u (T ++ [v &&& 255])) (fun (u : Nat → Int32) t => zW D (va_A [(h, .inr (0, [.ref a, .int (nI (T).length)])), (a, .inl (cB, ln, .inl f))] sz) [(h, .inr (0, [.ref a, .int (nI (T ++ [v &&& 255]).length)])), (a, .inl (cB, ln, .inl u))] [(cB, .byte)] t) (va_A [(h, .inr (0, [.ref a, .int (nI (T).length)])), (a, .inl (cB, ln, .inl f))] sz)) 0 0 (va_A [(h, .inr (0, [.ref a, .int (nI (T).length)])), (a, .inl (cB, ln, .inl f))] sz) := by
  refine Met.ofW (cc := b_Row_add) (maxL := 2) (ret := none) (by decide) rfl ?_
  intro p e s m args below meth cd s₁ Bd hml hv
  obtain ⟨rfl, hsz, hP, hK, hN, hD0⟩ := hv
  have hx := Bd.exec
  have hb := Bd.bytes
  have hr := Bd.returns
  have hts := hN.use (a := ([.ref h, .int v]).toArray)
  have hown : s.vm.findClass R_Row = some m.cls := findClass_of_methodNamed Bd.named
  have hlocks := Bd.notSynchronized
  subst hsz
  have hD := hD0.self (sz := s.heap.size)
  clear hD0
  have hA : ∀ q : Nat, s.heap.size ≤ q → va_A [(h, .inr (0, [.ref a, .int (nI (T).length)])), (a, .inl (cB, ln, .inl f))] s.heap.size q := fun q h => Or.inr h
  have hS : va_S (va_A [(h, .inr (0, [.ref a, .int (nI (T).length)])), (a, .inl (cB, ln, .inl f))] s.heap.size) s.heap s.heap [] := va_S.rf
  generalize hAe : va_A [(h, .inr (0, [.ref a, .int (nI (T).length)])), (a, .inl (cB, ln, .inl f))] s.heap.size = A at hD hA hS ⊢
  have hP : va_P D classes [(h, .inr (0, [.ref a, .int (nI (T).length)])), (a, .inl (cB, ln, .inl f))] s.heap := hP
  have hl := lv_entry ([.ref h, .int v]) (n := 2) (Nat.le_of_ble_eq_true rfl)
  rw [lg_entry_eq]
  generalize (lg_sl ([.ref h, .int v]) ++ List.replicate (2 - (lg_sl ([.ref h, .int v])).length) Slot.unset).toArray = ls at hl ⊢
  have hl : lv_has ls 2 [(0, .ref h), (1, .int v)] := hl
  refine lv_aload_n hx hb d_Row_add_0 rfl (lv_at hl 0 rfl) ?_
  refine va_get (D := D) (ci := 0) (v := .int (nI (T).length)) (C := R_Row) (T := F_Row) (N := 2) hx hb hts i_Row hown hK hP 0 rfl rfl 1 (by decide) (hts _ wd_107) (fun _ h9 => h9) rfl d_Row_add_1 ?_
  refine lv_if_lt (tgt := 40) hx hb d_Row_add_4 rfl (fun h9 => absurd h9 (nI_pos (by omega))) (fun h4 => ?_)
  refine lv_aload_n hx hb d_Row_add_7 rfl (lv_at hl 0 rfl) ?_
  refine va_get (D := D) (ci := 0) (v := .int (nI (T).length)) (C := R_Row) (T := F_Row) (N := 2) hx hb hts i_Row hown hK hP 0 rfl rfl 1 (by decide) (hts _ wd_107) (fun _ h9 => h9) rfl d_Row_add_8 ?_
  refine lv_aload_n hx hb d_Row_add_11 rfl (lv_at hl 0 rfl) ?_
  refine va_get (D := D) (ci := 0) (v := .ref a) (C := R_Row) (T := F_Row) (N := 2) hx hb hts i_Row hown hK hP 0 rfl rfl 0 (by decide) (hts _ wd_106) (fun _ h9 => h9) rfl d_Row_add_12 ?_
  refine va_alen (v := nI ln) hx hb hK hP 1 0 rfl rfl rfl d_Row_add_15 ?_
  refine lv_icmp_ge (tgt := 40) hx hb d_Row_add_16 rfl (fun h9 => absurd h9 (nI_ge hn hln)) (fun h16 => ?_)
  refine lv_aload_n hx hb d_Row_add_19 rfl (lv_at hl 0 rfl) ?_
  refine va_get (D := D) (ci := 0) (v := .ref a) (C := R_Row) (T := F_Row) (N := 2) hx hb hts i_Row hown hK hP 0 rfl rfl 0 (by decide) (hts _ wd_106) (fun _ h9 => h9) rfl d_Row_add_20 ?_
  refine lv_aload_n hx hb d_Row_add_23 rfl (lv_at hl 0 rfl) ?_
  refine va_get (D := D) (ci := 0) (v := .int (nI (T).length)) (C := R_Row) (T := F_Row) (N := 2) hx hb hts i_Row hown hK hP 0 rfl rfl 1 (by decide) (hts _ wd_107) (fun _ h9 => h9) rfl d_Row_add_24 ?_
  refine lv_iload_n hx hb d_Row_add_27 rfl (lv_at hl 1 rfl) ?_
  refine lv_i2b (v := v.toInt8.toInt32) hx hb d_Row_add_28 rfl ?_
  refine z_bast hx hb hK hP hD hS 1 0 rfl rfl T.length rfl hn hln d_Row_add_29 (fun H locs hP hD hS => ?_)
  have hP : va_P D classes [(h, .inr (0, [.ref a, .int (nI (T).length)])), (a, .inl (cB, ln, .inl (upd f T.length (vp_nar .byte v.toInt8.toInt32))))] H := hP
  have hD : va_D A [(h, .inr (0, [.ref a, .int (nI (T).length)])), (a, .inl (cB, ln, .inl (upd f T.length (vp_nar .byte v.toInt8.toInt32))))] := hD
  rw [show upd f T.length (vp_nar .byte v.toInt8.toInt32) = upd f T.length (by8 v) from by rw [pk_vb]; rfl] at hP hD
  have hP : va_P D classes [(h, .inr (0, [.ref a, .int (nI (T).length)])), (a, .inl (cB, ln, .inl (upd f T.length (by8 v))))] H := hP
  have hD : va_D A [(h, .inr (0, [.ref a, .int (nI (T).length)])), (a, .inl (cB, ln, .inl (upd f T.length (by8 v))))] := hD
  refine lv_aload_n hx hb d_Row_add_30 rfl (lv_at hl 0 rfl) ?_
  refine lv_dup hx hb d_Row_add_31 rfl ?_
  refine va_get (D := D) (ci := 0) (v := .int (nI (T).length)) (C := R_Row) (T := F_Row) (N := 2) hx hb hts i_Row hown hK hP 0 rfl rfl 1 (by decide) (hts _ wd_107) (fun _ h9 => h9) rfl d_Row_add_32 ?_
  refine lv_iconst (v := 1) hx hb d_Row_add_35 (by decide) ?_
  refine lv_iadd hx hb d_Row_add_36 ?_
  refine z_topi (w := nI (T ++ [v &&& 255]).length) (by rw [nI_1]; congr 1; simp) ?_
  refine va_put (D := D) (ci := 0) (v := .int (nI (T ++ [v &&& 255]).length)) (ty := .int) (C := R_Row) (T := F_Row) (N := 2) hx hb hts i_Row t_Row t_Row_ok n_Row hown hK hP hD hS 0 rfl rfl 1 (by decide) (hts _ wd_107) (fun _ h9 => h9) rfl (by decide +kernel) rfl rfl (Nat.le_of_ble_eq_true rfl) d_Row_add_37 (fun H locs hP hD hS => ?_)
  have hP : va_P D classes [(h, .inr (0, [.ref a, .int (nI (T ++ [v &&& 255]).length)])), (a, .inl (cB, ln, .inl (upd f T.length (by8 v))))] H := hP
  have hD : va_D A [(h, .inr (0, [.ref a, .int (nI (T ++ [v &&& 255]).length)])), (a, .inl (cB, ln, .inl (upd f T.length (by8 v))))] := hD
  have hP9 := hP.sub (ws' := [(h, .inr (0, [.ref a, .int (nI (T ++ [v &&& 255]).length)])), (a, .inl (cB, ln, .inl (upd f T.length (by8 v))))]) [0, 1] rfl
  have hD9 := hD.sub (ws' := [(h, .inr (0, [.ref a, .int (nI (T ++ [v &&& 255]).length)])), (a, .inl (cB, ln, .inl (upd f T.length (by8 v))))]) [0, 1] (by decide) rfl
  have hK9 := hK.sub (tys' := [(cB, .byte)]) [0] rfl
  exact W.vret hx hb hr (fun t ht hW => ⟨⟨upd f T.length (by8 v), rfl, (rc_snoc hf), ⟨by rw [ht]; exact hP9, va_K.moved hW.alike hK9, hD9⟩⟩, hS.F ht⟩) hS.2.2 d_Row_add_40
set_option maxHeartbeats 4000000 in
set_option maxRecDepth 100000 in
theorem c_Writer_init (l : Launch) (D : va_G) (sz : Nat) (w tp la : Nat) (x : Int32)  : Met l y_Writer_init [Cond.code y_Writer_init b_Writer_init 4 none] ({ frames := 1, cells := 0, slots := 0, locals := 12 }) (zM [.ref w, .ref tp, .ref la, .int x] D [(w, .inr (10, [.null, .null, .int 0, .int 0, .int 0, .int 0]))] [] sz) (va_Qv (fun (_ : Unit) => True) (fun (_u : Unit) t => zW D (va_A [(w, .inr (10, [.null, .null, .int 0, .int 0, .int 0, .int 0]))] sz) [(w, .inr (10, [.ref tp, .ref la, .int x, .int 0, .int 0, .int 0]))] [] t) (va_A [(w, .inr (10, [.null, .null, .int 0, .int 0, .int 0, .int 0]))] sz)) 0 0 (va_A [(w, .inr (10, [.null, .null, .int 0, .int 0, .int 0, .int 0]))] sz) := by
  refine Met.ofW (cc := b_Writer_init) (maxL := 4) (ret := none) (by decide) rfl ?_
  intro p e s m args below meth cd s₁ Bd hml hv
  obtain ⟨rfl, hsz, hP, hK, hN, hD0⟩ := hv
  have hx := Bd.exec
  have hb := Bd.bytes
  have hr := Bd.returns
  have hts := hN.use (a := ([.ref w, .ref tp, .ref la, .int x]).toArray)
  have hown : s.vm.findClass R_Writer = some m.cls := findClass_of_methodNamed Bd.named
  have hlocks := Bd.notSynchronized
  have hin : meth.name = "<init>" := (name_of_methodNamed Bd.named Bd.method).1
  subst hsz
  have hD := hD0.self (sz := s.heap.size)
  clear hD0
  have hA : ∀ q : Nat, s.heap.size ≤ q → va_A [(w, .inr (10, [.null, .null, .int 0, .int 0, .int 0, .int 0]))] s.heap.size q := fun q h => Or.inr h
  have hS : va_S (va_A [(w, .inr (10, [.null, .null, .int 0, .int 0, .int 0, .int 0]))] s.heap.size) s.heap s.heap [] := va_S.rf
  generalize hAe : va_A [(w, .inr (10, [.null, .null, .int 0, .int 0, .int 0, .int 0]))] s.heap.size = A at hD hA hS ⊢
  have hP : va_P D classes [(w, .inr (10, [.null, .null, .int 0, .int 0, .int 0, .int 0]))] s.heap := hP
  have hl := lv_entry ([.ref w, .ref tp, .ref la, .int x]) (n := 4) (Nat.le_of_ble_eq_true rfl)
  rw [lg_entry_eq]
  generalize (lg_sl ([.ref w, .ref tp, .ref la, .int x]) ++ List.replicate (4 - (lg_sl ([.ref w, .ref tp, .ref la, .int x])).length) Slot.unset).toArray = ls at hl ⊢
  have hl : lv_has ls 4 [(0, .ref w), (1, .ref tp), (2, .ref la), (3, .int x)] := hl
  refine lv_aload_n hx hb d_Writer_init_0 rfl (lv_at hl 0 rfl) ?_
  refine W.objInit hx hb hown (hts _ wd_951) (hts _ wd_92) (hts _ wd_93) rfl (by rw [hml]; exact hl.1) rfl d_Writer_init_1 (Nat.le_of_ble_eq_true rfl) (Nat.le_of_ble_eq_true rfl) ?_
  refine W.eq (g2 := F0 m 4 ls []) rfl ?_
  refine lv_aload_n hx hb d_Writer_init_4 rfl (lv_at hl 0 rfl) ?_
  refine lv_aload_n hx hb d_Writer_init_5 rfl (lv_at hl 1 rfl) ?_
  refine va_putF (D := D) (ci := 10) (v := .ref tp) (ty := (.object "StreamSplitter$Row")) (C := R_Writer) (T := F_Writer) (N := 6) hx hb hts i_Writer t_Writer t_Writer_ok n_Writer hown hK hP hD hS 0 rfl rfl 0 (by decide) (hts _ wd_952) (fun _ h9 => h9) rfl hin rfl (by decide +kernel) rfl rfl (Nat.le_of_ble_eq_true rfl) d_Writer_init_6 (fun H locs hP hD hS => ?_)
  have hP : va_P D classes [(w, .inr (10, [.ref tp, .null, .int 0, .int 0, .int 0, .int 0]))] H := hP
  have hD : va_D A [(w, .inr (10, [.ref tp, .null, .int 0, .int 0, .int 0, .int 0]))] := hD
  refine lv_aload_n hx hb d_Writer_init_9 rfl (lv_at hl 0 rfl) ?_
  refine lv_aload_n hx hb d_Writer_init_10 rfl (lv_at hl 2 rfl) ?_
  refine va_putF (D := D) (ci := 10) (v := .ref la) (ty := (.object "StreamSplitter$Lane")) (C := R_Writer) (T := F_Writer) (N := 6) hx hb hts i_Writer t_Writer t_Writer_ok n_Writer hown hK hP hD hS 0 rfl rfl 1 (by decide) (hts _ wd_953) (fun _ h9 => h9) rfl hin rfl (by decide +kernel) rfl rfl (Nat.le_of_ble_eq_true rfl) d_Writer_init_11 (fun H locs hP hD hS => ?_)
  have hP : va_P D classes [(w, .inr (10, [.ref tp, .ref la, .int 0, .int 0, .int 0, .int 0]))] H := hP
  have hD : va_D A [(w, .inr (10, [.ref tp, .ref la, .int 0, .int 0, .int 0, .int 0]))] := hD
  refine lv_aload_n hx hb d_Writer_init_14 rfl (lv_at hl 0 rfl) ?_
  refine lv_iload_n hx hb d_Writer_init_15 rfl (lv_at hl 3 rfl) ?_
  refine va_put (D := D) (ci := 10) (v := .int x) (ty := .int) (C := R_Writer) (T := F_Writer) (N := 6) hx hb hts i_Writer t_Writer t_Writer_ok n_Writer hown hK hP hD hS 0 rfl rfl 2 (by decide) (hts _ wd_954) (fun _ h9 => h9) rfl (by decide +kernel) rfl rfl (Nat.le_of_ble_eq_true rfl) d_Writer_init_16 (fun H locs hP hD hS => ?_)
  have hP : va_P D classes [(w, .inr (10, [.ref tp, .ref la, .int x, .int 0, .int 0, .int 0]))] H := hP
  have hD : va_D A [(w, .inr (10, [.ref tp, .ref la, .int x, .int 0, .int 0, .int 0]))] := hD
  have hP9 := hP.sub (ws' := [(w, .inr (10, [.ref tp, .ref la, .int x, .int 0, .int 0, .int 0]))]) [0] rfl
  have hD9 := hD.sub (ws' := [(w, .inr (10, [.ref tp, .ref la, .int x, .int 0, .int 0, .int 0]))]) [0] (by decide) rfl
  have hK9 := hK.sub (tys' := []) [] rfl
  exact W.vret hx hb hr (fun t ht hW => ⟨⟨(), rfl, trivial, ⟨by rw [ht]; exact hP9, va_K.moved hW.alike hK9, hD9⟩⟩, hS.F ht⟩) hS.2.2 d_Writer_init_19
set_option maxHeartbeats 4000000 in
set_option maxRecDepth 100000 in
theorem c_Writer_beginPacket (l : Launch) (D : va_G) (sz : Nat) (cB : ClassId) (w tp a : Nat) (T : List Int32) (f : Nat → Int32) (lf nn : Nat) (rm bg ss : Int32) (la pid w0 : Nat) (nx se pi : Option Nat) (ct tw : Int32) (ck : Int64) (hf : rc f T) (hlf : 1 ≤ lf) (hlf2 : lf < 2 ^ 30) (hnn : nn = min 184 lf) (hpid : pid < 8192) (hw0 : w0 < 2 ^ 30) (hT : T.length + 188 ≤ 9400) (hbg : bg = 0 ∨ bg = 1) : Met l y_Writer_beginPacket [Cond.code y_Writer_beginPacket b_Writer_beginPacket 3 none] ({ frames := 1, cells := 0, slots := 0, locals := 21 }) (zM [.ref w] D [(w, .inr (10, [.ref tp, .ref la, .int (nI lf), .int rm, .int bg, .int ss])), (la, .inr (1, [.int (nI pid), va_rf nx, .int ct, .int tw, .long ck, .int (nI w0), va_rf se, va_rf pi])), (tp, .inr (0, [.ref a, .int (nI (T).length)])), (a, .inl (cB, 9400, .inl f))] [(cB, .byte)] sz) (va_Qv (fun (u : Nat → Int32) => rc u (T ++ hdL pid (decide (bg = 0)) w0 nn)) (fun (u : Nat → Int32) t => zW D (va_A [(w, .inr (10, [.ref tp, .ref la, .int (nI lf), .int rm, .int bg, .int ss])), (la, .inr (1, [.int (nI pid), va_rf nx, .int ct, .int tw, .long ck, .int (nI w0), va_rf se, va_rf pi])), (tp, .inr (0, [.ref a, .int (nI (T).length)])), (a, .inl (cB, 9400, .inl f))] sz) [(w, .inr (10, [.ref tp, .ref la, .int (nI lf), .int (nI nn), .int 1, .int ss])), (la, .inr (1, [.int (nI pid), va_rf nx, .int ct, .int tw, .long ck, .int (nI (w0 + 1)), va_rf se, va_rf pi])), (tp, .inr (0, [.ref a, .int (nI (T ++ hdL pid (decide (bg = 0)) w0 nn).length)])), (a, .inl (cB, 9400, .inl u))] [(cB, .byte)] t) (va_A [(w, .inr (10, [.ref tp, .ref la, .int (nI lf), .int rm, .int bg, .int ss])), (la, .inr (1, [.int (nI pid), va_rf nx, .int ct, .int tw, .long ck, .int (nI w0), va_rf se, va_rf pi])), (tp, .inr (0, [.ref a, .int (nI (T).length)])), (a, .inl (cB, 9400, .inl f))] sz)) 0 0 (va_A [(w, .inr (10, [.ref tp, .ref la, .int (nI lf), .int rm, .int bg, .int ss])), (la, .inr (1, [.int (nI pid), va_rf nx, .int ct, .int tw, .long ck, .int (nI w0), va_rf se, va_rf pi])), (tp, .inr (0, [.ref a, .int (nI (T).length)])), (a, .inl (cB, 9400, .inl f))] sz) := by
  refine Met.ofW (cc := b_Writer_beginPacket) (maxL := 3) (ret := none) (by decide) rfl ?_
  intro p e s m args below meth cd s₁ Bd hml hv
  obtain ⟨rfl, hsz, hP, hK, hN, hD0⟩ := hv
  have hx := Bd.exec
  have hb := Bd.bytes
  have hr := Bd.returns
  have hts := hN.use (a := ([.ref w]).toArray)
  have hown : s.vm.findClass R_Writer = some m.cls := findClass_of_methodNamed Bd.named
  have hlocks := Bd.notSynchronized
  subst hsz
  have hD := hD0.self (sz := s.heap.size)
  clear hD0
  have hA : ∀ q : Nat, s.heap.size ≤ q → va_A [(w, .inr (10, [.ref tp, .ref la, .int (nI lf), .int rm, .int bg, .int ss])), (la, .inr (1, [.int (nI pid), va_rf nx, .int ct, .int tw, .long ck, .int (nI w0), va_rf se, va_rf pi])), (tp, .inr (0, [.ref a, .int (nI (T).length)])), (a, .inl (cB, 9400, .inl f))] s.heap.size q := fun q h => Or.inr h
  have hS : va_S (va_A [(w, .inr (10, [.ref tp, .ref la, .int (nI lf), .int rm, .int bg, .int ss])), (la, .inr (1, [.int (nI pid), va_rf nx, .int ct, .int tw, .long ck, .int (nI w0), va_rf se, va_rf pi])), (tp, .inr (0, [.ref a, .int (nI (T).length)])), (a, .inl (cB, 9400, .inl f))] s.heap.size) s.heap s.heap [] := va_S.rf
  generalize hAe : va_A [(w, .inr (10, [.ref tp, .ref la, .int (nI lf), .int rm, .int bg, .int ss])), (la, .inr (1, [.int (nI pid), va_rf nx, .int ct, .int tw, .long ck, .int (nI w0), va_rf se, va_rf pi])), (tp, .inr (0, [.ref a, .int (nI (T).length)])), (a, .inl (cB, 9400, .inl f))] s.heap.size = A at hD hA hS ⊢
  have hP : va_P D classes [(w, .inr (10, [.ref tp, .ref la, .int (nI lf), .int rm, .int bg, .int ss])), (la, .inr (1, [.int (nI pid), va_rf nx, .int ct, .int tw, .long ck, .int (nI w0), va_rf se, va_rf pi])), (tp, .inr (0, [.ref a, .int (nI (T).length)])), (a, .inl (cB, 9400, .inl f))] s.heap := hP
  have hl := lv_entry ([.ref w]) (n := 3) (Nat.le_of_ble_eq_true rfl)
  rw [lg_entry_eq]
  generalize (lg_sl ([.ref w]) ++ List.replicate (3 - (lg_sl ([.ref w])).length) Slot.unset).toArray = ls at hl ⊢
  have hl : lv_has ls 3 [(0, .ref w)] := hl
  refine lv_aload_n hx hb d_Writer_beginPacket_0 rfl (lv_at hl 0 rfl) ?_
  refine lv_aload_n hx hb d_Writer_beginPacket_1 rfl (lv_at hl 0 rfl) ?_
  refine va_get (D := D) (ci := 10) (v := .int (nI lf)) (C := R_Writer) (T := F_Writer) (N := 6) hx hb hts i_Writer hown hK hP 0 rfl rfl 2 (by decide) (hts _ wd_954) (fun _ h9 => h9) rfl d_Writer_beginPacket_2 ?_
  refine lv_sipush (v := 184) hx hb d_Writer_beginPacket_5 (by decide) ?_
  refine va_mmin hx hb (by rw [hml]; exact hl.1.symm) hown (hts _ wd_993) (hts _ wd_518) (hts _ wd_80) (hts _ wd_519) (Nat.le_of_ble_eq_true rfl) (Nat.le_of_ble_eq_true rfl) (by show 0 ≤ 0; omega) (by show 0 ≤ 0; omega) d_Writer_beginPacket_8 ?_
  refine z_topi (w := nI nn) (by rw [hnn]; exact wr_min (by omega)) ?_
  refine va_put (D := D) (ci := 10) (v := .int (nI nn)) (ty := .int) (C := R_Writer) (T := F_Writer) (N := 6) hx hb hts i_Writer t_Writer t_Writer_ok n_Writer hown hK hP hD hS 0 rfl rfl 3 (by decide) (hts _ wd_955) (fun _ h9 => h9) rfl (by decide +kernel) rfl rfl (Nat.le_of_ble_eq_true rfl) d_Writer_beginPacket_11 (fun H locs hP hD hS => ?_)
  have hP : va_P D classes [(w, .inr (10, [.ref tp, .ref la, .int (nI lf), .int (nI nn), .int bg, .int ss])), (la, .inr (1, [.int (nI pid), va_rf nx, .int ct, .int tw, .long ck, .int (nI w0), va_rf se, va_rf pi])), (tp, .inr (0, [.ref a, .int (nI (T).length)])), (a, .inl (cB, 9400, .inl f))] H := hP
  have hD : va_D A [(w, .inr (10, [.ref tp, .ref la, .int (nI lf), .int (nI nn), .int bg, .int ss])), (la, .inr (1, [.int (nI pid), va_rf nx, .int ct, .int tw, .long ck, .int (nI w0), va_rf se, va_rf pi])), (tp, .inr (0, [.ref a, .int (nI (T).length)])), (a, .inl (cB, 9400, .inl f))] := hD
  refine lv_sipush (v := 184) hx hb d_Writer_beginPacket_14 (by decide) ?_
  refine lv_aload_n hx hb d_Writer_beginPacket_17 rfl (lv_at hl 0 rfl) ?_
  refine va_get (D := D) (ci := 10) (v := .int (nI nn)) (C := R_Writer) (T := F_Writer) (N := 6) hx hb hts i_Writer hown hK hP 0 rfl rfl 3 (by decide) (hts _ wd_955) (fun _ h9 => h9) rfl d_Writer_beginPacket_18 ?_
  refine lv_isub hx hb d_Writer_beginPacket_21 ?_
  refine z_topi (w := nI (184 - nn)) (pk_sub (a := 184) (by omega)) ?_
  refine lv_istore_n (lv' := [(1, .int (nI (184 - nn))), (0, .ref w)]) hx hb d_Writer_beginPacket_22 rfl hl (by decide) rfl (fun ls hl => ?_)
  refine lv_aload_n hx hb d_Writer_beginPacket_23 rfl (lv_at hl 1 rfl) ?_
  refine va_get (D := D) (ci := 10) (v := .ref tp) (C := R_Writer) (T := F_Writer) (N := 6) hx hb hts i_Writer hown hK hP 0 rfl rfl 0 (by decide) (hts _ wd_952) (fun _ h9 => h9) rfl d_Writer_beginPacket_24 ?_
  refine lv_bipush (v := 71) hx hb d_Writer_beginPacket_27 (by decide) ?_
  have hPc := hP.sub (ws' := [(tp, .inr (0, [.ref a, .int (nI (T).length)])), (a, .inl (cB, 9400, .inl f))]) [2, 3] rfl
  have hKc := hK.sub (tys' := [(cB, .byte)]) [0] rfl
  have hDc := hD.sub (ws' := [(tp, .inr (0, [.ref a, .int (nI (T).length)])), (a, .inl (cB, 9400, .inl f))]) [2, 3] (by decide) rfl
  have hFc := va_free (wc := [(tp, .inr (0, [.ref a, .int (nI (T).length)])), (a, .inl (cB, 9400, .inl f))]) hD hS hA [2, 3] rfl
  refine va_callv (va_runV (As := [.int 71]) (rest := []) ⟨hx, hb, hml, hown, hts⟩ (c_Row_addL l D H.size cB tp a 9400 T f 71 (by omega) (by omega) hf) (z_cV hN wd_538 wd_61 wd_994 hd_Row_add rfl rfl ⟨Nat.le_of_ble_eq_true rfl, Nat.le_of_ble_eq_true rfl⟩ wd_536 wd_537) (z_preVm (va_recv (ci := 0) (q0 := 2) hK hP rfl rfl) hPc hKc hN hDc) rfl rfl hl.1 rfl (lv_room (Nat.le_of_ble_eq_true rfl)) d_Writer_beginPacket_29 ⟨Nat.le_of_ble_eq_true rfl, Nat.le_of_ble_eq_true rfl⟩) hS (fun q _ h => hFc q h) hFc (fun f1 t H locs ht hvm e29 hB hz1 hk1 hS => ?_)
  obtain ⟨hP1, hK1, hD1⟩ := hB
  rw [ht] at hP1
  obtain ⟨hP, hD⟩ := va_join (wr := [(w, .inr (10, [.ref tp, .ref la, .int (nI lf), .int (nI nn), .int bg, .int ss])), (la, .inr (1, [.int (nI pid), va_rf nx, .int ct, .int tw, .long ck, .int (nI w0), va_rf se, va_rf pi]))]) (w1 := [(tp, .inr (0, [.ref a, .int (nI (T ++ [71 &&& 255]).length)])), (a, .inl (cB, 9400, .inl f1))]) hP hD [2, 3] [0, 1] rfl rfl (by decide) (by decide) hk1 hFc hP1 hD1
  clear hk1 hP1 hD1 hFc hPc hDc hz1
  have hP : va_P D classes [(w, .inr (10, [.ref tp, .ref la, .int (nI lf), .int (nI nn), .int bg, .int ss])), (la, .inr (1, [.int (nI pid), va_rf nx, .int ct, .int tw, .long ck, .int (nI w0), va_rf se, va_rf pi])), (tp, .inr (0, [.ref a, .int (nI (T ++ [71 &&& 255]).length)])), (a, .inl (cB, 9400, .inl f1))] H := hP
  have hD : va_D A [(w, .inr (10, [.ref tp, .ref la, .int (nI lf), .int (nI nn), .int bg, .int ss])), (la, .inr (1, [.int (nI pid), va_rf nx, .int ct, .int tw, .long ck, .int (nI w0), va_rf se, va_rf pi])), (tp, .inr (0, [.ref a, .int (nI (T ++ [71 &&& 255]).length)])), (a, .inl (cB, 9400, .inl f1))] := hD
  have hl1 : (T ++ [(71 : Int32) &&& 255]).length = T.length + 1 := by simp
  refine lv_aload_n hx hb d_Writer_beginPacket_32 rfl (lv_at hl 1 rfl) ?_
  refine va_get (D := D) (ci := 10) (v := .ref tp) (C := R_Writer) (T := F_Writer) (N := 6) hx hb hts i_Writer hown hK hP 0 rfl rfl 0 (by decide) (hts _ wd_952) (fun _ h9 => h9) rfl d_Writer_beginPacket_33 ?_
  refine lv_aload_n hx hb d_Writer_beginPacket_36 rfl (lv_at hl 1 rfl) ?_
  refine va_get (D := D) (ci := 10) (v := .int bg) (C := R_Writer) (T := F_Writer) (N := 6) hx hb hts i_Writer hown hK hP 0 rfl rfl 4 (by decide) (hts _ wd_956) (fun _ h9 => h9) rfl d_Writer_beginPacket_37 ?_
  suffices key40 : W p l e ({ frames := 1, cells := 0, slots := 0, locals := 21 }) s m ([.ref w]).toArray below meth cd H locs 0 0 (MQ below (va_Qv (fun (u : Nat → Int32) => rc u (T ++ hdL pid (decide (bg = 0)) w0 nn)) (fun (u : Nat → Int32) t => zW D (A) [(w, .inr (10, [.ref tp, .ref la, .int (nI lf), .int (nI nn), .int 1, .int ss])), (la, .inr (1, [.int (nI pid), va_rf nx, .int ct, .int tw, .long ck, .int (nI (w0 + 1)), va_rf se, va_rf pi])), (tp, .inr (0, [.ref a, .int (nI (T ++ hdL pid (decide (bg = 0)) w0 nn).length)])), (a, .inl (cB, 9400, .inl u))] [(cB, .byte)] t) (A)) ([.ref w]).toArray s 0 0 (A)) (F0 m 49 ls [.int (if bg = 0 then 64 else 0), .ref tp]) by
    refine lv_if_eq (tgt := 47) hx hb d_Writer_beginPacket_40 rfl (fun h40 => ?_) (fun h40 => ?_)
    · refine lv_bipush (v := 64) hx hb d_Writer_beginPacket_47 (by decide) ?_
      refine z_topi (w := (if bg = 0 then 64 else 0)) ((if_pos h40).symm) ?_
      exact key40
    · refine lv_iconst (v := 0) hx hb d_Writer_beginPacket_43 (by decide) ?_
      refine lv_goto (tgt := 49) hx hb d_Writer_beginPacket_44 rfl ?_
      refine z_topi (w := (if bg = 0 then 64 else 0)) ((if_neg h40).symm) ?_
      exact key40
  refine lv_aload_n hx hb d_Writer_beginPacket_49 rfl (lv_at hl 1 rfl) ?_
  refine va_get (D := D) (ci := 10) (v := .ref la) (C := R_Writer) (T := F_Writer) (N := 6) hx hb hts i_Writer hown hK hP 0 rfl rfl 1 (by decide) (hts _ wd_953) (fun _ h9 => h9) rfl d_Writer_beginPacket_50 ?_
  refine va_getN (D := D) (ci := 1) (v := .int (nI pid)) (C := R_Lane) (T := F_Lane) (N := 8) hx hb hts i_Lane hown hK hP 1 rfl rfl 0 (by decide) (hts _ wd_242) (fun _ h9 => h9) rfl d_Writer_beginPacket_53 ?_
  refine lv_bipush (v := 8) hx hb d_Writer_beginPacket_56 (by decide) ?_
  refine lv_ishr hx hb d_Writer_beginPacket_58 ?_
  refine z_topi (w := nI (pid / 256)) (wr_shr8 (by omega)) ?_
  refine lv_ior hx hb d_Writer_beginPacket_59 ?_
  refine z_topi (w := (if bg = 0 then 64 else 0) ||| nI (pid / 256)) rfl ?_
  have hPc := hP.sub (ws' := [(tp, .inr (0, [.ref a, .int (nI ((T ++ [(71 : Int32) &&& 255])).length)])), (a, .inl (cB, 9400, .inl f1))]) [2, 3] rfl
  have hKc := hK.sub (tys' := [(cB, .byte)]) [0] rfl
  have hDc := hD.sub (ws' := [(tp, .inr (0, [.ref a, .int (nI ((T ++ [(71 : Int32) &&& 255])).length)])), (a, .inl (cB, 9400, .inl f1))]) [2, 3] (by decide) rfl
  have hFc := va_free (wc := [(tp, .inr (0, [.ref a, .int (nI ((T ++ [(71 : Int32) &&& 255])).length)])), (a, .inl (cB, 9400, .inl f1))]) hD hS hA [2, 3] rfl
  refine va_callv (va_runV (As := [.int ((if bg = 0 then 64 else 0) ||| nI (pid / 256))]) (rest := []) ⟨hx, hb, hml, hown, hts⟩ (c_Row_addL l D H.size cB tp a 9400 (T ++ [(71 : Int32) &&& 255]) f1 ((if bg = 0 then 64 else 0) ||| nI (pid / 256)) (by omega) (by omega) e29) (z_cV hN wd_538 wd_61 wd_994 hd_Row_add rfl rfl ⟨Nat.le_of_ble_eq_true rfl, Nat.le_of_ble_eq_true rfl⟩ wd_536 wd_537) (z_preVm (va_recv (ci := 0) (q0 := 2) hK hP rfl rfl) hPc hKc hN hDc) rfl rfl hl.1 rfl (lv_room (Nat.le_of_ble_eq_true rfl)) d_Writer_beginPacket_60 ⟨Nat.le_of_ble_eq_true rfl, Nat.le_of_ble_eq_true rfl⟩) hS (fun q _ h => hFc q h) hFc (fun f2 t H locs ht hvm e60 hB hz1 hk1 hS => ?_)
  obtain ⟨hP1, hK1, hD1⟩ := hB
  rw [ht] at hP1
  obtain ⟨hP, hD⟩ := va_join (wr := [(w, .inr (10, [.ref tp, .ref la, .int (nI lf), .int (nI nn), .int bg, .int ss])), (la, .inr (1, [.int (nI pid), va_rf nx, .int ct, .int tw, .long ck, .int (nI w0), va_rf se, va_rf pi]))]) (w1 := [(tp, .inr (0, [.ref a, .int (nI ((T ++ [(71 : Int32) &&& 255]) ++ [((if bg = 0 then 64 else 0) ||| nI (pid / 256)) &&& 255]).length)])), (a, .inl (cB, 9400, .inl f2))]) hP hD [2, 3] [0, 1] rfl rfl (by decide) (by decide) hk1 hFc hP1 hD1
  clear hk1 hP1 hD1 hFc hPc hDc hz1
  have hP : va_P D classes [(w, .inr (10, [.ref tp, .ref la, .int (nI lf), .int (nI nn), .int bg, .int ss])), (la, .inr (1, [.int (nI pid), va_rf nx, .int ct, .int tw, .long ck, .int (nI w0), va_rf se, va_rf pi])), (tp, .inr (0, [.ref a, .int (nI ((T ++ [(71 : Int32) &&& 255]) ++ [((if bg = 0 then 64 else 0) ||| nI (pid / 256)) &&& 255]).length)])), (a, .inl (cB, 9400, .inl f2))] H := hP
  have hD : va_D A [(w, .inr (10, [.ref tp, .ref la, .int (nI lf), .int (nI nn), .int bg, .int ss])), (la, .inr (1, [.int (nI pid), va_rf nx, .int ct, .int tw, .long ck, .int (nI w0), va_rf se, va_rf pi])), (tp, .inr (0, [.ref a, .int (nI ((T ++ [(71 : Int32) &&& 255]) ++ [((if bg = 0 then 64 else 0) ||| nI (pid / 256)) &&& 255]).length)])), (a, .inl (cB, 9400, .inl f2))] := hD
  have hl2 : ((T ++ [(71 : Int32) &&& 255]) ++ [((if bg = 0 then 64 else 0) ||| nI (pid / 256)) &&& 255]).length = T.length + 2 := by simp
  refine lv_aload_n hx hb d_Writer_beginPacket_63 rfl (lv_at hl 1 rfl) ?_
  refine va_get (D := D) (ci := 10) (v := .ref tp) (C := R_Writer) (T := F_Writer) (N := 6) hx hb hts i_Writer hown hK hP 0 rfl rfl 0 (by decide) (hts _ wd_952) (fun _ h9 => h9) rfl d_Writer_beginPacket_64 ?_
  refine lv_aload_n hx hb d_Writer_beginPacket_67 rfl (lv_at hl 1 rfl) ?_
  refine va_get (D := D) (ci := 10) (v := .ref la) (C := R_Writer) (T := F_Writer) (N := 6) hx hb hts i_Writer hown hK hP 0 rfl rfl 1 (by decide) (hts _ wd_953) (fun _ h9 => h9) rfl d_Writer_beginPacket_68 ?_
  refine va_getN (D := D) (ci := 1) (v := .int (nI pid)) (C := R_Lane) (T := F_Lane) (N := 8) hx hb hts i_Lane hown hK hP 1 rfl rfl 0 (by decide) (hts _ wd_242) (fun _ h9 => h9) rfl d_Writer_beginPacket_71 ?_
  have hPc := hP.sub (ws' := [(tp, .inr (0, [.ref a, .int (nI (((T ++ [(71 : Int32) &&& 255]) ++ [((if bg = 0 then 64 else 0) ||| nI (pid / 256)) &&& 255])).length)])), (a, .inl (cB, 9400, .inl f2))]) [2, 3] rfl
  have hKc := hK.sub (tys' := [(cB, .byte)]) [0] rfl
  have hDc := hD.sub (ws' := [(tp, .inr (0, [.ref a, .int (nI (((T ++ [(71 : Int32) &&& 255]) ++ [((if bg = 0 then 64 else 0) ||| nI (pid / 256)) &&& 255])).length)])), (a, .inl (cB, 9400, .inl f2))]) [2, 3] (by decide) rfl
  have hFc := va_free (wc := [(tp, .inr (0, [.ref a, .int (nI (((T ++ [(71 : Int32) &&& 255]) ++ [((if bg = 0 then 64 else 0) ||| nI (pid / 256)) &&& 255])).length)])), (a, .inl (cB, 9400, .inl f2))]) hD hS hA [2, 3] rfl
  refine va_callv (va_runV (As := [.int (nI pid)]) (rest := []) ⟨hx, hb, hml, hown, hts⟩ (c_Row_addL l D H.size cB tp a 9400 ((T ++ [(71 : Int32) &&& 255]) ++ [((if bg = 0 then 64 else 0) ||| nI (pid / 256)) &&& 255]) f2 (nI pid) (by omega) (by omega) e60) (z_cV hN wd_538 wd_61 wd_994 hd_Row_add rfl rfl ⟨Nat.le_of_ble_eq_true rfl, Nat.le_of_ble_eq_true rfl⟩ wd_536 wd_537) (z_preVm (va_recv (ci := 0) (q0 := 2) hK hP rfl rfl) hPc hKc hN hDc) rfl rfl hl.1 rfl (lv_room (Nat.le_of_ble_eq_true rfl)) d_Writer_beginPacket_74 ⟨Nat.le_of_ble_eq_true rfl, Nat.le_of_ble_eq_true rfl⟩) hS (fun q _ h => hFc q h) hFc (fun f3 t H locs ht hvm e74 hB hz1 hk1 hS => ?_)
  obtain ⟨hP1, hK1, hD1⟩ := hB
  rw [ht] at hP1
  obtain ⟨hP, hD⟩ := va_join (wr := [(w, .inr (10, [.ref tp, .ref la, .int (nI lf), .int (nI nn), .int bg, .int ss])), (la, .inr (1, [.int (nI pid), va_rf nx, .int ct, .int tw, .long ck, .int (nI w0), va_rf se, va_rf pi]))]) (w1 := [(tp, .inr (0, [.ref a, .int (nI (((T ++ [(71 : Int32) &&& 255]) ++ [((if bg = 0 then 64 else 0) ||| nI (pid / 256)) &&& 255]) ++ [(nI pid) &&& 255]).length)])), (a, .inl (cB, 9400, .inl f3))]) hP hD [2, 3] [0, 1] rfl rfl (by decide) (by decide) hk1 hFc hP1 hD1
  clear hk1 hP1 hD1 hFc hPc hDc hz1
  have hP : va_P D classes [(w, .inr (10, [.ref tp, .ref la, .int (nI lf), .int (nI nn), .int bg, .int ss])), (la, .inr (1, [.int (nI pid), va_rf nx, .int ct, .int tw, .long ck, .int (nI w0), va_rf se, va_rf pi])), (tp, .inr (0, [.ref a, .int (nI (((T ++ [(71 : Int32) &&& 255]) ++ [((if bg = 0 then 64 else 0) ||| nI (pid / 256)) &&& 255]) ++ [(nI pid) &&& 255]).length)])), (a, .inl (cB, 9400, .inl f3))] H := hP
  have hD : va_D A [(w, .inr (10, [.ref tp, .ref la, .int (nI lf), .int (nI nn), .int bg, .int ss])), (la, .inr (1, [.int (nI pid), va_rf nx, .int ct, .int tw, .long ck, .int (nI w0), va_rf se, va_rf pi])), (tp, .inr (0, [.ref a, .int (nI (((T ++ [(71 : Int32) &&& 255]) ++ [((if bg = 0 then 64 else 0) ||| nI (pid / 256)) &&& 255]) ++ [(nI pid) &&& 255]).length)])), (a, .inl (cB, 9400, .inl f3))] := hD
  have hl3 : (((T ++ [(71 : Int32) &&& 255]) ++ [((if bg = 0 then 64 else 0) ||| nI (pid / 256)) &&& 255]) ++ [nI pid &&& 255]).length = T.length + 3 := by simp
  refine lv_aload_n hx hb d_Writer_beginPacket_77 rfl (lv_at hl 1 rfl) ?_
  refine va_get (D := D) (ci := 10) (v := .ref tp) (C := R_Writer) (T := F_Writer) (N := 6) hx hb hts i_Writer hown hK hP 0 rfl rfl 0 (by decide) (hts _ wd_952) (fun _ h9 => h9) rfl d_Writer_beginPacket_78 ?_
  refine lv_iload_n hx hb d_Writer_beginPacket_81 rfl (lv_at hl 0 rfl) ?_
  suffices key82 : W p l e ({ frames := 1, cells := 0, slots := 0, locals := 21 }) s m ([.ref w]).toArray below meth cd H locs 0 0 (MQ below (va_Qv (fun (u : Nat → Int32) => rc u (T ++ hdL pid (decide (bg = 0)) w0 nn)) (fun (u : Nat → Int32) t => zW D (A) [(w, .inr (10, [.ref tp, .ref la, .int (nI lf), .int (nI nn), .int 1, .int ss])), (la, .inr (1, [.int (nI pid), va_rf nx, .int ct, .int tw, .long ck, .int (nI (w0 + 1)), va_rf se, va_rf pi])), (tp, .inr (0, [.ref a, .int (nI (T ++ hdL pid (decide (bg = 0)) w0 nn).length)])), (a, .inl (cB, 9400, .inl u))] [(cB, .byte)] t) (A)) ([.ref w]).toArray s 0 0 (A)) (F0 m 92 ls [.int (if nn < 184 then 48 else 16), .ref tp]) by
    refine lv_if_le (tgt := 90) hx hb d_Writer_beginPacket_82 rfl (fun h82 => ?_) (fun h82 => ?_)
    · refine lv_bipush (v := 16) hx hb d_Writer_beginPacket_90 (by decide) ?_
      refine z_topi (w := (if nn < 184 then 48 else 16)) ((if_neg (wp_le h82 (by omega))).symm) ?_
      exact key82
    · refine lv_bipush (v := 48) hx hb d_Writer_beginPacket_85 (by decide) ?_
      refine lv_goto (tgt := 92) hx hb d_Writer_beginPacket_87 rfl ?_
      refine z_topi (w := (if nn < 184 then 48 else 16)) ((if_pos (wp_gt h82 (by omega))).symm) ?_
      exact key82
  refine lv_aload_n hx hb d_Writer_beginPacket_92 rfl (lv_at hl 1 rfl) ?_
  refine va_get (D := D) (ci := 10) (v := .ref la) (C := R_Writer) (T := F_Writer) (N := 6) hx hb hts i_Writer hown hK hP 0 rfl rfl 1 (by decide) (hts _ wd_953) (fun _ h9 => h9) rfl d_Writer_beginPacket_93 ?_
  refine va_getN (D := D) (ci := 1) (v := .int (nI w0)) (C := R_Lane) (T := F_Lane) (N := 8) hx hb hts i_Lane hown hK hP 1 rfl rfl 5 (by decide) (hts _ wd_254) (fun _ h9 => h9) rfl d_Writer_beginPacket_96 ?_
  refine lv_bipush (v := 15) hx hb d_Writer_beginPacket_99 (by decide) ?_
  refine lv_iand hx hb d_Writer_beginPacket_101 ?_
  refine z_topi (w := nI (w0 % 16)) (wr_15 (by omega)) ?_
  refine lv_ior hx hb d_Writer_beginPacket_102 ?_
  refine z_topi (w := (if nn < 184 then 48 else 16) ||| nI (w0 % 16)) rfl ?_
  have hPc := hP.sub (ws' := [(tp, .inr (0, [.ref a, .int (nI ((((T ++ [(71 : Int32) &&& 255]) ++ [((if bg = 0 then 64 else 0) ||| nI (pid / 256)) &&& 255]) ++ [nI pid &&& 255])).length)])), (a, .inl (cB, 9400, .inl f3))]) [2, 3] rfl
  have hKc := hK.sub (tys' := [(cB, .byte)]) [0] rfl
  have hDc := hD.sub (ws' := [(tp, .inr (0, [.ref a, .int (nI ((((T ++ [(71 : Int32) &&& 255]) ++ [((if bg = 0 then 64 else 0) ||| nI (pid / 256)) &&& 255]) ++ [nI pid &&& 255])).length)])), (a, .inl (cB, 9400, .inl f3))]) [2, 3] (by decide) rfl
  have hFc := va_free (wc := [(tp, .inr (0, [.ref a, .int (nI ((((T ++ [(71 : Int32) &&& 255]) ++ [((if bg = 0 then 64 else 0) ||| nI (pid / 256)) &&& 255]) ++ [nI pid &&& 255])).length)])), (a, .inl (cB, 9400, .inl f3))]) hD hS hA [2, 3] rfl
  refine va_callv (va_runV (As := [.int ((if nn < 184 then 48 else 16) ||| nI (w0 % 16))]) (rest := []) ⟨hx, hb, hml, hown, hts⟩ (c_Row_addL l D H.size cB tp a 9400 (((T ++ [(71 : Int32) &&& 255]) ++ [((if bg = 0 then 64 else 0) ||| nI (pid / 256)) &&& 255]) ++ [nI pid &&& 255]) f3 ((if nn < 184 then 48 else 16) ||| nI (w0 % 16)) (by omega) (by omega) e74) (z_cV hN wd_538 wd_61 wd_994 hd_Row_add rfl rfl ⟨Nat.le_of_ble_eq_true rfl, Nat.le_of_ble_eq_true rfl⟩ wd_536 wd_537) (z_preVm (va_recv (ci := 0) (q0 := 2) hK hP rfl rfl) hPc hKc hN hDc) rfl rfl hl.1 rfl (lv_room (Nat.le_of_ble_eq_true rfl)) d_Writer_beginPacket_103 ⟨Nat.le_of_ble_eq_true rfl, Nat.le_of_ble_eq_true rfl⟩) hS (fun q _ h => hFc q h) hFc (fun f4 t H locs ht hvm e103 hB hz1 hk1 hS => ?_)
  obtain ⟨hP1, hK1, hD1⟩ := hB
  rw [ht] at hP1
  obtain ⟨hP, hD⟩ := va_join (wr := [(w, .inr (10, [.ref tp, .ref la, .int (nI lf), .int (nI nn), .int bg, .int ss])), (la, .inr (1, [.int (nI pid), va_rf nx, .int ct, .int tw, .long ck, .int (nI w0), va_rf se, va_rf pi]))]) (w1 := [(tp, .inr (0, [.ref a, .int (nI ((((T ++ [(71 : Int32) &&& 255]) ++ [((if bg = 0 then 64 else 0) ||| nI (pid / 256)) &&& 255]) ++ [nI pid &&& 255]) ++ [((if nn < 184 then 48 else 16) ||| nI (w0 % 16)) &&& 255]).length)])), (a, .inl (cB, 9400, .inl f4))]) hP hD [2, 3] [0, 1] rfl rfl (by decide) (by decide) hk1 hFc hP1 hD1
  clear hk1 hP1 hD1 hFc hPc hDc hz1
  have hP : va_P D classes [(w, .inr (10, [.ref tp, .ref la, .int (nI lf), .int (nI nn), .int bg, .int ss])), (la, .inr (1, [.int (nI pid), va_rf nx, .int ct, .int tw, .long ck, .int (nI w0), va_rf se, va_rf pi])), (tp, .inr (0, [.ref a, .int (nI ((((T ++ [(71 : Int32) &&& 255]) ++ [((if bg = 0 then 64 else 0) ||| nI (pid / 256)) &&& 255]) ++ [nI pid &&& 255]) ++ [((if nn < 184 then 48 else 16) ||| nI (w0 % 16)) &&& 255]).length)])), (a, .inl (cB, 9400, .inl f4))] H := hP
  have hD : va_D A [(w, .inr (10, [.ref tp, .ref la, .int (nI lf), .int (nI nn), .int bg, .int ss])), (la, .inr (1, [.int (nI pid), va_rf nx, .int ct, .int tw, .long ck, .int (nI w0), va_rf se, va_rf pi])), (tp, .inr (0, [.ref a, .int (nI ((((T ++ [(71 : Int32) &&& 255]) ++ [((if bg = 0 then 64 else 0) ||| nI (pid / 256)) &&& 255]) ++ [nI pid &&& 255]) ++ [((if nn < 184 then 48 else 16) ||| nI (w0 % 16)) &&& 255]).length)])), (a, .inl (cB, 9400, .inl f4))] := hD
  have eT4 : ((((T ++ [(71 : Int32) &&& 255]) ++ [((if bg = 0 then 64 else 0) ||| nI (pid / 256)) &&& 255]) ++ [nI pid &&& 255]) ++ [((if nn < 184 then 48 else 16) ||| nI (w0 % 16)) &&& 255]) = (T ++ hd4 pid (decide (bg = 0)) w0 nn) := wp_hd4 hpid
  rw [eT4] at hP hD e103
  have hl4 : (T ++ hd4 pid (decide (bg = 0)) w0 nn).length = T.length + 4 := by simp [hd4]
  refine lv_aload_n hx hb d_Writer_beginPacket_106 rfl (lv_at hl 1 rfl) ?_
  refine va_get (D := D) (ci := 10) (v := .ref la) (C := R_Writer) (T := F_Writer) (N := 6) hx hb hts i_Writer hown hK hP 0 rfl rfl 1 (by decide) (hts _ wd_953) (fun _ h9 => h9) rfl d_Writer_beginPacket_107 ?_
  refine lv_dup hx hb d_Writer_beginPacket_110 rfl ?_
  refine va_getN (D := D) (ci := 1) (v := .int (nI w0)) (C := R_Lane) (T := F_Lane) (N := 8) hx hb hts i_Lane hown hK hP 1 rfl rfl 5 (by decide) (hts _ wd_254) (fun _ h9 => h9) rfl d_Writer_beginPacket_111 ?_
  refine lv_iconst (v := 1) hx hb d_Writer_beginPacket_114 (by decide) ?_
  refine lv_iadd hx hb d_Writer_beginPacket_115 ?_
  refine z_topi (w := nI (w0 + 1)) (nI_1 w0) ?_
  refine va_putN (D := D) (ci := 1) (v := .int (nI (w0 + 1))) (ty := .int) (C := R_Lane) (T := F_Lane) (N := 8) hx hb hts i_Lane t_Lane t_Lane_ok n_Lane hown hK hP hD hS 1 rfl rfl 5 (by decide) (hts _ wd_254) (fun _ h9 => h9) rfl (by decide +kernel) rfl rfl (Nat.le_of_ble_eq_true rfl) d_Writer_beginPacket_116 (fun H locs hP hD hS => ?_)
  have hP : va_P D classes [(w, .inr (10, [.ref tp, .ref la, .int (nI lf), .int (nI nn), .int bg, .int ss])), (la, .inr (1, [.int (nI pid), va_rf nx, .int ct, .int tw, .long ck, .int (nI (w0 + 1)), va_rf se, va_rf pi])), (tp, .inr (0, [.ref a, .int (nI ((T ++ hd4 pid (decide (bg = 0)) w0 nn)).length)])), (a, .inl (cB, 9400, .inl f4))] H := hP
  have hD : va_D A [(w, .inr (10, [.ref tp, .ref la, .int (nI lf), .int (nI nn), .int bg, .int ss])), (la, .inr (1, [.int (nI pid), va_rf nx, .int ct, .int tw, .long ck, .int (nI (w0 + 1)), va_rf se, va_rf pi])), (tp, .inr (0, [.ref a, .int (nI ((T ++ hd4 pid (decide (bg = 0)) w0 nn)).length)])), (a, .inl (cB, 9400, .inl f4))] := hD
  refine lv_aload_n hx hb d_Writer_beginPacket_119 rfl (lv_at hl 1 rfl) ?_
  refine lv_iconst (v := 1) hx hb d_Writer_beginPacket_120 (by decide) ?_
  refine va_put (D := D) (ci := 10) (v := .int 1) (ty := .boolean) (C := R_Writer) (T := F_Writer) (N := 6) hx hb hts i_Writer t_Writer t_Writer_ok n_Writer hown hK hP hD hS 0 rfl rfl 4 (by decide) (hts _ wd_956) (fun _ h9 => h9) rfl (by decide +kernel) rfl rfl (Nat.le_of_ble_eq_true rfl) d_Writer_beginPacket_121 (fun H locs hP hD hS => ?_)
  have hP : va_P D classes [(w, .inr (10, [.ref tp, .ref la, .int (nI lf), .int (nI nn), .int 1, .int ss])), (la, .inr (1, [.int (nI pid), va_rf nx, .int ct, .int tw, .long ck, .int (nI (w0 + 1)), va_rf se, va_rf pi])), (tp, .inr (0, [.ref a, .int (nI ((T ++ hd4 pid (decide (bg = 0)) w0 nn)).length)])), (a, .inl (cB, 9400, .inl f4))] H := hP
  have hD : va_D A [(w, .inr (10, [.ref tp, .ref la, .int (nI lf), .int (nI nn), .int 1, .int ss])), (la, .inr (1, [.int (nI pid), va_rf nx, .int ct, .int tw, .long ck, .int (nI (w0 + 1)), va_rf se, va_rf pi])), (tp, .inr (0, [.ref a, .int (nI ((T ++ hd4 pid (decide (bg = 0)) w0 nn)).length)])), (a, .inl (cB, 9400, .inl f4))] := hD
  refine lv_iload_n hx hb d_Writer_beginPacket_124 rfl (lv_at hl 0 rfl) ?_
  refine lv_if_le (tgt := 138) hx hb d_Writer_beginPacket_125 rfl (fun h125 => ?_) (fun h125 => ?_)
  · have h125 : ¬ nn < 184 := wp_le h125 (by omega)
    refine lv_iconst (v := 1) hx hb d_Writer_beginPacket_138 (by decide) ?_
    refine lv_istore_n (lv' := [(2, .int 1), (1, .int (nI (184 - nn))), (0, .ref w)]) hx hb d_Writer_beginPacket_139 rfl hl (by decide) rfl (fun ls hl => ?_)
    have loop140 : ∀ (N : Nat) (k : Nat) (X : List Int32) (g : Nat → Int32) (H : Heap) (locs : List Loc) (ls : Array Slot) (hm : 185 - k < N) (hk1 : 1 ≤ k) (hk2 : k ≤ 185) (hX : X = (T ++ hd4 pid (decide (bg = 0)) w0 nn) ++ (stL (184 - nn)).take k) (hg : rc g X) (hl : lv_has ls 3 [(0, .ref w), (1, .int (nI (184 - nn))), (2, .int (nI k))]) (hP : va_P D classes [(w, .inr (10, [.ref tp, .ref la, .int (nI lf), .int (nI nn), .int 1, .int ss])), (la, .inr (1, [.int (nI pid), va_rf nx, .int ct, .int tw, .long ck, .int (nI (w0 + 1)), va_rf se, va_rf pi])), (tp, .inr (0, [.ref a, .int (nI (X).length)])), (a, .inl (cB, 9400, .inl g))] H) (hD : va_D A [(w, .inr (10, [.ref tp, .ref la, .int (nI lf), .int (nI nn), .int 1, .int ss])), (la, .inr (1, [.int (nI pid), va_rf nx, .int ct, .int tw, .long ck, .int (nI (w0 + 1)), va_rf se, va_rf pi])), (tp, .inr (0, [.ref a, .int (nI (X).length)])), (a, .inl (cB, 9400, .inl g))]) (hS : va_S A s.heap H locs), W p l e ({ frames := 1, cells := 0, slots := 0, locals := 21 }) s m ([.ref w]).toArray below meth cd H locs 0 0 (MQ below (va_Qv (fun (u : Nat → Int32) => rc u (T ++ hdL pid (decide (bg = 0)) w0 nn)) (fun (u : Nat → Int32) t => zW D (A) [(w, .inr (10, [.ref tp, .ref la, .int (nI lf), .int (nI nn), .int 1, .int ss])), (la, .inr (1, [.int (nI pid), va_rf nx, .int ct, .int tw, .long ck, .int (nI (w0 + 1)), va_rf se, va_rf pi])), (tp, .inr (0, [.ref a, .int (nI (T ++ hdL pid (decide (bg = 0)) w0 nn).length)])), (a, .inl (cB, 9400, .inl u))] [(cB, .byte)] t) (A)) ([.ref w]).toArray s 0 0 (A)) (F0 m 140 ls []) := by
      intro N140
      induction N140 with
      | zero => intro k X g H locs ls hm hk1 hk2 hX hg hl hP hD hS; exact absurd hm (Nat.not_lt_zero _)
      | succ N140 ih140 =>
        intro k X g H locs ls hm hk1 hk2 hX hg hl hP hD hS
        refine lv_iload_n hx hb d_Writer_beginPacket_140 rfl (lv_at hl 2 rfl) ?_
        refine lv_iload_n hx hb d_Writer_beginPacket_141 rfl (lv_at hl 1 rfl) ?_
        refine lv_icmp_ge (tgt := 170) hx hb d_Writer_beginPacket_142 rfl (fun h142 => ?_) (fun h142 => ?_)
        · have h142 := (nI_leI (by omega) (by omega)).mp h142
          have eX : X = T ++ hdL pid (decide (bg = 0)) w0 nn := wp_end hX h142
          rw [eX] at hP hD hg
          have hP9 := hP.sub (ws' := [(w, .inr (10, [.ref tp, .ref la, .int (nI lf), .int (nI nn), .int 1, .int ss])), (la, .inr (1, [.int (nI pid), va_rf nx, .int ct, .int tw, .long ck, .int (nI (w0 + 1)), va_rf se, va_rf pi])), (tp, .inr (0, [.ref a, .int (nI (T ++ hdL pid (decide (bg = 0)) w0 nn).length)])), (a, .inl (cB, 9400, .inl g))]) [0, 1, 2, 3] rfl
          have hD9 := hD.sub (ws' := [(w, .inr (10, [.ref tp, .ref la, .int (nI lf), .int (nI nn), .int 1, .int ss])), (la, .inr (1, [.int (nI pid), va_rf nx, .int ct, .int tw, .long ck, .int (nI (w0 + 1)), va_rf se, va_rf pi])), (tp, .inr (0, [.ref a, .int (nI (T ++ hdL pid (decide (bg = 0)) w0 nn).length)])), (a, .inl (cB, 9400, .inl g))]) [0, 1, 2, 3] (by decide) rfl
          have hK9 := hK.sub (tys' := [(cB, .byte)]) [0] rfl
          exact W.vret hx hb hr (fun t ht hW => ⟨⟨g, rfl, hg, ⟨by rw [ht]; exact hP9, va_K.moved hW.alike hK9, hD9⟩⟩, hS.F ht⟩) hS.2.2 d_Writer_beginPacket_170
        · have h142 := mt (nI_leI (by omega) (by omega)).mpr h142
          refine lv_aload_n hx hb d_Writer_beginPacket_145 rfl (lv_at hl 0 rfl) ?_
          refine va_get (D := D) (ci := 10) (v := .ref tp) (C := R_Writer) (T := F_Writer) (N := 6) hx hb hts i_Writer hown hK hP 0 rfl rfl 0 (by decide) (hts _ wd_952) (fun _ h9 => h9) rfl d_Writer_beginPacket_146 ?_
          refine lv_iload_n hx hb d_Writer_beginPacket_149 rfl (lv_at hl 2 rfl) ?_
          refine lv_iconst (v := 1) hx hb d_Writer_beginPacket_150 (by decide) ?_
          suffices key151 : W p l e ({ frames := 1, cells := 0, slots := 0, locals := 21 }) s m ([.ref w]).toArray below meth cd H locs 0 0 (MQ below (va_Qv (fun (u : Nat → Int32) => rc u (T ++ hdL pid (decide (bg = 0)) w0 nn)) (fun (u : Nat → Int32) t => zW D (A) [(w, .inr (10, [.ref tp, .ref la, .int (nI lf), .int (nI nn), .int 1, .int ss])), (la, .inr (1, [.int (nI pid), va_rf nx, .int ct, .int tw, .long ck, .int (nI (w0 + 1)), va_rf se, va_rf pi])), (tp, .inr (0, [.ref a, .int (nI (T ++ hdL pid (decide (bg = 0)) w0 nn).length)])), (a, .inl (cB, 9400, .inl u))] [(cB, .byte)] t) (A)) ([.ref w]).toArray s 0 0 (A)) (F0 m 161 ls [.int (if k = 1 then 0 else 255), .ref tp]) by
            refine lv_icmp_ne (tgt := 158) hx hb d_Writer_beginPacket_151 rfl (fun h151 => ?_) (fun h151 => ?_)
            · refine lv_sipush (v := 255) hx hb d_Writer_beginPacket_158 (by decide) ?_
              refine z_topi (w := (if k = 1 then 0 else 255)) ((if_neg (mt (fun z => by rw [z]; rfl) h151)).symm) ?_
              exact key151
            · refine lv_iconst (v := 0) hx hb d_Writer_beginPacket_154 (by decide) ?_
              refine lv_goto (tgt := 161) hx hb d_Writer_beginPacket_155 rfl ?_
              refine z_topi (w := (if k = 1 then 0 else 255)) ((if_pos ((nI_eq (b := 1) (by omega) (by omega)).mp h151)).symm) ?_
              exact key151
          have hPc := hP.sub (ws' := [(tp, .inr (0, [.ref a, .int (nI (X).length)])), (a, .inl (cB, 9400, .inl g))]) [2, 3] rfl
          have hKc := hK.sub (tys' := [(cB, .byte)]) [0] rfl
          have hDc := hD.sub (ws' := [(tp, .inr (0, [.ref a, .int (nI (X).length)])), (a, .inl (cB, 9400, .inl g))]) [2, 3] (by decide) rfl
          have hFc := va_free (wc := [(tp, .inr (0, [.ref a, .int (nI (X).length)])), (a, .inl (cB, 9400, .inl g))]) hD hS hA [2, 3] rfl
          refine va_callv (va_runV (As := [.int (if k = 1 then 0 else 255)]) (rest := []) ⟨hx, hb, hml, hown, hts⟩ (c_Row_addL l D H.size cB tp a 9400 X g (if k = 1 then 0 else 255) (by omega) (by rw [hX, List.length_append, List.length_take, st_len, hl4]; omega) hg) (z_cV hN wd_538 wd_61 wd_994 hd_Row_add rfl rfl ⟨Nat.le_of_ble_eq_true rfl, Nat.le_of_ble_eq_true rfl⟩ wd_536 wd_537) (z_preVm (va_recv (ci := 0) (q0 := 2) hK hP rfl rfl) hPc hKc hN hDc) rfl rfl hl.1 rfl (lv_room (Nat.le_of_ble_eq_true rfl)) d_Writer_beginPacket_161 ⟨Nat.le_of_ble_eq_true rfl, Nat.le_of_ble_eq_true rfl⟩) hS (fun q _ h => hFc q h) hFc (fun g2 t H locs ht hvm e161 hB hz1 hk1 hS => ?_)
          obtain ⟨hP1, hK1, hD1⟩ := hB
          rw [ht] at hP1
          obtain ⟨hP, hD⟩ := va_join (wr := [(w, .inr (10, [.ref tp, .ref la, .int (nI lf), .int (nI nn), .int 1, .int ss])), (la, .inr (1, [.int (nI pid), va_rf nx, .int ct, .int tw, .long ck, .int (nI (w0 + 1)), va_rf se, va_rf pi]))]) (w1 := [(tp, .inr (0, [.ref a, .int (nI (X ++ [(if k = 1 then 0 else 255) &&& 255]).length)])), (a, .inl (cB, 9400, .inl g2))]) hP hD [2, 3] [0, 1] rfl rfl (by decide) (by decide) hk1 hFc hP1 hD1
          clear hk1 hP1 hD1 hFc hPc hDc hz1
          have hP : va_P D classes [(w, .inr (10, [.ref tp, .ref la, .int (nI lf), .int (nI nn), .int 1, .int ss])), (la, .inr (1, [.int (nI pid), va_rf nx, .int ct, .int tw, .long ck, .int (nI (w0 + 1)), va_rf se, va_rf pi])), (tp, .inr (0, [.ref a, .int (nI (X ++ [(if k = 1 then 0 else 255) &&& 255]).length)])), (a, .inl (cB, 9400, .inl g2))] H := hP
          have hD : va_D A [(w, .inr (10, [.ref tp, .ref la, .int (nI lf), .int (nI nn), .int 1, .int ss])), (la, .inr (1, [.int (nI pid), va_rf nx, .int ct, .int tw, .long ck, .int (nI (w0 + 1)), va_rf se, va_rf pi])), (tp, .inr (0, [.ref a, .int (nI (X ++ [(if k = 1 then 0 else 255) &&& 255]).length)])), (a, .inl (cB, 9400, .inl g2))] := hD
          refine lv_iinc (k := 2) (v := nI (k + 1)) (lv' := [(2, .int (nI (k + 1))), (0, .ref w), (1, .int (nI (184 - nn)))]) hx hb d_Writer_beginPacket_164 hl rfl (nI_1 k) (by decide) rfl (fun ls hl => ?_)
          refine lv_goto (tgt := 140) hx hb d_Writer_beginPacket_167 rfl ?_
          exact ih140 (k + 1) (X ++ [(if k = 1 then 0 else 255) &&& 255]) g2 H locs ls (by omega) (by omega) (by omega) (wp_step hX (by omega) (by omega)) e161 (lv_sub hl [1, 2, 0] rfl) hP hD hS
    exact loop140 _ 1 (T ++ hd4 pid (decide (bg = 0)) w0 nn) f4 H locs ls (Nat.lt_succ_self _) (Nat.le_refl _) (by omega) (wp_i0 (by omega)) e103 (lv_sub hl [2, 1, 0] rfl) hP hD hS
  · have h125 : nn < 184 := wp_gt h125 (by omega)
    refine lv_aload_n hx hb d_Writer_beginPacket_128 rfl (lv_at hl 1 rfl) ?_
    refine va_get (D := D) (ci := 10) (v := .ref tp) (C := R_Writer) (T := F_Writer) (N := 6) hx hb hts i_Writer hown hK hP 0 rfl rfl 0 (by decide) (hts _ wd_952) (fun _ h9 => h9) rfl d_Writer_beginPacket_129 ?_
    refine lv_iload_n hx hb d_Writer_beginPacket_132 rfl (lv_at hl 0 rfl) ?_
    refine lv_iconst (v := 1) hx hb d_Writer_beginPacket_133 (by decide) ?_
    refine lv_isub hx hb d_Writer_beginPacket_134 ?_
    refine z_topi (w := nI ((184 - nn) - 1)) (pk_sub (b := 1) (by omega)) ?_
    have hPc := hP.sub (ws' := [(tp, .inr (0, [.ref a, .int (nI ((T ++ hd4 pid (decide (bg = 0)) w0 nn)).length)])), (a, .inl (cB, 9400, .inl f4))]) [2, 3] rfl
    have hKc := hK.sub (tys' := [(cB, .byte)]) [0] rfl
    have hDc := hD.sub (ws' := [(tp, .inr (0, [.ref a, .int (nI ((T ++ hd4 pid (decide (bg = 0)) w0 nn)).length)])), (a, .inl (cB, 9400, .inl f4))]) [2, 3] (by decide) rfl
    have hFc := va_free (wc := [(tp, .inr (0, [.ref a, .int (nI ((T ++ hd4 pid (decide (bg = 0)) w0 nn)).length)])), (a, .inl (cB, 9400, .inl f4))]) hD hS hA [2, 3] rfl
    refine va_callv (va_runV (As := [.int (nI ((184 - nn) - 1))]) (rest := []) ⟨hx, hb, hml, hown, hts⟩ (c_Row_addL l D H.size cB tp a 9400 (T ++ hd4 pid (decide (bg = 0)) w0 nn) f4 (nI ((184 - nn) - 1)) (by omega) (by omega) e103) (z_cV hN wd_538 wd_61 wd_994 hd_Row_add rfl rfl ⟨Nat.le_of_ble_eq_true rfl, Nat.le_of_ble_eq_true rfl⟩ wd_536 wd_537) (z_preVm (va_recv (ci := 0) (q0 := 2) hK hP rfl rfl) hPc hKc hN hDc) rfl rfl hl.1 rfl (lv_room (Nat.le_of_ble_eq_true rfl)) d_Writer_beginPacket_135 ⟨Nat.le_of_ble_eq_true rfl, Nat.le_of_ble_eq_true rfl⟩) hS (fun q _ h => hFc q h) hFc (fun f5 t H locs ht hvm e135 hB hz1 hk1 hS => ?_)
    obtain ⟨hP1, hK1, hD1⟩ := hB
    rw [ht] at hP1
    obtain ⟨hP, hD⟩ := va_join (wr := [(w, .inr (10, [.ref tp, .ref la, .int (nI lf), .int (nI nn), .int 1, .int ss])), (la, .inr (1, [.int (nI pid), va_rf nx, .int ct, .int tw, .long ck, .int (nI (w0 + 1)), va_rf se, va_rf pi]))]) (w1 := [(tp, .inr (0, [.ref a, .int (nI ((T ++ hd4 pid (decide (bg = 0)) w0 nn) ++ [(nI ((184 - nn) - 1)) &&& 255]).length)])), (a, .inl (cB, 9400, .inl f5))]) hP hD [2, 3] [0, 1] rfl rfl (by decide) (by decide) hk1 hFc hP1 hD1
    clear hk1 hP1 hD1 hFc hPc hDc hz1
    have hP : va_P D classes [(w, .inr (10, [.ref tp, .ref la, .int (nI lf), .int (nI nn), .int 1, .int ss])), (la, .inr (1, [.int (nI pid), va_rf nx, .int ct, .int tw, .long ck, .int (nI (w0 + 1)), va_rf se, va_rf pi])), (tp, .inr (0, [.ref a, .int (nI ((T ++ hd4 pid (decide (bg = 0)) w0 nn) ++ [(nI ((184 - nn) - 1)) &&& 255]).length)])), (a, .inl (cB, 9400, .inl f5))] H := hP
    have hD : va_D A [(w, .inr (10, [.ref tp, .ref la, .int (nI lf), .int (nI nn), .int 1, .int ss])), (la, .inr (1, [.int (nI pid), va_rf nx, .int ct, .int tw, .long ck, .int (nI (w0 + 1)), va_rf se, va_rf pi])), (tp, .inr (0, [.ref a, .int (nI ((T ++ hd4 pid (decide (bg = 0)) w0 nn) ++ [(nI ((184 - nn) - 1)) &&& 255]).length)])), (a, .inl (cB, 9400, .inl f5))] := hD
    refine lv_iconst (v := 1) hx hb d_Writer_beginPacket_138 (by decide) ?_
    refine lv_istore_n (lv' := [(2, .int 1), (1, .int (nI (184 - nn))), (0, .ref w)]) hx hb d_Writer_beginPacket_139 rfl hl (by decide) rfl (fun ls hl => ?_)
    have loop140 : ∀ (N : Nat) (k : Nat) (X : List Int32) (g : Nat → Int32) (H : Heap) (locs : List Loc) (ls : Array Slot) (hm : 185 - k < N) (hk1 : 1 ≤ k) (hk2 : k ≤ 185) (hX : X = (T ++ hd4 pid (decide (bg = 0)) w0 nn) ++ (stL (184 - nn)).take k) (hg : rc g X) (hl : lv_has ls 3 [(0, .ref w), (1, .int (nI (184 - nn))), (2, .int (nI k))]) (hP : va_P D classes [(w, .inr (10, [.ref tp, .ref la, .int (nI lf), .int (nI nn), .int 1, .int ss])), (la, .inr (1, [.int (nI pid), va_rf nx, .int ct, .int tw, .long ck, .int (nI (w0 + 1)), va_rf se, va_rf pi])), (tp, .inr (0, [.ref a, .int (nI (X).length)])), (a, .inl (cB, 9400, .inl g))] H) (hD : va_D A [(w, .inr (10, [.ref tp, .ref la, .int (nI lf), .int (nI nn), .int 1, .int ss])), (la, .inr (1, [.int (nI pid), va_rf nx, .int ct, .int tw, .long ck, .int (nI (w0 + 1)), va_rf se, va_rf pi])), (tp, .inr (0, [.ref a, .int (nI (X).length)])), (a, .inl (cB, 9400, .inl g))]) (hS : va_S A s.heap H locs), W p l e ({ frames := 1, cells := 0, slots := 0, locals := 21 }) s m ([.ref w]).toArray below meth cd H locs 0 0 (MQ below (va_Qv (fun (u : Nat → Int32) => rc u (T ++ hdL pid (decide (bg = 0)) w0 nn)) (fun (u : Nat → Int32) t => zW D (A) [(w, .inr (10, [.ref tp, .ref la, .int (nI lf), .int (nI nn), .int 1, .int ss])), (la, .inr (1, [.int (nI pid), va_rf nx, .int ct, .int tw, .long ck, .int (nI (w0 + 1)), va_rf se, va_rf pi])), (tp, .inr (0, [.ref a, .int (nI (T ++ hdL pid (decide (bg = 0)) w0 nn).length)])), (a, .inl (cB, 9400, .inl u))] [(cB, .byte)] t) (A)) ([.ref w]).toArray s 0 0 (A)) (F0 m 140 ls []) := by
      intro N140
      induction N140 with
      | zero => intro k X g H locs ls hm hk1 hk2 hX hg hl hP hD hS; exact absurd hm (Nat.not_lt_zero _)
      | succ N140 ih140 =>
        intro k X g H locs ls hm hk1 hk2 hX hg hl hP hD hS
        refine lv_iload_n hx hb d_Writer_beginPacket_140 rfl (lv_at hl 2 rfl) ?_
        refine lv_iload_n hx hb d_Writer_beginPacket_141 rfl (lv_at hl 1 rfl) ?_
        refine lv_icmp_ge (tgt := 170) hx hb d_Writer_beginPacket_142 rfl (fun h142 => ?_) (fun h142 => ?_)
        · have h142 := (nI_leI (by omega) (by omega)).mp h142
          have eX : X = T ++ hdL pid (decide (bg = 0)) w0 nn := wp_end hX h142
          rw [eX] at hP hD hg
          have hP9 := hP.sub (ws' := [(w, .inr (10, [.ref tp, .ref la, .int (nI lf), .int (nI nn), .int 1, .int ss])), (la, .inr (1, [.int (nI pid), va_rf nx, .int ct, .int tw, .long ck, .int (nI (w0 + 1)), va_rf se, va_rf pi])), (tp, .inr (0, [.ref a, .int (nI (T ++ hdL pid (decide (bg = 0)) w0 nn).length)])), (a, .inl (cB, 9400, .inl g))]) [0, 1, 2, 3] rfl
          have hD9 := hD.sub (ws' := [(w, .inr (10, [.ref tp, .ref la, .int (nI lf), .int (nI nn), .int 1, .int ss])), (la, .inr (1, [.int (nI pid), va_rf nx, .int ct, .int tw, .long ck, .int (nI (w0 + 1)), va_rf se, va_rf pi])), (tp, .inr (0, [.ref a, .int (nI (T ++ hdL pid (decide (bg = 0)) w0 nn).length)])), (a, .inl (cB, 9400, .inl g))]) [0, 1, 2, 3] (by decide) rfl
          have hK9 := hK.sub (tys' := [(cB, .byte)]) [0] rfl
          exact W.vret hx hb hr (fun t ht hW => ⟨⟨g, rfl, hg, ⟨by rw [ht]; exact hP9, va_K.moved hW.alike hK9, hD9⟩⟩, hS.F ht⟩) hS.2.2 d_Writer_beginPacket_170
        · have h142 := mt (nI_leI (by omega) (by omega)).mpr h142
          refine lv_aload_n hx hb d_Writer_beginPacket_145 rfl (lv_at hl 0 rfl) ?_
          refine va_get (D := D) (ci := 10) (v := .ref tp) (C := R_Writer) (T := F_Writer) (N := 6) hx hb hts i_Writer hown hK hP 0 rfl rfl 0 (by decide) (hts _ wd_952) (fun _ h9 => h9) rfl d_Writer_beginPacket_146 ?_
          refine lv_iload_n hx hb d_Writer_beginPacket_149 rfl (lv_at hl 2 rfl) ?_
          refine lv_iconst (v := 1) hx hb d_Writer_beginPacket_150 (by decide) ?_
          suffices key151 : W p l e ({ frames := 1, cells := 0, slots := 0, locals := 21 }) s m ([.ref w]).toArray below meth cd H locs 0 0 (MQ below (va_Qv (fun (u : Nat → Int32) => rc u (T ++ hdL pid (decide (bg = 0)) w0 nn)) (fun (u : Nat → Int32) t => zW D (A) [(w, .inr (10, [.ref tp, .ref la, .int (nI lf), .int (nI nn), .int 1, .int ss])), (la, .inr (1, [.int (nI pid), va_rf nx, .int ct, .int tw, .long ck, .int (nI (w0 + 1)), va_rf se, va_rf pi])), (tp, .inr (0, [.ref a, .int (nI (T ++ hdL pid (decide (bg = 0)) w0 nn).length)])), (a, .inl (cB, 9400, .inl u))] [(cB, .byte)] t) (A)) ([.ref w]).toArray s 0 0 (A)) (F0 m 161 ls [.int (if k = 1 then 0 else 255), .ref tp]) by
            refine lv_icmp_ne (tgt := 158) hx hb d_Writer_beginPacket_151 rfl (fun h151 => ?_) (fun h151 => ?_)
            · refine lv_sipush (v := 255) hx hb d_Writer_beginPacket_158 (by decide) ?_
              refine z_topi (w := (if k = 1 then 0 else 255)) ((if_neg (mt (fun z => by rw [z]; rfl) h151)).symm) ?_
              exact key151
            · refine lv_iconst (v := 0) hx hb d_Writer_beginPacket_154 (by decide) ?_
              refine lv_goto (tgt := 161) hx hb d_Writer_beginPacket_155 rfl ?_
              refine z_topi (w := (if k = 1 then 0 else 255)) ((if_pos ((nI_eq (b := 1) (by omega) (by omega)).mp h151)).symm) ?_
              exact key151
          have hPc := hP.sub (ws' := [(tp, .inr (0, [.ref a, .int (nI (X).length)])), (a, .inl (cB, 9400, .inl g))]) [2, 3] rfl
          have hKc := hK.sub (tys' := [(cB, .byte)]) [0] rfl
          have hDc := hD.sub (ws' := [(tp, .inr (0, [.ref a, .int (nI (X).length)])), (a, .inl (cB, 9400, .inl g))]) [2, 3] (by decide) rfl
          have hFc := va_free (wc := [(tp, .inr (0, [.ref a, .int (nI (X).length)])), (a, .inl (cB, 9400, .inl g))]) hD hS hA [2, 3] rfl
          refine va_callv (va_runV (As := [.int (if k = 1 then 0 else 255)]) (rest := []) ⟨hx, hb, hml, hown, hts⟩ (c_Row_addL l D H.size cB tp a 9400 X g (if k = 1 then 0 else 255) (by omega) (by rw [hX, List.length_append, List.length_take, st_len, hl4]; omega) hg) (z_cV hN wd_538 wd_61 wd_994 hd_Row_add rfl rfl ⟨Nat.le_of_ble_eq_true rfl, Nat.le_of_ble_eq_true rfl⟩ wd_536 wd_537) (z_preVm (va_recv (ci := 0) (q0 := 2) hK hP rfl rfl) hPc hKc hN hDc) rfl rfl hl.1 rfl (lv_room (Nat.le_of_ble_eq_true rfl)) d_Writer_beginPacket_161 ⟨Nat.le_of_ble_eq_true rfl, Nat.le_of_ble_eq_true rfl⟩) hS (fun q _ h => hFc q h) hFc (fun g2 t H locs ht hvm e161 hB hz1 hk1 hS => ?_)
          obtain ⟨hP1, hK1, hD1⟩ := hB
          rw [ht] at hP1
          obtain ⟨hP, hD⟩ := va_join (wr := [(w, .inr (10, [.ref tp, .ref la, .int (nI lf), .int (nI nn), .int 1, .int ss])), (la, .inr (1, [.int (nI pid), va_rf nx, .int ct, .int tw, .long ck, .int (nI (w0 + 1)), va_rf se, va_rf pi]))]) (w1 := [(tp, .inr (0, [.ref a, .int (nI (X ++ [(if k = 1 then 0 else 255) &&& 255]).length)])), (a, .inl (cB, 9400, .inl g2))]) hP hD [2, 3] [0, 1] rfl rfl (by decide) (by decide) hk1 hFc hP1 hD1
          clear hk1 hP1 hD1 hFc hPc hDc hz1
          have hP : va_P D classes [(w, .inr (10, [.ref tp, .ref la, .int (nI lf), .int (nI nn), .int 1, .int ss])), (la, .inr (1, [.int (nI pid), va_rf nx, .int ct, .int tw, .long ck, .int (nI (w0 + 1)), va_rf se, va_rf pi])), (tp, .inr (0, [.ref a, .int (nI (X ++ [(if k = 1 then 0 else 255) &&& 255]).length)])), (a, .inl (cB, 9400, .inl g2))] H := hP
          have hD : va_D A [(w, .inr (10, [.ref tp, .ref la, .int (nI lf), .int (nI nn), .int 1, .int ss])), (la, .inr (1, [.int (nI pid), va_rf nx, .int ct, .int tw, .long ck, .int (nI (w0 + 1)), va_rf se, va_rf pi])), (tp, .inr (0, [.ref a, .int (nI (X ++ [(if k = 1 then 0 else 255) &&& 255]).length)])), (a, .inl (cB, 9400, .inl g2))] := hD
          refine lv_iinc (k := 2) (v := nI (k + 1)) (lv' := [(2, .int (nI (k + 1))), (0, .ref w), (1, .int (nI (184 - nn)))]) hx hb d_Writer_beginPacket_164 hl rfl (nI_1 k) (by decide) rfl (fun ls hl => ?_)
          refine lv_goto (tgt := 140) hx hb d_Writer_beginPacket_167 rfl ?_
          exact ih140 (k + 1) (X ++ [(if k = 1 then 0 else 255) &&& 255]) g2 H locs ls (by omega) (by omega) (by omega) (wp_step hX (by omega) (by omega)) e161 (lv_sub hl [1, 2, 0] rfl) hP hD hS
    exact loop140 _ 1 ((T ++ hd4 pid (decide (bg = 0)) w0 nn) ++ [nI ((184 - nn) - 1) &&& 255]) f5 H locs ls (Nat.lt_succ_self _) (Nat.le_refl _) (by omega) (wp_i1 (by omega)) e135 (lv_sub hl [2, 1, 0] rfl) hP hD hS
