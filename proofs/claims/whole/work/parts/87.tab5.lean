theorem wd_662 : (Jvm.Cond.constantLong "StreamSplitter$Tables" (116 : Nat) (-1 : Int64)) ∈ lw_ok := List.mem_filter.mpr ⟨List.mem_of_getElem? (i := 662) (by decide +kernel), rfl⟩
theorem wd_663 : (Jvm.Cond.constantLong "StreamSplitter$Tables" (118 : Nat) (8589934591 : Int64)) ∈ lw_ok := List.mem_filter.mpr ⟨List.mem_of_getElem? (i := 663) (by decide +kernel), rfl⟩
theorem wd_664 : (Jvm.Cond.classLink "StreamSplitter$Tables" (120 : Nat) "StreamSplitter$Order") ∈ lw_ok := List.mem_filter.mpr ⟨List.mem_of_getElem? (i := 664) (by decide +kernel), rfl⟩
theorem wd_665 : (Jvm.Cond.methodLink "StreamSplitter$Tables" (122 : Nat) ({ cls := "StreamSplitter$Order", name := "<init>", desc := "(JIZJ)V" } : Jvm.MethodName)) ∈ lw_ok := List.mem_filter.mpr ⟨List.mem_of_getElem? (i := 665) (by decide +kernel), rfl⟩
theorem wd_666 : (Jvm.Cond.methodLink "StreamSplitter$Tables" (125 : Nat) ({ cls := "StreamSplitter$Programme", name := "keep", desc := "(LStreamSplitter$Order;)V" } : Jvm.MethodName)) ∈ lw_ok := List.mem_filter.mpr ⟨List.mem_of_getElem? (i := 666) (by decide +kernel), rfl⟩
theorem wd_667 : (Jvm.Cond.instanceMethod ({ cls := "StreamSplitter$Programme", name := "keep", desc := "(LStreamSplitter$Order;)V" } : Jvm.MethodName)) ∈ lw_ok := List.mem_filter.mpr ⟨List.mem_of_getElem? (i := 667) (by decide +kernel), rfl⟩
theorem wd_668 : (Jvm.Cond.selects "StreamSplitter$Programme" ({ cls := "StreamSplitter$Programme", name := "keep", desc := "(LStreamSplitter$Order;)V" } : Jvm.MethodName) ({ cls := "StreamSplitter$Programme", name := "keep", desc := "(LStreamSplitter$Order;)V" } : Jvm.MethodName)) ∈ lw_ok := List.mem_filter.mpr ⟨List.mem_of_getElem? (i := 668) (by decide +kernel), rfl⟩
set_option maxRecDepth 100000 in
theorem wd_669 : (Jvm.Cond.code ({ cls := "StreamSplitter$Programme", name := "keep", desc := "(LStreamSplitter$Order;)V" } : Jvm.MethodName) prog_7_method_5_code (3 : Nat) (Option.none : Option Jvm.ClassFile.FieldType)) ∈ lw_ok := List.mem_filter.mpr ⟨List.mem_of_getElem? (i := 669) (by rfl), rfl⟩
theorem wd_674 : (Jvm.Cond.methodLink "StreamSplitter$Tables" (133 : Nat) ({ cls := "StreamSplitter$Programme", name := "obey", desc := "(LStreamSplitter$Order;)V" } : Jvm.MethodName)) ∈ lw_ok := List.mem_filter.mpr ⟨List.mem_of_getElem? (i := 674) (by decide +kernel), rfl⟩
theorem hd_Programme_keep : y_Programme_keep.cls ≠ "java/lang/invoke/MethodHandle" ∧ y_Programme_keep.cls ≠ "java/lang/invoke/VarHandle" ∧ (parseMethodDescriptor y_Programme_keep.desc).map (fun d => d.parameters.length) = some 1 := by decide +kernel
theorem d_Tables_useSwitch_0 : decode b_Tables_useSwitch 0 = .ok (.aload_n 0, 1) := by decide +kernel
theorem d_Tables_useSwitch_1 : decode b_Tables_useSwitch 1 = .ok (.sipush 154, 3) := by decide +kernel
theorem d_Tables_useSwitch_4 : decode b_Tables_useSwitch 4 = .ok (.invokevirtual 57, 3) := by decide +kernel
theorem d_Tables_useSwitch_7 : decode b_Tables_useSwitch 7 = .ok (.istore_n 2, 1) := by decide +kernel
theorem d_Tables_useSwitch_8 : decode b_Tables_useSwitch 8 = .ok (.aload_n 0, 1) := by decide +kernel
theorem d_Tables_useSwitch_9 : decode b_Tables_useSwitch 9 = .ok (.sipush 155, 3) := by decide +kernel
theorem d_Tables_useSwitch_12 : decode b_Tables_useSwitch 12 = .ok (.invokevirtual 57, 3) := by decide +kernel
theorem d_Tables_useSwitch_15 : decode b_Tables_useSwitch 15 = .ok (.istore_n 3, 1) := by decide +kernel
theorem d_Tables_useSwitch_16 : decode b_Tables_useSwitch 16 = .ok (.iload_n 3, 1) := by decide +kernel
theorem d_Tables_useSwitch_17 : decode b_Tables_useSwitch 17 = .ok (.ifCond .ne 17, 3) := by decide +kernel
theorem d_Tables_useSwitch_20 : decode b_Tables_useSwitch 20 = .ok (.aload_n 0, 1) := by decide +kernel
theorem d_Tables_useSwitch_21 : decode b_Tables_useSwitch 21 = .ok (.sipush 160, 3) := by decide +kernel
theorem d_Tables_useSwitch_24 : decode b_Tables_useSwitch 24 = .ok (.invokevirtual 57, 3) := by decide +kernel
theorem d_Tables_useSwitch_27 : decode b_Tables_useSwitch 27 = .ok (.ifCond .eq 7, 3) := by decide +kernel
theorem d_Tables_useSwitch_30 : decode b_Tables_useSwitch 30 = .ok (.iconst 1, 1) := by decide +kernel
theorem d_Tables_useSwitch_31 : decode b_Tables_useSwitch 31 = .ok (.goto 4, 3) := by decide +kernel
theorem d_Tables_useSwitch_34 : decode b_Tables_useSwitch 34 = .ok (.iconst 0, 1) := by decide +kernel
theorem d_Tables_useSwitch_35 : decode b_Tables_useSwitch 35 = .ok (.istore 4, 2) := by decide +kernel
theorem d_Tables_useSwitch_37 : decode b_Tables_useSwitch 37 = .ok (.iload_n 3, 1) := by decide +kernel
theorem d_Tables_useSwitch_38 : decode b_Tables_useSwitch 38 = .ok (.ifCond .eq 8, 3) := by decide +kernel
theorem d_Tables_useSwitch_41 : decode b_Tables_useSwitch 41 = .ok (.bipush 20, 2) := by decide +kernel
theorem d_Tables_useSwitch_43 : decode b_Tables_useSwitch 43 = .ok (.goto 15, 3) := by decide +kernel
theorem d_Tables_useSwitch_46 : decode b_Tables_useSwitch 46 = .ok (.iload 4, 2) := by decide +kernel
theorem d_Tables_useSwitch_48 : decode b_Tables_useSwitch 48 = .ok (.ifCond .eq 8, 3) := by decide +kernel
theorem d_Tables_useSwitch_51 : decode b_Tables_useSwitch 51 = .ok (.bipush 25, 2) := by decide +kernel
theorem d_Tables_useSwitch_53 : decode b_Tables_useSwitch 53 = .ok (.goto 5, 3) := by decide +kernel
theorem d_Tables_useSwitch_56 : decode b_Tables_useSwitch 56 = .ok (.bipush 21, 2) := by decide +kernel
theorem d_Tables_useSwitch_58 : decode b_Tables_useSwitch 58 = .ok (.istore 5, 2) := by decide +kernel
theorem d_Tables_useSwitch_60 : decode b_Tables_useSwitch 60 = .ok (.iload_n 2, 1) := by decide +kernel
theorem d_Tables_useSwitch_61 : decode b_Tables_useSwitch 61 = .ok (.ifCond .eq 10, 3) := by decide +kernel
theorem d_Tables_useSwitch_64 : decode b_Tables_useSwitch 64 = .ok (.iload 5, 2) := by decide +kernel
theorem d_Tables_useSwitch_66 : decode b_Tables_useSwitch 66 = .ok (.iconst 5, 1) := by decide +kernel
theorem d_Tables_useSwitch_67 : decode b_Tables_useSwitch 67 = .ok (.iadd, 1) := by decide +kernel
theorem d_Tables_useSwitch_68 : decode b_Tables_useSwitch 68 = .ok (.goto 5, 3) := by decide +kernel
theorem d_Tables_useSwitch_71 : decode b_Tables_useSwitch 71 = .ok (.iload 5, 2) := by decide +kernel
theorem d_Tables_useSwitch_73 : decode b_Tables_useSwitch 73 = .ok (.iconst 4, 1) := by decide +kernel
theorem d_Tables_useSwitch_74 : decode b_Tables_useSwitch 74 = .ok (.iadd, 1) := by decide +kernel
theorem d_Tables_useSwitch_75 : decode b_Tables_useSwitch 75 = .ok (.istore 6, 2) := by decide +kernel
theorem d_Tables_useSwitch_77 : decode b_Tables_useSwitch 77 = .ok (.aload_n 0, 1) := by decide +kernel
theorem d_Tables_useSwitch_78 : decode b_Tables_useSwitch 78 = .ok (.sipush 153, 3) := by decide +kernel
theorem d_Tables_useSwitch_81 : decode b_Tables_useSwitch 81 = .ok (.invokevirtual 57, 3) := by decide +kernel
theorem d_Tables_useSwitch_84 : decode b_Tables_useSwitch 84 = .ok (.ifCond .eq 12, 3) := by decide +kernel
theorem d_Tables_useSwitch_87 : decode b_Tables_useSwitch 87 = .ok (.iload 6, 2) := by decide +kernel
theorem d_Tables_useSwitch_89 : decode b_Tables_useSwitch 89 = .ok (.aload_n 0, 1) := by decide +kernel
theorem d_Tables_useSwitch_90 : decode b_Tables_useSwitch 90 = .ok (.getfield 73, 3) := by decide +kernel
theorem d_Tables_useSwitch_93 : decode b_Tables_useSwitch 93 = .ok (.if_icmp .le 4, 3) := by decide +kernel
theorem d_Tables_useSwitch_96 : decode b_Tables_useSwitch 96 = .ok (.return_, 1) := by decide +kernel
theorem d_Tables_useSwitch_97 : decode b_Tables_useSwitch 97 = .ok (.aload_n 0, 1) := by decide +kernel
theorem d_Tables_useSwitch_98 : decode b_Tables_useSwitch 98 = .ok (.bipush 112, 2) := by decide +kernel
theorem d_Tables_useSwitch_100 : decode b_Tables_useSwitch 100 = .ok (.bipush 32, 2) := by decide +kernel
theorem d_Tables_useSwitch_102 : decode b_Tables_useSwitch 102 = .ok (.invokevirtual 61, 3) := by decide +kernel
theorem d_Tables_useSwitch_105 : decode b_Tables_useSwitch 105 = .ok (.l2i, 1) := by decide +kernel
theorem d_Tables_useSwitch_106 : decode b_Tables_useSwitch 106 = .ok (.istore 7, 2) := by decide +kernel
theorem d_Tables_useSwitch_108 : decode b_Tables_useSwitch 108 = .ok (.iload_n 2, 1) := by decide +kernel
theorem d_Tables_useSwitch_109 : decode b_Tables_useSwitch 109 = .ok (.ifCond .eq 19, 3) := by decide +kernel
theorem d_Tables_useSwitch_112 : decode b_Tables_useSwitch 112 = .ok (.aload_n 0, 1) := by decide +kernel
theorem d_Tables_useSwitch_113 : decode b_Tables_useSwitch 113 = .ok (.bipush 8, 2) := by decide +kernel
theorem d_Tables_useSwitch_115 : decode b_Tables_useSwitch 115 = .ok (.iload 5, 2) := by decide +kernel
theorem d_Tables_useSwitch_117 : decode b_Tables_useSwitch 117 = .ok (.imul, 1) := by decide +kernel
theorem d_Tables_useSwitch_118 : decode b_Tables_useSwitch 118 = .ok (.invokevirtual 57, 3) := by decide +kernel
theorem d_Tables_useSwitch_121 : decode b_Tables_useSwitch 121 = .ok (.ifCond .eq 7, 3) := by decide +kernel
theorem d_Tables_useSwitch_124 : decode b_Tables_useSwitch 124 = .ok (.iconst 1, 1) := by decide +kernel
theorem d_Tables_useSwitch_125 : decode b_Tables_useSwitch 125 = .ok (.goto 4, 3) := by decide +kernel
theorem d_Tables_useSwitch_128 : decode b_Tables_useSwitch 128 = .ok (.iconst 0, 1) := by decide +kernel
theorem d_Tables_useSwitch_129 : decode b_Tables_useSwitch 129 = .ok (.istore 8, 2) := by decide +kernel
theorem d_Tables_useSwitch_131 : decode b_Tables_useSwitch 131 = .ok (.iload 8, 2) := by decide +kernel
theorem d_Tables_useSwitch_133 : decode b_Tables_useSwitch 133 = .ok (.ifCond .eq 20, 3) := by decide +kernel
theorem d_Tables_useSwitch_136 : decode b_Tables_useSwitch 136 = .ok (.aload_n 0, 1) := by decide +kernel
theorem d_Tables_useSwitch_137 : decode b_Tables_useSwitch 137 = .ok (.bipush 8, 2) := by decide +kernel
theorem d_Tables_useSwitch_139 : decode b_Tables_useSwitch 139 = .ok (.iload 5, 2) := by decide +kernel
theorem d_Tables_useSwitch_141 : decode b_Tables_useSwitch 141 = .ok (.imul, 1) := by decide +kernel
theorem d_Tables_useSwitch_142 : decode b_Tables_useSwitch 142 = .ok (.bipush 7, 2) := by decide +kernel
theorem d_Tables_useSwitch_144 : decode b_Tables_useSwitch 144 = .ok (.iadd, 1) := by decide +kernel
theorem d_Tables_useSwitch_145 : decode b_Tables_useSwitch 145 = .ok (.bipush 33, 2) := by decide +kernel
theorem d_Tables_useSwitch_147 : decode b_Tables_useSwitch 147 = .ok (.invokevirtual 61, 3) := by decide +kernel
theorem d_Tables_useSwitch_150 : decode b_Tables_useSwitch 150 = .ok (.goto 6, 3) := by decide +kernel
theorem d_Tables_useSwitch_153 : decode b_Tables_useSwitch 153 = .ok (.ldc2_w 116, 3) := by decide +kernel
theorem d_Tables_useSwitch_156 : decode b_Tables_useSwitch 156 = .ok (.lstore 9, 2) := by decide +kernel
theorem d_Tables_useSwitch_158 : decode b_Tables_useSwitch 158 = .ok (.aload_n 0, 1) := by decide +kernel
theorem d_Tables_useSwitch_159 : decode b_Tables_useSwitch 159 = .ok (.sipush 152, 3) := by decide +kernel
theorem d_Tables_useSwitch_162 : decode b_Tables_useSwitch 162 = .ok (.invokevirtual 57, 3) := by decide +kernel
theorem d_Tables_useSwitch_165 : decode b_Tables_useSwitch 165 = .ok (.istore 11, 2) := by decide +kernel
theorem d_Tables_useSwitch_167 : decode b_Tables_useSwitch 167 = .ok (.iload 4, 2) := by decide +kernel
theorem d_Tables_useSwitch_169 : decode b_Tables_useSwitch 169 = .ok (.ifCond .eq 49, 3) := by decide +kernel
theorem d_Tables_useSwitch_172 : decode b_Tables_useSwitch 172 = .ok (.aload_n 0, 1) := by decide +kernel
theorem d_Tables_useSwitch_173 : decode b_Tables_useSwitch 173 = .ok (.sipush 167, 3) := by decide +kernel
theorem d_Tables_useSwitch_176 : decode b_Tables_useSwitch 176 = .ok (.bipush 33, 2) := by decide +kernel
theorem d_Tables_useSwitch_178 : decode b_Tables_useSwitch 178 = .ok (.invokevirtual 61, 3) := by decide +kernel
theorem d_Tables_useSwitch_181 : decode b_Tables_useSwitch 181 = .ok (.aload_n 0, 1) := by decide +kernel
theorem d_Tables_useSwitch_182 : decode b_Tables_useSwitch 182 = .ok (.bipush 39, 2) := by decide +kernel
theorem d_Tables_useSwitch_184 : decode b_Tables_useSwitch 184 = .ok (.bipush 33, 2) := by decide +kernel
theorem d_Tables_useSwitch_186 : decode b_Tables_useSwitch 186 = .ok (.invokevirtual 61, 3) := by decide +kernel
theorem d_Tables_useSwitch_189 : decode b_Tables_useSwitch 189 = .ok (.ladd, 1) := by decide +kernel
theorem d_Tables_useSwitch_190 : decode b_Tables_useSwitch 190 = .ok (.ldc2_w 118, 3) := by decide +kernel
theorem d_Tables_useSwitch_193 : decode b_Tables_useSwitch 193 = .ok (.land, 1) := by decide +kernel
theorem d_Tables_useSwitch_194 : decode b_Tables_useSwitch 194 = .ok (.lstore 12, 2) := by decide +kernel
theorem d_Tables_useSwitch_196 : decode b_Tables_useSwitch 196 = .ok (.aload_n 1, 1) := by decide +kernel
theorem d_Tables_useSwitch_197 : decode b_Tables_useSwitch 197 = .ok (.new 120, 3) := by decide +kernel
theorem d_Tables_useSwitch_200 : decode b_Tables_useSwitch 200 = .ok (.dup, 1) := by decide +kernel
theorem d_Tables_useSwitch_201 : decode b_Tables_useSwitch 201 = .ok (.lload 12, 2) := by decide +kernel
theorem d_Tables_useSwitch_203 : decode b_Tables_useSwitch 203 = .ok (.iload 7, 2) := by decide +kernel
theorem d_Tables_useSwitch_205 : decode b_Tables_useSwitch 205 = .ok (.iload 11, 2) := by decide +kernel
theorem d_Tables_useSwitch_207 : decode b_Tables_useSwitch 207 = .ok (.lload 9, 2) := by decide +kernel
theorem d_Tables_useSwitch_209 : decode b_Tables_useSwitch 209 = .ok (.invokespecial 122, 3) := by decide +kernel
theorem d_Tables_useSwitch_212 : decode b_Tables_useSwitch 212 = .ok (.invokevirtual 125, 3) := by decide +kernel
theorem d_Tables_useSwitch_215 : decode b_Tables_useSwitch 215 = .ok (.goto 24, 3) := by decide +kernel
theorem d_Tables_useSwitch_218 : decode b_Tables_useSwitch 218 = .ok (.aload_n 1, 1) := by decide +kernel
theorem d_Tables_useSwitch_219 : decode b_Tables_useSwitch 219 = .ok (.new 120, 3) := by decide +kernel
theorem d_Tables_useSwitch_222 : decode b_Tables_useSwitch 222 = .ok (.dup, 1) := by decide +kernel
theorem d_Tables_useSwitch_223 : decode b_Tables_useSwitch 223 = .ok (.aload_n 1, 1) := by decide +kernel
theorem d_Tables_useSwitch_224 : decode b_Tables_useSwitch 224 = .ok (.getfield 129, 3) := by decide +kernel
theorem d_Tables_useSwitch_227 : decode b_Tables_useSwitch 227 = .ok (.iload 7, 2) := by decide +kernel
theorem d_Tables_useSwitch_229 : decode b_Tables_useSwitch 229 = .ok (.iload 11, 2) := by decide +kernel
theorem d_Tables_useSwitch_231 : decode b_Tables_useSwitch 231 = .ok (.lload 9, 2) := by decide +kernel
theorem d_Tables_useSwitch_233 : decode b_Tables_useSwitch 233 = .ok (.invokespecial 122, 3) := by decide +kernel
theorem d_Tables_useSwitch_236 : decode b_Tables_useSwitch 236 = .ok (.invokevirtual 133, 3) := by decide +kernel
theorem d_Tables_useSwitch_239 : decode b_Tables_useSwitch 239 = .ok (.return_, 1) := by decide +kernel
set_option maxHeartbeats 16000000 in
set_option maxRecDepth 100000 in
theorem c_Tables_useSwitch (l : Launch) (D : va_G) (B0 : State) (hG : zG B0) (sz : Nat) (cB : ClassId) (h a n : Nat) (f : Nat → Int32) (cO : ClassId) (e0 : Nat) (z : PZ) (mo : Int32) (wst : Option (Nat × (Nat → Option Nat))) (Wl : List (Nat × Int64 × Int32 × Int32 × Int64)) (Q : va_W) (hn : n ≤ 1024) (he0 : zE0 B0 e0) (hwk : wok Q wst Wl) (hW6 : Wl.length ≤ 6) (hbo : obl Wl) : Met l y_Tables_useSwitch [Cond.code y_Tables_useSwitch b_Tables_useSwitch 14 none] ({ frames := 6, cells := 3, slots := 18, locals := 124 }) (zMo [.ref h, .ref z.1] D ([(h, .inr (0, [.ref a, .int (nI n)])), (a, .inl (cB, 1024, .inl f)), (z.1, .inr (7, [.int z.2.1, .int (nI z.2.2.1), .int z.2.2.2.1, .int z.2.2.2.2.1, .ref z.2.2.2.2.2.1, .int z.2.2.2.2.2.2.1, .long z.2.2.2.2.2.2.2.1, .ref z.2.2.2.2.2.2.2.2]))] ++ (wlc cO e0 z.2.2.2.2.2.2.2.2 Wl.length mo wst ++ Q)) [(cB, .byte), (cO, .object "java/lang/Object")] sz B0) (va_Qv (fun (u : Int32 × WU9 × va_W) => swP f n z.2.2.2.2.2.2.2.1 z.2.2.2.2.2.2.1 Wl u.1 u.2.1.1 u.2.2 ∧ wok (u.2.2 ++ Q) u.2.1.2.2 u.2.1.1 ∧ u.2.1.1.length ≤ 6 ∧ obl u.2.1.1) (fun (u : Int32 × WU9 × va_W) t => zW D (va_A ([(h, .inr (0, [.ref a, .int (nI n)])), (a, .inl (cB, 1024, .inl f)), (z.1, .inr (7, [.int z.2.1, .int (nI z.2.2.1), .int z.2.2.2.1, .int z.2.2.2.2.1, .ref z.2.2.2.2.2.1, .int z.2.2.2.2.2.2.1, .long z.2.2.2.2.2.2.2.1, .ref z.2.2.2.2.2.2.2.2]))] ++ (wlc cO e0 z.2.2.2.2.2.2.2.2 Wl.length mo wst ++ Q)) sz) ([(h, .inr (0, [.ref a, .int (nI n)])), (a, .inl (cB, 1024, .inl f)), (z.1, .inr (7, [.int z.2.1, .int (nI z.2.2.1), .int z.2.2.2.1, .int z.2.2.2.2.1, .ref z.2.2.2.2.2.1, .int u.1, .long z.2.2.2.2.2.2.2.1, .ref z.2.2.2.2.2.2.2.2]))] ++ (wlc cO e0 z.2.2.2.2.2.2.2.2 u.2.1.1.length u.2.1.2.1 u.2.1.2.2 ++ (u.2.2 ++ Q))) [(cB, .byte), (cO, .object "java/lang/Object")] t) (va_A ([(h, .inr (0, [.ref a, .int (nI n)])), (a, .inl (cB, 1024, .inl f)), (z.1, .inr (7, [.int z.2.1, .int (nI z.2.2.1), .int z.2.2.2.1, .int z.2.2.2.2.1, .ref z.2.2.2.2.2.1, .int z.2.2.2.2.2.2.1, .long z.2.2.2.2.2.2.2.1, .ref z.2.2.2.2.2.2.2.2]))] ++ (wlc cO e0 z.2.2.2.2.2.2.2.2 Wl.length mo wst ++ Q)) sz)) 3 18 (va_A ([(h, .inr (0, [.ref a, .int (nI n)])), (a, .inl (cB, 1024, .inl f)), (z.1, .inr (7, [.int z.2.1, .int (nI z.2.2.1), .int z.2.2.2.1, .int z.2.2.2.2.1, .ref z.2.2.2.2.2.1, .int z.2.2.2.2.2.2.1, .long z.2.2.2.2.2.2.2.1, .ref z.2.2.2.2.2.2.2.2]))] ++ (wlc cO e0 z.2.2.2.2.2.2.2.2 Wl.length mo wst ++ Q)) sz) := by
  refine Met.ofW (cc := b_Tables_useSwitch) (maxL := 14) (ret := none) (by decide) rfl ?_
  intro p e s m args below meth cd s₁ Bd hml hv
  obtain ⟨rfl, hsz, hP, hK, hN, hD0, hO⟩ := hv
  have hx := Bd.exec
  have hb := Bd.bytes
  have hr := Bd.returns
  have hts := hN.use (a := ([.ref h, .ref z.1]).toArray)
  have hown : s.vm.findClass R_Tables = some m.cls := findClass_of_methodNamed Bd.named
  have hlocks := Bd.notSynchronized
  subst hsz
  have hD := hD0.self (sz := s.heap.size)
  have hAO := z_AO hD0 hO
  clear hD0
  have hA : ∀ q : Nat, s.heap.size ≤ q → va_A ([(h, .inr (0, [.ref a, .int (nI n)])), (a, .inl (cB, 1024, .inl f)), (z.1, .inr (7, [.int z.2.1, .int (nI z.2.2.1), .int z.2.2.2.1, .int z.2.2.2.2.1, .ref z.2.2.2.2.2.1, .int z.2.2.2.2.2.2.1, .long z.2.2.2.2.2.2.2.1, .ref z.2.2.2.2.2.2.2.2]))] ++ (wlc cO e0 z.2.2.2.2.2.2.2.2 Wl.length mo wst ++ Q)) s.heap.size q := fun q h => Or.inr h
  have hS : va_S (va_A ([(h, .inr (0, [.ref a, .int (nI n)])), (a, .inl (cB, 1024, .inl f)), (z.1, .inr (7, [.int z.2.1, .int (nI z.2.2.1), .int z.2.2.2.1, .int z.2.2.2.2.1, .ref z.2.2.2.2.2.1, .int z.2.2.2.2.2.2.1, .long z.2.2.2.2.2.2.2.1, .ref z.2.2.2.2.2.2.2.2]))] ++ (wlc cO e0 z.2.2.2.2.2.2.2.2 Wl.length mo wst ++ Q)) s.heap.size) s.heap s.heap [] := va_S.rf
  generalize hAe : va_A ([(h, .inr (0, [.ref a, .int (nI n)])), (a, .inl (cB, 1024, .inl f)), (z.1, .inr (7, [.int z.2.1, .int (nI z.2.2.1), .int z.2.2.2.1, .int z.2.2.2.2.1, .ref z.2.2.2.2.2.1, .int z.2.2.2.2.2.2.1, .long z.2.2.2.2.2.2.2.1, .ref z.2.2.2.2.2.2.2.2]))] ++ (wlc cO e0 z.2.2.2.2.2.2.2.2 Wl.length mo wst ++ Q)) s.heap.size = A at hD hA hS hAO ⊢
  have hP : va_P D classes ([(h, .inr (0, [.ref a, .int (nI n)])), (a, .inl (cB, 1024, .inl f)), (z.1, .inr (7, [.int z.2.1, .int (nI z.2.2.1), .int z.2.2.2.1, .int z.2.2.2.2.1, .ref z.2.2.2.2.2.1, .int z.2.2.2.2.2.2.1, .long z.2.2.2.2.2.2.2.1, .ref z.2.2.2.2.2.2.2.2]))] ++ (wlc cO e0 z.2.2.2.2.2.2.2.2 Wl.length mo wst ++ Q)) s.heap := hP
  have hl := lv_entry ([.ref h, .ref z.1]) (n := 14) (Nat.le_of_ble_eq_true rfl)
  rw [lg_entry_eq]
  generalize (lg_sl ([.ref h, .ref z.1]) ++ List.replicate (14 - (lg_sl ([.ref h, .ref z.1])).length) Slot.unset).toArray = ls at hl ⊢
  have hl : lv_has ls 14 [(0, .ref h), (1, .ref z.1)] := hl
  have hA25 := swA_le f n
  have hE9 : swE f n ≤ 34 := by unfold swE; split <;> omega
  refine lv_aload_n hx hb d_Tables_useSwitch_0 rfl (lv_at hl 0 rfl) ?_
  refine lv_sipush (v := 154) hx hb d_Tables_useSwitch_1 (by decide) ?_
  have hPc := hP.sub (ws' := [(h, .inr (0, [.ref a, .int (nI n)])), (a, .inl (cB, 1024, .inl f))]) [0, 1] rfl
  have hKc := hK.sub (tys' := [(cB, .byte)]) [0] rfl
  refine z_ci (va_runV (As := [.int (nI 154)]) (rest := []) ⟨hx, hb, hml, hown, hts⟩ (c_Row_bit l D cB h a n 1024 f 154 (by omega) (by omega)) (z_cV hN wd_563 wd_61 wd_560 hd_Row_bit rfl rfl ⟨Nat.le_of_ble_eq_true rfl, Nat.le_of_ble_eq_true rfl⟩ wd_561 wd_562) (z_preV (va_recv (ci := 0) (q0 := 0) hK hP rfl rfl) hPc hKc hN) rfl rfl hl.1 rfl (lv_room (Nat.le_of_ble_eq_true rfl)) d_Tables_useSwitch_4 ⟨Nat.le_of_ble_eq_true rfl, Nat.le_of_ble_eq_true rfl⟩) (fun r4 e4 => ?_)
  refine z_topi (w := if rw_bit f n 1024 154 = 1 then 1 else 0) e4 ?_
  refine lv_istore_n (lv' := [(2, .int (if rw_bit f n 1024 154 = 1 then 1 else 0)), (0, .ref h), (1, .ref z.1)]) hx hb d_Tables_useSwitch_7 rfl hl (by decide) rfl (fun ls hl => ?_)
  refine lv_aload_n hx hb d_Tables_useSwitch_8 rfl (lv_at hl 1 rfl) ?_
  refine lv_sipush (v := 155) hx hb d_Tables_useSwitch_9 (by decide) ?_
  have hPc := hP.sub (ws' := [(h, .inr (0, [.ref a, .int (nI n)])), (a, .inl (cB, 1024, .inl f))]) [0, 1] rfl
  have hKc := hK.sub (tys' := [(cB, .byte)]) [0] rfl
  refine z_ci (va_runV (As := [.int (nI 155)]) (rest := []) ⟨hx, hb, hml, hown, hts⟩ (c_Row_bit l D cB h a n 1024 f 155 (by omega) (by omega)) (z_cV hN wd_563 wd_61 wd_560 hd_Row_bit rfl rfl ⟨Nat.le_of_ble_eq_true rfl, Nat.le_of_ble_eq_true rfl⟩ wd_561 wd_562) (z_preV (va_recv (ci := 0) (q0 := 0) hK hP rfl rfl) hPc hKc hN) rfl rfl hl.1 rfl (lv_room (Nat.le_of_ble_eq_true rfl)) d_Tables_useSwitch_12 ⟨Nat.le_of_ble_eq_true rfl, Nat.le_of_ble_eq_true rfl⟩) (fun r12 e12 => ?_)
  refine z_topi (w := if rw_bit f n 1024 155 = 1 then 1 else 0) e12 ?_
  refine lv_istore_n (lv' := [(3, .int (if rw_bit f n 1024 155 = 1 then 1 else 0)), (2, .int (if rw_bit f n 1024 154 = 1 then 1 else 0)), (0, .ref h), (1, .ref z.1)]) hx hb d_Tables_useSwitch_15 rfl hl (by decide) rfl (fun ls hl => ?_)
  refine lv_iload_n hx hb d_Tables_useSwitch_16 rfl (lv_at hl 0 rfl) ?_
  suffices key17 : W p l e ({ frames := 6, cells := 3, slots := 18, locals := 124 }) s m ([.ref h, .ref z.1]).toArray below meth cd s.heap [] 0 0 (MQ below (va_Qv (fun (u : Int32 × WU9 × va_W) => swP f n z.2.2.2.2.2.2.2.1 z.2.2.2.2.2.2.1 Wl u.1 u.2.1.1 u.2.2 ∧ wok (u.2.2 ++ Q) u.2.1.2.2 u.2.1.1 ∧ u.2.1.1.length ≤ 6 ∧ obl u.2.1.1) (fun (u : Int32 × WU9 × va_W) t => zW D (A) ([(h, .inr (0, [.ref a, .int (nI n)])), (a, .inl (cB, 1024, .inl f)), (z.1, .inr (7, [.int z.2.1, .int (nI z.2.2.1), .int z.2.2.2.1, .int z.2.2.2.2.1, .ref z.2.2.2.2.2.1, .int u.1, .long z.2.2.2.2.2.2.2.1, .ref z.2.2.2.2.2.2.2.2]))] ++ (wlc cO e0 z.2.2.2.2.2.2.2.2 u.2.1.1.length u.2.1.2.1 u.2.1.2.2 ++ (u.2.2 ++ Q))) [(cB, .byte), (cO, .object "java/lang/Object")] t) (A)) ([.ref h, .ref z.1]).toArray s 3 18 (A)) (F0 m 35 ls [.int (if swT f n then (1 : Int32) else 0)]) by
    refine lv_if_ne (tgt := 34) hx hb d_Tables_useSwitch_17 rfl (fun h17 => ?_) (fun h17 => ?_)
    · refine lv_iconst (v := 0) hx hb d_Tables_useSwitch_34 (by decide) ?_
      refine z_topi (w := (if swT f n then (1 : Int32) else 0)) ((if_neg (fun z => z.1 (b_1 h17))).symm) ?_
      exact key17
    · refine lv_aload_n hx hb d_Tables_useSwitch_20 rfl (lv_at hl 2 rfl) ?_
      refine lv_sipush (v := 160) hx hb d_Tables_useSwitch_21 (by decide) ?_
      have hPc := hP.sub (ws' := [(h, .inr (0, [.ref a, .int (nI n)])), (a, .inl (cB, 1024, .inl f))]) [0, 1] rfl
      have hKc := hK.sub (tys' := [(cB, .byte)]) [0] rfl
      refine z_ci (va_runV (As := [.int (nI 160)]) (rest := []) ⟨hx, hb, hml, hown, hts⟩ (c_Row_bit l D cB h a n 1024 f 160 (by omega) (by omega)) (z_cV hN wd_563 wd_61 wd_560 hd_Row_bit rfl rfl ⟨Nat.le_of_ble_eq_true rfl, Nat.le_of_ble_eq_true rfl⟩ wd_561 wd_562) (z_preV (va_recv (ci := 0) (q0 := 0) hK hP rfl rfl) hPc hKc hN) rfl rfl hl.1 rfl (lv_room (Nat.le_of_ble_eq_true rfl)) d_Tables_useSwitch_24 ⟨Nat.le_of_ble_eq_true rfl, Nat.le_of_ble_eq_true rfl⟩) (fun r24 e24 => ?_)
      refine z_topi (w := if rw_bit f n 1024 160 = 1 then 1 else 0) e24 ?_
      refine lv_if_eq (tgt := 34) hx hb d_Tables_useSwitch_27 rfl (fun h27 => ?_) (fun h27 => ?_)
      · refine lv_iconst (v := 0) hx hb d_Tables_useSwitch_34 (by decide) ?_
        refine z_topi (w := (if swT f n then (1 : Int32) else 0)) (by first | exact (if_neg (fun z => b_0 h27 z.2)).symm | exact (if_pos ⟨b_0 (by first | exact h17 | exact Classical.not_not.mp h17), b_1 h27⟩).symm) ?_
        exact key17
      · refine lv_iconst (v := 1) hx hb d_Tables_useSwitch_30 (by decide) ?_
        refine lv_goto (tgt := 35) hx hb d_Tables_useSwitch_31 rfl ?_
        refine z_topi (w := (if swT f n then (1 : Int32) else 0)) (by first | exact (if_neg (fun z => b_0 h27 z.2)).symm | exact (if_pos ⟨b_0 (by first | exact h17 | exact Classical.not_not.mp h17), b_1 h27⟩).symm) ?_
        exact key17
  refine lv_istore (lv' := [(4, .int (if swT f n then (1 : Int32) else 0)), (3, .int (if rw_bit f n 1024 155 = 1 then 1 else 0)), (2, .int (if rw_bit f n 1024 154 = 1 then 1 else 0)), (0, .ref h), (1, .ref z.1)]) hx hb d_Tables_useSwitch_35 hl (by decide) rfl (fun ls hl => ?_)
  refine lv_iload_n hx hb d_Tables_useSwitch_37 rfl (lv_at hl 1 rfl) ?_
  suffices key38 : W p l e ({ frames := 6, cells := 3, slots := 18, locals := 124 }) s m ([.ref h, .ref z.1]).toArray below meth cd s.heap [] 0 0 (MQ below (va_Qv (fun (u : Int32 × WU9 × va_W) => swP f n z.2.2.2.2.2.2.2.1 z.2.2.2.2.2.2.1 Wl u.1 u.2.1.1 u.2.2 ∧ wok (u.2.2 ++ Q) u.2.1.2.2 u.2.1.1 ∧ u.2.1.1.length ≤ 6 ∧ obl u.2.1.1) (fun (u : Int32 × WU9 × va_W) t => zW D (A) ([(h, .inr (0, [.ref a, .int (nI n)])), (a, .inl (cB, 1024, .inl f)), (z.1, .inr (7, [.int z.2.1, .int (nI z.2.2.1), .int z.2.2.2.1, .int z.2.2.2.2.1, .ref z.2.2.2.2.2.1, .int u.1, .long z.2.2.2.2.2.2.2.1, .ref z.2.2.2.2.2.2.2.2]))] ++ (wlc cO e0 z.2.2.2.2.2.2.2.2 u.2.1.1.length u.2.1.2.1 u.2.1.2.2 ++ (u.2.2 ++ Q))) [(cB, .byte), (cO, .object "java/lang/Object")] t) (A)) ([.ref h, .ref z.1]).toArray s 3 18 (A)) (F0 m 58 ls [.int (nI (swA f n))]) by
    refine lv_if_eq (tgt := 46) hx hb d_Tables_useSwitch_38 rfl (fun h38 => ?_) (fun h38 => ?_)
    · refine lv_iload hx hb d_Tables_useSwitch_46 (lv_at hl 0 rfl) ?_
      refine lv_if_eq (tgt := 56) hx hb d_Tables_useSwitch_48 rfl (fun h48 => ?_) (fun h48 => ?_)
      · refine lv_bipush (v := 21) hx hb d_Tables_useSwitch_56 (by decide) ?_
        refine z_topi (w := (nI (swA f n))) (by unfold swA; rw [if_neg (b_0 h38)]; first | (rw [if_neg (b_0 h48)]; rfl) | (rw [if_pos (b_1 h48)]; rfl)) ?_
        exact key38
      · refine lv_bipush (v := 25) hx hb d_Tables_useSwitch_51 (by decide) ?_
        refine lv_goto (tgt := 58) hx hb d_Tables_useSwitch_53 rfl ?_
        refine z_topi (w := (nI (swA f n))) (by unfold swA; rw [if_neg (b_0 h38)]; first | (rw [if_neg (b_0 h48)]; rfl) | (rw [if_pos (b_1 h48)]; rfl)) ?_
        exact key38
    · refine lv_bipush (v := 20) hx hb d_Tables_useSwitch_41 (by decide) ?_
      refine lv_goto (tgt := 58) hx hb d_Tables_useSwitch_43 rfl ?_
      refine z_topi (w := (nI (swA f n))) (by unfold swA; rw [if_pos (b_1 h38)]; rfl) ?_
      exact key38
  refine lv_istore (lv' := [(5, .int (nI (swA f n))), (4, .int (if swT f n then (1 : Int32) else 0)), (3, .int (if rw_bit f n 1024 155 = 1 then 1 else 0)), (2, .int (if rw_bit f n 1024 154 = 1 then 1 else 0)), (0, .ref h), (1, .ref z.1)]) hx hb d_Tables_useSwitch_58 hl (by decide) rfl (fun ls hl => ?_)
  refine lv_iload_n hx hb d_Tables_useSwitch_60 rfl (lv_at hl 3 rfl) ?_
  suffices key61 : W p l e ({ frames := 6, cells := 3, slots := 18, locals := 124 }) s m ([.ref h, .ref z.1]).toArray below meth cd s.heap [] 0 0 (MQ below (va_Qv (fun (u : Int32 × WU9 × va_W) => swP f n z.2.2.2.2.2.2.2.1 z.2.2.2.2.2.2.1 Wl u.1 u.2.1.1 u.2.2 ∧ wok (u.2.2 ++ Q) u.2.1.2.2 u.2.1.1 ∧ u.2.1.1.length ≤ 6 ∧ obl u.2.1.1) (fun (u : Int32 × WU9 × va_W) t => zW D (A) ([(h, .inr (0, [.ref a, .int (nI n)])), (a, .inl (cB, 1024, .inl f)), (z.1, .inr (7, [.int z.2.1, .int (nI z.2.2.1), .int z.2.2.2.1, .int z.2.2.2.2.1, .ref z.2.2.2.2.2.1, .int u.1, .long z.2.2.2.2.2.2.2.1, .ref z.2.2.2.2.2.2.2.2]))] ++ (wlc cO e0 z.2.2.2.2.2.2.2.2 u.2.1.1.length u.2.1.2.1 u.2.1.2.2 ++ (u.2.2 ++ Q))) [(cB, .byte), (cO, .object "java/lang/Object")] t) (A)) ([.ref h, .ref z.1]).toArray s 3 18 (A)) (F0 m 73 ls [.int (nI (if bt9 f n 154 then swA f n + 5 else swA f n))]) by
    refine lv_if_eq (tgt := 71) hx hb d_Tables_useSwitch_61 rfl (fun h61 => ?_) (fun h61 => ?_)
    · refine lv_iload hx hb d_Tables_useSwitch_71 (lv_at hl 0 rfl) ?_
      refine z_topi (w := (nI (if bt9 f n 154 then swA f n + 5 else swA f n))) (by rw [if_neg (b_0 h61)]) ?_
      exact key61
    · refine lv_iload hx hb d_Tables_useSwitch_64 (lv_at hl 0 rfl) ?_
      refine lv_iconst (v := 5) hx hb d_Tables_useSwitch_66 (by decide) ?_
      refine lv_iadd hx hb d_Tables_useSwitch_67 ?_
      refine z_topi (w := nI (swA f n + 5)) (nI_add _ 5) ?_
      refine lv_goto (tgt := 73) hx hb d_Tables_useSwitch_68 rfl ?_
      refine z_topi (w := (nI (if bt9 f n 154 then swA f n + 5 else swA f n))) (by rw [if_pos (b_1 h61)]) ?_
      exact key61
  refine lv_iconst (v := 4) hx hb d_Tables_useSwitch_73 (by decide) ?_
  refine lv_iadd hx hb d_Tables_useSwitch_74 ?_
  refine z_topi (w := nI (swE f n)) (nI_add _ 4) ?_
  refine lv_istore (lv' := [(6, .int (nI (swE f n))), (5, .int (nI (swA f n))), (4, .int (if swT f n then (1 : Int32) else 0)), (3, .int (if rw_bit f n 1024 155 = 1 then 1 else 0)), (2, .int (if rw_bit f n 1024 154 = 1 then 1 else 0)), (0, .ref h), (1, .ref z.1)]) hx hb d_Tables_useSwitch_75 hl (by decide) rfl (fun ls hl => ?_)
  refine lv_aload_n hx hb d_Tables_useSwitch_77 rfl (lv_at hl 5 rfl) ?_
  refine lv_sipush (v := 153) hx hb d_Tables_useSwitch_78 (by decide) ?_
  have hPc := hP.sub (ws' := [(h, .inr (0, [.ref a, .int (nI n)])), (a, .inl (cB, 1024, .inl f))]) [0, 1] rfl
  have hKc := hK.sub (tys' := [(cB, .byte)]) [0] rfl
  refine z_ci (va_runV (As := [.int (nI 153)]) (rest := []) ⟨hx, hb, hml, hown, hts⟩ (c_Row_bit l D cB h a n 1024 f 153 (by omega) (by omega)) (z_cV hN wd_563 wd_61 wd_560 hd_Row_bit rfl rfl ⟨Nat.le_of_ble_eq_true rfl, Nat.le_of_ble_eq_true rfl⟩ wd_561 wd_562) (z_preV (va_recv (ci := 0) (q0 := 0) hK hP rfl rfl) hPc hKc hN) rfl rfl hl.1 rfl (lv_room (Nat.le_of_ble_eq_true rfl)) d_Tables_useSwitch_81 ⟨Nat.le_of_ble_eq_true rfl, Nat.le_of_ble_eq_true rfl⟩) (fun r81 e81 => ?_)
  refine z_topi (w := if rw_bit f n 1024 153 = 1 then 1 else 0) e81 ?_
  refine lv_if_eq (tgt := 96) hx hb d_Tables_useSwitch_84 rfl (fun h84 => ?_) (fun h84 => ?_)
  · have h84 := b_0 h84
    have hP9 := hP.part (cx := [(h, .inr (0, [.ref a, .int (nI n)])), (a, .inl (cB, 1024, .inl f)), (z.1, .inr (7, [.int z.2.1, .int (nI z.2.2.1), .int z.2.2.2.1, .int z.2.2.2.2.1, .ref z.2.2.2.2.2.1, .int z.2.2.2.2.2.2.1, .long z.2.2.2.2.2.2.2.1, .ref z.2.2.2.2.2.2.2.2]))]) [0, 1, 2] rfl
    have hD9 := hD.part (cx := [(h, .inr (0, [.ref a, .int (nI n)])), (a, .inl (cB, 1024, .inl f)), (z.1, .inr (7, [.int z.2.1, .int (nI z.2.2.1), .int z.2.2.2.1, .int z.2.2.2.2.1, .ref z.2.2.2.2.2.1, .int z.2.2.2.2.2.2.1, .long z.2.2.2.2.2.2.2.1, .ref z.2.2.2.2.2.2.2.2]))]) [0, 1, 2] (by decide) rfl
    have hK9 := hK.sub (tys' := [(cB, .byte), (cO, .object "java/lang/Object")]) [0, 1] rfl
    refine W.widen (k := 3) (n := 18) (by omega) (by omega) ?_
    exact W.vret hx hb hr (fun t ht hW => ⟨⟨(z.2.2.2.2.2.2.1, (Wl, mo, wst), []), rfl, ⟨Or.inl ⟨fun z9 => by first | exact h84 z9.1 | exact h93 z9.2, rfl, rfl, rfl⟩, hwk, hW6, hbo⟩, ⟨by rw [ht]; exact hP9, va_K.moved hW.alike hK9, hD9⟩⟩, hS.F ht⟩) hS.2.2 d_Tables_useSwitch_96
  · have h84 := b_1 h84
    refine lv_iload hx hb d_Tables_useSwitch_87 (lv_at hl 0 rfl) ?_
    refine lv_aload_n hx hb d_Tables_useSwitch_89 rfl (lv_at hl 5 rfl) ?_
    refine va_getN (D := D) (ci := 0) (v := .int (nI n)) (C := R_Row) (T := F_Row) (N := 2) hx hb hts i_Row hown hK hP 0 rfl rfl 1 (by decide) (hts _ wd_112) (fun _ h9 => h9) rfl d_Tables_useSwitch_90 ?_
    refine lv_icmp_le (tgt := 97) hx hb d_Tables_useSwitch_93 rfl (fun h93 => ?_) (fun h93 => ?_)
    · have h93 := (nI_leI (by omega) (by omega)).mp h93
      refine lv_aload_n hx hb d_Tables_useSwitch_97 rfl (lv_at hl 5 rfl) ?_
      refine lv_bipush (v := 112) hx hb d_Tables_useSwitch_98 (by decide) ?_
      refine lv_bipush (v := 32) hx hb d_Tables_useSwitch_100 (by decide) ?_
      have hPc := hP.sub (ws' := [(h, .inr (0, [.ref a, .int (nI n)])), (a, .inl (cB, 1024, .inl f))]) [0, 1] rfl
      have hKc := hK.sub (tys' := [(cB, .byte)]) [0] rfl
      refine z_cl (va_runV (As := [.int (nI 112), .int (nI 32)]) (rest := []) ⟨hx, hb, hml, hown, hts⟩ (c_Row_bits l D cB h a n 1024 f 112 32 (by omega) (by omega)) (z_cV hN wd_280 wd_61 wd_564 hd_Row_bits rfl rfl ⟨Nat.le_of_ble_eq_true rfl, Nat.le_of_ble_eq_true rfl⟩ wd_278 wd_279) (z_preV (va_recv (ci := 0) (q0 := 0) hK hP rfl rfl) hPc hKc hN) rfl rfl hl.1 rfl (lv_room (Nat.le_of_ble_eq_true rfl)) d_Tables_useSwitch_102 ⟨Nat.le_of_ble_eq_true rfl, Nat.le_of_ble_eq_true rfl⟩) (fun r102 e102 => ?_)
      refine z_topl (w := rw_bits f n 1024 112 32) e102 ?_
      refine lv_l2i (v := (rw_bits f n 1024 112 32).toInt32) hx hb d_Tables_useSwitch_105 rfl ?_
      refine lv_istore (lv' := [(7, .int ((rw_bits f n 1024 112 32).toInt32)), (6, .int (nI (swE f n))), (5, .int (nI (swA f n))), (4, .int (if swT f n then (1 : Int32) else 0)), (3, .int (if rw_bit f n 1024 155 = 1 then 1 else 0)), (2, .int (if rw_bit f n 1024 154 = 1 then 1 else 0)), (0, .ref h), (1, .ref z.1)]) hx hb d_Tables_useSwitch_106 hl (by decide) rfl (fun ls hl => ?_)
      refine lv_iload_n hx hb d_Tables_useSwitch_108 rfl (lv_at hl 5 rfl) ?_
      suffices key109 : W p l e ({ frames := 6, cells := 3, slots := 18, locals := 124 }) s m ([.ref h, .ref z.1]).toArray below meth cd s.heap [] 0 0 (MQ below (va_Qv (fun (u : Int32 × WU9 × va_W) => swP f n z.2.2.2.2.2.2.2.1 z.2.2.2.2.2.2.1 Wl u.1 u.2.1.1 u.2.2 ∧ wok (u.2.2 ++ Q) u.2.1.2.2 u.2.1.1 ∧ u.2.1.1.length ≤ 6 ∧ obl u.2.1.1) (fun (u : Int32 × WU9 × va_W) t => zW D (A) ([(h, .inr (0, [.ref a, .int (nI n)])), (a, .inl (cB, 1024, .inl f)), (z.1, .inr (7, [.int z.2.1, .int (nI z.2.2.1), .int z.2.2.2.1, .int z.2.2.2.2.1, .ref z.2.2.2.2.2.1, .int u.1, .long z.2.2.2.2.2.2.2.1, .ref z.2.2.2.2.2.2.2.2]))] ++ (wlc cO e0 z.2.2.2.2.2.2.2.2 u.2.1.1.length u.2.1.2.1 u.2.1.2.2 ++ (u.2.2 ++ Q))) [(cB, .byte), (cO, .object "java/lang/Object")] t) (A)) ([.ref h, .ref z.1]).toArray s 3 18 (A)) (F0 m 129 ls [.int (if swR f n then (1 : Int32) else 0)]) by
        refine lv_if_eq (tgt := 128) hx hb d_Tables_useSwitch_109 rfl (fun h109 => ?_) (fun h109 => ?_)
        · refine lv_iconst (v := 0) hx hb d_Tables_useSwitch_128 (by decide) ?_
          refine z_topi (w := (if swR f n then (1 : Int32) else 0)) ((if_neg (fun z => b_0 h109 z.1)).symm) ?_
          exact key109
        · refine lv_aload_n hx hb d_Tables_useSwitch_112 rfl (lv_at hl 6 rfl) ?_
          refine lv_bipush (v := 8) hx hb d_Tables_useSwitch_113 (by decide) ?_
          refine lv_iload hx hb d_Tables_useSwitch_115 (lv_at hl 2 rfl) ?_
          refine lv_imul hx hb d_Tables_useSwitch_117 ?_
          refine z_topi (w := nI (8 * swA f n)) (pk_mul 8 _) ?_
          have hPc := hP.sub (ws' := [(h, .inr (0, [.ref a, .int (nI n)])), (a, .inl (cB, 1024, .inl f))]) [0, 1] rfl
          have hKc := hK.sub (tys' := [(cB, .byte)]) [0] rfl
          refine z_ci (va_runV (As := [.int (nI (8 * swA f n))]) (rest := []) ⟨hx, hb, hml, hown, hts⟩ (c_Row_bit l D cB h a n 1024 f (8 * swA f n) (by omega) (by omega)) (z_cV hN wd_563 wd_61 wd_560 hd_Row_bit rfl rfl ⟨Nat.le_of_ble_eq_true rfl, Nat.le_of_ble_eq_true rfl⟩ wd_561 wd_562) (z_preV (va_recv (ci := 0) (q0 := 0) hK hP rfl rfl) hPc hKc hN) rfl rfl hl.1 rfl (lv_room (Nat.le_of_ble_eq_true rfl)) d_Tables_useSwitch_118 ⟨Nat.le_of_ble_eq_true rfl, Nat.le_of_ble_eq_true rfl⟩) (fun r118 e118 => ?_)
          refine z_topi (w := if rw_bit f n 1024 (8 * swA f n) = 1 then 1 else 0) e118 ?_
          refine lv_if_eq (tgt := 128) hx hb d_Tables_useSwitch_121 rfl (fun h121 => ?_) (fun h121 => ?_)
          · refine lv_iconst (v := 0) hx hb d_Tables_useSwitch_128 (by decide) ?_
            refine z_topi (w := (if swR f n then (1 : Int32) else 0)) (by first | exact (if_neg (fun z => b_0 h121 z.2)).symm | exact (if_pos ⟨b_1 h109, b_1 h121⟩).symm) ?_
            exact key109
          · refine lv_iconst (v := 1) hx hb d_Tables_useSwitch_124 (by decide) ?_
            refine lv_goto (tgt := 129) hx hb d_Tables_useSwitch_125 rfl ?_
            refine z_topi (w := (if swR f n then (1 : Int32) else 0)) (by first | exact (if_neg (fun z => b_0 h121 z.2)).symm | exact (if_pos ⟨b_1 h109, b_1 h121⟩).symm) ?_
            exact key109
      refine lv_istore (lv' := [(8, .int (if swR f n then (1 : Int32) else 0)), (7, .int ((rw_bits f n 1024 112 32).toInt32)), (6, .int (nI (swE f n))), (5, .int (nI (swA f n))), (4, .int (if swT f n then (1 : Int32) else 0)), (3, .int (if rw_bit f n 1024 155 = 1 then 1 else 0)), (2, .int (if rw_bit f n 1024 154 = 1 then 1 else 0)), (0, .ref h), (1, .ref z.1)]) hx hb d_Tables_useSwitch_129 hl (by decide) rfl (fun ls hl => ?_)
      refine lv_iload hx hb d_Tables_useSwitch_131 (lv_at hl 0 rfl) ?_
      suffices key133 : W p l e ({ frames := 6, cells := 3, slots := 18, locals := 124 }) s m ([.ref h, .ref z.1]).toArray below meth cd s.heap [] 0 0 (MQ below (va_Qv (fun (u : Int32 × WU9 × va_W) => swP f n z.2.2.2.2.2.2.2.1 z.2.2.2.2.2.2.1 Wl u.1 u.2.1.1 u.2.2 ∧ wok (u.2.2 ++ Q) u.2.1.2.2 u.2.1.1 ∧ u.2.1.1.length ≤ 6 ∧ obl u.2.1.1) (fun (u : Int32 × WU9 × va_W) t => zW D (A) ([(h, .inr (0, [.ref a, .int (nI n)])), (a, .inl (cB, 1024, .inl f)), (z.1, .inr (7, [.int z.2.1, .int (nI z.2.2.1), .int z.2.2.2.1, .int z.2.2.2.2.1, .ref z.2.2.2.2.2.1, .int u.1, .long z.2.2.2.2.2.2.2.1, .ref z.2.2.2.2.2.2.2.2]))] ++ (wlc cO e0 z.2.2.2.2.2.2.2.2 u.2.1.1.length u.2.1.2.1 u.2.1.2.2 ++ (u.2.2 ++ Q))) [(cB, .byte), (cO, .object "java/lang/Object")] t) (A)) ([.ref h, .ref z.1]).toArray s 3 18 (A)) (F0 m 156 ls [.long (swL f n)]) by
        refine lv_if_eq (tgt := 153) hx hb d_Tables_useSwitch_133 rfl (fun h133 => ?_) (fun h133 => ?_)
        · refine lv_ldc2 hx hb hown (hts _ wd_662) d_Tables_useSwitch_153 ?_
          refine z_topl (w := (swL f n)) (by unfold swL; rw [if_neg (b_0 h133)]) ?_
          exact key133
        · refine lv_aload_n hx hb d_Tables_useSwitch_136 rfl (lv_at hl 7 rfl) ?_
          refine lv_bipush (v := 8) hx hb d_Tables_useSwitch_137 (by decide) ?_
          refine lv_iload hx hb d_Tables_useSwitch_139 (lv_at hl 3 rfl) ?_
          refine lv_imul hx hb d_Tables_useSwitch_141 ?_
          refine z_topi (w := nI (8 * swA f n)) (pk_mul 8 _) ?_
          refine lv_bipush (v := 7) hx hb d_Tables_useSwitch_142 (by decide) ?_
          refine lv_iadd hx hb d_Tables_useSwitch_144 ?_
          refine z_topi (w := nI (8 * swA f n + 7)) (nI_add _ 7) ?_
          refine lv_bipush (v := 33) hx hb d_Tables_useSwitch_145 (by decide) ?_
          have hPc := hP.sub (ws' := [(h, .inr (0, [.ref a, .int (nI n)])), (a, .inl (cB, 1024, .inl f))]) [0, 1] rfl
          have hKc := hK.sub (tys' := [(cB, .byte)]) [0] rfl
          refine z_cl (va_runV (As := [.int (nI (8 * swA f n + 7)), .int (nI 33)]) (rest := []) ⟨hx, hb, hml, hown, hts⟩ (c_Row_bits l D cB h a n 1024 f (8 * swA f n + 7) 33 (by omega) (by omega)) (z_cV hN wd_280 wd_61 wd_564 hd_Row_bits rfl rfl ⟨Nat.le_of_ble_eq_true rfl, Nat.le_of_ble_eq_true rfl⟩ wd_278 wd_279) (z_preV (va_recv (ci := 0) (q0 := 0) hK hP rfl rfl) hPc hKc hN) rfl rfl hl.1 rfl (lv_room (Nat.le_of_ble_eq_true rfl)) d_Tables_useSwitch_147 ⟨Nat.le_of_ble_eq_true rfl, Nat.le_of_ble_eq_true rfl⟩) (fun r147 e147 => ?_)
          refine z_topl (w := rw_bits f n 1024 (8 * swA f n + 7) 33) e147 ?_
          refine lv_goto (tgt := 156) hx hb d_Tables_useSwitch_150 rfl ?_
          refine z_topl (w := (swL f n)) (by unfold swL; rw [if_pos (b_1 h133)]) ?_
          exact key133
      refine lv_lstore (lv' := [(9, .long (swL f n)), (8, .int (if swR f n then (1 : Int32) else 0)), (7, .int ((rw_bits f n 1024 112 32).toInt32)), (6, .int (nI (swE f n))), (5, .int (nI (swA f n))), (4, .int (if swT f n then (1 : Int32) else 0)), (3, .int (if rw_bit f n 1024 155 = 1 then 1 else 0)), (2, .int (if rw_bit f n 1024 154 = 1 then 1 else 0)), (0, .ref h), (1, .ref z.1)]) hx hb d_Tables_useSwitch_156 hl (by decide) rfl (fun ls hl => ?_)
      refine lv_aload_n hx hb d_Tables_useSwitch_158 rfl (lv_at hl 8 rfl) ?_
      refine lv_sipush (v := 152) hx hb d_Tables_useSwitch_159 (by decide) ?_
      have hPc := hP.sub (ws' := [(h, .inr (0, [.ref a, .int (nI n)])), (a, .inl (cB, 1024, .inl f))]) [0, 1] rfl
      have hKc := hK.sub (tys' := [(cB, .byte)]) [0] rfl
      refine z_ci (va_runV (As := [.int (nI 152)]) (rest := []) ⟨hx, hb, hml, hown, hts⟩ (c_Row_bit l D cB h a n 1024 f 152 (by omega) (by omega)) (z_cV hN wd_563 wd_61 wd_560 hd_Row_bit rfl rfl ⟨Nat.le_of_ble_eq_true rfl, Nat.le_of_ble_eq_true rfl⟩ wd_561 wd_562) (z_preV (va_recv (ci := 0) (q0 := 0) hK hP rfl rfl) hPc hKc hN) rfl rfl hl.1 rfl (lv_room (Nat.le_of_ble_eq_true rfl)) d_Tables_useSwitch_162 ⟨Nat.le_of_ble_eq_true rfl, Nat.le_of_ble_eq_true rfl⟩) (fun r162 e162 => ?_)
      refine z_topi (w := if rw_bit f n 1024 152 = 1 then 1 else 0) e162 ?_
      refine lv_istore (lv' := [(11, .int (if rw_bit f n 1024 152 = 1 then 1 else 0)), (9, .long (swL f n)), (8, .int (if swR f n then (1 : Int32) else 0)), (7, .int ((rw_bits f n 1024 112 32).toInt32)), (6, .int (nI (swE f n))), (5, .int (nI (swA f n))), (4, .int (if swT f n then (1 : Int32) else 0)), (3, .int (if rw_bit f n 1024 155 = 1 then 1 else 0)), (2, .int (if rw_bit f n 1024 154 = 1 then 1 else 0)), (0, .ref h), (1, .ref z.1)]) hx hb d_Tables_useSwitch_165 hl (by decide) rfl (fun ls hl => ?_)
      refine lv_iload hx hb d_Tables_useSwitch_167 (lv_at hl 6 rfl) ?_
      refine lv_if_eq (tgt := 218) hx hb d_Tables_useSwitch_169 rfl (fun h169 => ?_) (fun h169 => ?_)
      · have h169 := b_0 h169
        refine lv_aload_n hx hb d_Tables_useSwitch_218 rfl (lv_at hl 10 rfl) ?_
        refine va_new (ci := 6) (fs := [.long 0, .int 0, .int 0, .long 0]) (C := R_Order) (T := F_Order) (N := 4) hx hb hts i_Order t_Order t_Order_ok hown (hts _ wd_664) (hts _ wd_436) (hts _ wd_78) hK hP hD hS hA rfl (fs_Order) (by show 0 + 1 ≤ 3; omega) (by show 0 + 4 ≤ 18; omega) d_Tables_useSwitch_219 (fun q219 H hP hD hS => ?_)
        have hP := hP.swap
        have hD := hD.swap
        have hP : va_P D classes ([(h, .inr (0, [.ref a, .int (nI n)])), (a, .inl (cB, 1024, .inl f)), (z.1, .inr (7, [.int z.2.1, .int (nI z.2.2.1), .int z.2.2.2.1, .int z.2.2.2.2.1, .ref z.2.2.2.2.2.1, .int z.2.2.2.2.2.2.1, .long z.2.2.2.2.2.2.2.1, .ref z.2.2.2.2.2.2.2.2])), (q219, .inr (6, [.long 0, .int 0, .int 0, .long 0]))] ++ (wlc cO e0 z.2.2.2.2.2.2.2.2 Wl.length mo wst ++ Q)) H := hP
        have hD : va_D A ([(h, .inr (0, [.ref a, .int (nI n)])), (a, .inl (cB, 1024, .inl f)), (z.1, .inr (7, [.int z.2.1, .int (nI z.2.2.1), .int z.2.2.2.1, .int z.2.2.2.2.1, .ref z.2.2.2.2.2.1, .int z.2.2.2.2.2.2.1, .long z.2.2.2.2.2.2.2.1, .ref z.2.2.2.2.2.2.2.2])), (q219, .inr (6, [.long 0, .int 0, .int 0, .long 0]))] ++ (wlc cO e0 z.2.2.2.2.2.2.2.2 Wl.length mo wst ++ Q)) := hD
        refine lv_dup hx hb d_Tables_useSwitch_222 rfl ?_
        refine lv_aload_n hx hb d_Tables_useSwitch_223 rfl (lv_at hl 10 rfl) ?_
        refine va_getN (D := D) (ci := 7) (v := .long z.2.2.2.2.2.2.2.1) (C := R_Programme) (T := F_Programme) (N := 8) hx hb hts i_Programme hown hK hP 2 rfl rfl 6 (by decide) (hts _ wd_594) (fun _ h9 => h9) rfl d_Tables_useSwitch_224 ?_
        refine lv_iload hx hb d_Tables_useSwitch_227 (lv_at hl 3 rfl) ?_
        refine lv_iload hx hb d_Tables_useSwitch_229 (lv_at hl 0 rfl) ?_
        refine lv_lload hx hb d_Tables_useSwitch_231 (lv_at hl 1 rfl) ?_
        have hPc := hP.sub (ws' := [(q219, .inr (6, [.long 0, .int 0, .int 0, .long 0]))]) [3] rfl
        have hKc := hK.sub (tys' := []) [] rfl
        have hDc := hD.sub (ws' := [(q219, .inr (6, [.long 0, .int 0, .int 0, .long 0]))]) [3] (by decide) rfl
        have hFc := va_free (wc := [(q219, .inr (6, [.long 0, .int 0, .int 0, .long 0]))]) hD hS hA [3] rfl
        refine va_callv (va_runI (As := [.long z.2.2.2.2.2.2.2.1, .int ((rw_bits f n 1024 112 32).toInt32), .int (if rw_bit f n 1024 152 = 1 then 1 else 0), .long (swL f n)]) (rest := [.ref q219, .ref z.1]) ⟨hx, hb, hml, hown, hts⟩ (c_Order_init l D H.size q219 z.2.2.2.2.2.2.2.1 (swL f n) ((rw_bits f n 1024 112 32).toInt32) (if rw_bit f n 1024 152 = 1 then 1 else 0) b01) (z_cI hN wd_439 wd_78 wd_665 hd_Order_init rfl rfl ⟨Nat.le_of_ble_eq_true rfl, Nat.le_of_ble_eq_true rfl⟩ wd_438 rfl) (z_preSm hPc hKc hN hDc) rfl rfl hl.1 rfl (lv_room (Nat.le_of_ble_eq_true rfl)) d_Tables_useSwitch_233 ⟨Nat.le_of_ble_eq_true rfl, Nat.le_of_ble_eq_true rfl⟩) hS (fun q _ h => hFc q h) hFc (fun u233 t H locs ht hvm e233 hB hz1 hk1 hS => ?_)
        obtain ⟨hP1, hK1, hD1⟩ := hB
        rw [ht] at hP1
        obtain ⟨hP, hD⟩ := va_joinQ (cx := [(q219, .inr (6, [.long 0, .int 0, .int 0, .long 0]))]) (wr := [(h, .inr (0, [.ref a, .int (nI n)])), (a, .inl (cB, 1024, .inl f)), (z.1, .inr (7, [.int z.2.1, .int (nI z.2.2.1), .int z.2.2.2.1, .int z.2.2.2.2.1, .ref z.2.2.2.2.2.1, .int z.2.2.2.2.2.2.1, .long z.2.2.2.2.2.2.2.1, .ref z.2.2.2.2.2.2.2.2]))]) (w1 := [(q219, .inr (6, [.long z.2.2.2.2.2.2.2.1, .int ((rw_bits f n 1024 112 32).toInt32), .int (if rw_bit f n 1024 152 = 1 then 1 else 0), .long (swL f n)]))]) hP hD [3] [0, 1, 2] rfl rfl (by decide) (by decide) hk1 hFc hP1 hD1
        clear hk1 hP1 hD1 hFc hPc hDc hz1
        have hP : va_P D classes ([(h, .inr (0, [.ref a, .int (nI n)])), (a, .inl (cB, 1024, .inl f)), (z.1, .inr (7, [.int z.2.1, .int (nI z.2.2.1), .int z.2.2.2.1, .int z.2.2.2.2.1, .ref z.2.2.2.2.2.1, .int z.2.2.2.2.2.2.1, .long z.2.2.2.2.2.2.2.1, .ref z.2.2.2.2.2.2.2.2])), (q219, .inr (6, [.long z.2.2.2.2.2.2.2.1, .int ((rw_bits f n 1024 112 32).toInt32), .int (if rw_bit f n 1024 152 = 1 then 1 else 0), .long (swL f n)]))] ++ (wlc cO e0 z.2.2.2.2.2.2.2.2 Wl.length mo wst ++ Q)) H := hP
        have hD : va_D A ([(h, .inr (0, [.ref a, .int (nI n)])), (a, .inl (cB, 1024, .inl f)), (z.1, .inr (7, [.int z.2.1, .int (nI z.2.2.1), .int z.2.2.2.1, .int z.2.2.2.2.1, .ref z.2.2.2.2.2.1, .int z.2.2.2.2.2.2.1, .long z.2.2.2.2.2.2.2.1, .ref z.2.2.2.2.2.2.2.2])), (q219, .inr (6, [.long z.2.2.2.2.2.2.2.1, .int ((rw_bits f n 1024 112 32).toInt32), .int (if rw_bit f n 1024 152 = 1 then 1 else 0), .long (swL f n)]))] ++ (wlc cO e0 z.2.2.2.2.2.2.2.2 Wl.length mo wst ++ Q)) := hD
        have hP := z_Pp (sw_perm (X := [(h, .inr (0, [.ref a, .int (nI n)])), (a, .inl (cB, 1024, .inl f)), (z.1, .inr (7, [.int z.2.1, .int (nI z.2.2.1), .int z.2.2.2.1, .int z.2.2.2.2.1, .ref z.2.2.2.2.2.1, .int z.2.2.2.2.2.2.1, .long z.2.2.2.2.2.2.2.1, .ref z.2.2.2.2.2.2.2.2]))]) (o := (q219, orE (swO f n z.2.2.2.2.2.2.2.1)))) hP
        have hD := z_Dp (sw_perm (X := [(h, .inr (0, [.ref a, .int (nI n)])), (a, .inl (cB, 1024, .inl f)), (z.1, .inr (7, [.int z.2.1, .int (nI z.2.2.1), .int z.2.2.2.1, .int z.2.2.2.2.1, .ref z.2.2.2.2.2.1, .int z.2.2.2.2.2.2.1, .long z.2.2.2.2.2.2.2.1, .ref z.2.2.2.2.2.2.2.2]))]) (o := (q219, orE (swO f n z.2.2.2.2.2.2.2.1)))) hD
        have hP : va_P D classes ([(h, .inr (0, [.ref a, .int (nI n)])), (a, .inl (cB, 1024, .inl f)), (z.1, .inr (7, [.int z.2.1, .int (nI z.2.2.1), .int z.2.2.2.1, .int z.2.2.2.2.1, .ref z.2.2.2.2.2.1, .int z.2.2.2.2.2.2.1, .long z.2.2.2.2.2.2.2.1, .ref z.2.2.2.2.2.2.2.2]))] ++ (wlc cO e0 z.2.2.2.2.2.2.2.2 Wl.length mo wst ++ ((q219, orE (swO f n z.2.2.2.2.2.2.2.1)) :: Q))) H := hP
        have hD : va_D A ([(h, .inr (0, [.ref a, .int (nI n)])), (a, .inl (cB, 1024, .inl f)), (z.1, .inr (7, [.int z.2.1, .int (nI z.2.2.1), .int z.2.2.2.1, .int z.2.2.2.2.1, .ref z.2.2.2.2.2.1, .int z.2.2.2.2.2.2.1, .long z.2.2.2.2.2.2.2.1, .ref z.2.2.2.2.2.2.2.2]))] ++ (wlc cO e0 z.2.2.2.2.2.2.2.2 Wl.length mo wst ++ ((q219, orE (swO f n z.2.2.2.2.2.2.2.1)) :: Q))) := hD
        have hPc := hP.part (cx := [(z.1, .inr (7, [.int z.2.1, .int (nI z.2.2.1), .int z.2.2.2.1, .int z.2.2.2.2.1, .ref z.2.2.2.2.2.1, .int z.2.2.2.2.2.2.1, .long z.2.2.2.2.2.2.2.1, .ref z.2.2.2.2.2.2.2.2]))]) [2] rfl
        have hKc := hK.sub (tys' := [(cO, .object "java/lang/Object")]) [1] rfl
        have hDc := hD.part (cx := [(z.1, .inr (7, [.int z.2.1, .int (nI z.2.2.1), .int z.2.2.2.1, .int z.2.2.2.2.1, .ref z.2.2.2.2.2.1, .int z.2.2.2.2.2.2.1, .long z.2.2.2.2.2.2.2.1, .ref z.2.2.2.2.2.2.2.2]))]) [2] (by decide) rfl
        have hFc := va_freeP (cx := [(z.1, .inr (7, [.int z.2.1, .int (nI z.2.2.1), .int z.2.2.2.1, .int z.2.2.2.2.1, .ref z.2.2.2.2.2.1, .int z.2.2.2.2.2.2.1, .long z.2.2.2.2.2.2.2.1, .ref z.2.2.2.2.2.2.2.2]))]) hD hS hA [2] rfl
        refine va_callv (va_runV (As := [.ref q219]) (rest := []) ⟨hx, hb, hml, hown, hts⟩ (c_Programme_obey l D B0 hG H.size cO e0 z mo wst Wl ((q219, orE (swO f n z.2.2.2.2.2.2.2.1)) :: Q) q219 (swO f n z.2.2.2.2.2.2.2.1) he0 (wk_mono hwk (fun y hy => List.mem_cons_of_mem _ hy)) hW6 List.mem_cons_self b01) (z_cV hN wd_434 wd_82 wd_674 hd_Programme_obey rfl rfl ⟨Nat.le_of_ble_eq_true rfl, Nat.le_of_ble_eq_true rfl⟩ wd_432 wd_433) (z_preVo (va_recv (ci := 7) (q0 := 2) hK hP rfl rfl) hPc hKc hN hDc hO hS hAO) rfl rfl hl.1 rfl (lv_room (Nat.le_of_ble_eq_true rfl)) d_Tables_useSwitch_236 ⟨Nat.le_of_ble_eq_true rfl, Nat.le_of_ble_eq_true rfl⟩) hS (fun q _ h => hFc q h) hFc (fun k9 t H locs ht hvm e236 hB hz1 hk1 hS => ?_)
        obtain ⟨hP1, hK1, hD1⟩ := hB
        rw [ht] at hP1
        obtain ⟨hP, hD⟩ := va_joinP (wr := [(h, .inr (0, [.ref a, .int (nI n)])), (a, .inl (cB, 1024, .inl f))]) (rx := [(z.1, .inr (7, [.int z.2.1, .int (nI z.2.2.1), .int z.2.2.2.1, .int z.2.2.2.2.1, .ref z.2.2.2.2.2.1, .int ((swO f n z.2.2.2.2.2.2.2.1).2.2.1), .long z.2.2.2.2.2.2.2.1, .ref z.2.2.2.2.2.2.2.2]))]) hP hD [2] [0, 1] rfl rfl (by decide) (by decide) hk1 hFc hP1 hD1
        clear hk1 hP1 hD1 hFc hPc hDc hz1
        have hP : va_P D classes ([(h, .inr (0, [.ref a, .int (nI n)])), (a, .inl (cB, 1024, .inl f)), (z.1, .inr (7, [.int z.2.1, .int (nI z.2.2.1), .int z.2.2.2.1, .int z.2.2.2.2.1, .ref z.2.2.2.2.2.1, .int ((swO f n z.2.2.2.2.2.2.2.1).2.2.1), .long z.2.2.2.2.2.2.2.1, .ref z.2.2.2.2.2.2.2.2]))] ++ (wlc cO e0 z.2.2.2.2.2.2.2.2 k9.1.1.length k9.1.2.1 k9.1.2.2 ++ (onw k9.2 ++ ((q219, orE (swO f n z.2.2.2.2.2.2.2.1)) :: Q)))) H := hP
        have hD : va_D A ([(h, .inr (0, [.ref a, .int (nI n)])), (a, .inl (cB, 1024, .inl f)), (z.1, .inr (7, [.int z.2.1, .int (nI z.2.2.1), .int z.2.2.2.1, .int z.2.2.2.2.1, .ref z.2.2.2.2.2.1, .int ((swO f n z.2.2.2.2.2.2.2.1).2.2.1), .long z.2.2.2.2.2.2.2.1, .ref z.2.2.2.2.2.2.2.2]))] ++ (wlc cO e0 z.2.2.2.2.2.2.2.2 k9.1.1.length k9.1.2.1 k9.1.2.2 ++ (onw k9.2 ++ ((q219, orE (swO f n z.2.2.2.2.2.2.2.1)) :: Q)))) := hD
        have hP : va_P D classes ([(h, .inr (0, [.ref a, .int (nI n)])), (a, .inl (cB, 1024, .inl f)), (z.1, .inr (7, [.int z.2.1, .int (nI z.2.2.1), .int z.2.2.2.1, .int z.2.2.2.2.1, .ref z.2.2.2.2.2.1, .int ((swO f n z.2.2.2.2.2.2.2.1).2.2.1), .long z.2.2.2.2.2.2.2.1, .ref z.2.2.2.2.2.2.2.2]))] ++ (wlc cO e0 z.2.2.2.2.2.2.2.2 k9.1.1.length k9.1.2.1 k9.1.2.2 ++ ((onw k9.2 ++ [(q219, orE (swO f n z.2.2.2.2.2.2.2.1))]) ++ Q))) H := by rw [List.append_assoc (onw k9.2)]; exact hP
        have hD : va_D A ([(h, .inr (0, [.ref a, .int (nI n)])), (a, .inl (cB, 1024, .inl f)), (z.1, .inr (7, [.int z.2.1, .int (nI z.2.2.1), .int z.2.2.2.1, .int z.2.2.2.2.1, .ref z.2.2.2.2.2.1, .int ((swO f n z.2.2.2.2.2.2.2.1).2.2.1), .long z.2.2.2.2.2.2.2.1, .ref z.2.2.2.2.2.2.2.2]))] ++ (wlc cO e0 z.2.2.2.2.2.2.2.2 k9.1.1.length k9.1.2.1 k9.1.2.2 ++ ((onw k9.2 ++ [(q219, orE (swO f n z.2.2.2.2.2.2.2.1))]) ++ Q))) := by rw [List.append_assoc (onw k9.2)]; exact hD
        have hP9 := hP.part (cx := [(h, .inr (0, [.ref a, .int (nI n)])), (a, .inl (cB, 1024, .inl f)), (z.1, .inr (7, [.int z.2.1, .int (nI z.2.2.1), .int z.2.2.2.1, .int z.2.2.2.2.1, .ref z.2.2.2.2.2.1, .int ((swO f n z.2.2.2.2.2.2.2.1).2.2.1), .long z.2.2.2.2.2.2.2.1, .ref z.2.2.2.2.2.2.2.2]))]) [0, 1, 2] rfl
        have hD9 := hD.part (cx := [(h, .inr (0, [.ref a, .int (nI n)])), (a, .inl (cB, 1024, .inl f)), (z.1, .inr (7, [.int z.2.1, .int (nI z.2.2.1), .int z.2.2.2.1, .int z.2.2.2.2.1, .ref z.2.2.2.2.2.1, .int ((swO f n z.2.2.2.2.2.2.2.1).2.2.1), .long z.2.2.2.2.2.2.2.1, .ref z.2.2.2.2.2.2.2.2]))]) [0, 1, 2] (by decide) rfl
        have hK9 := hK.sub (tys' := [(cB, .byte), (cO, .object "java/lang/Object")]) [0, 1] rfl
        refine W.widen (k := 3) (n := 18) (by omega) (by omega) ?_
        exact W.vret hx hb hr (fun t ht hW => ⟨⟨((swO f n z.2.2.2.2.2.2.2.1).2.2.1, k9.1, onw k9.2 ++ [(q219, orE (swO f n z.2.2.2.2.2.2.2.1))]), rfl, ⟨Or.inr (Or.inr ⟨h84, h93, h169, q219, k9.2, e236.1, rfl, rfl⟩), by rw [List.append_assoc]; exact e236.2.1, e236.2.2, obl_ob hbo e236.1⟩, ⟨by rw [ht]; exact hP9, va_K.moved hW.alike hK9, hD9⟩⟩, hS.F ht⟩) hS.2.2 d_Tables_useSwitch_239
      · have h169 := b_1 h169
        refine lv_aload_n hx hb d_Tables_useSwitch_172 rfl (lv_at hl 9 rfl) ?_
        refine lv_sipush (v := 167) hx hb d_Tables_useSwitch_173 (by decide) ?_
        refine lv_bipush (v := 33) hx hb d_Tables_useSwitch_176 (by decide) ?_
        have hPc := hP.sub (ws' := [(h, .inr (0, [.ref a, .int (nI n)])), (a, .inl (cB, 1024, .inl f))]) [0, 1] rfl
        have hKc := hK.sub (tys' := [(cB, .byte)]) [0] rfl
        refine z_cl (va_runV (As := [.int (nI 167), .int (nI 33)]) (rest := []) ⟨hx, hb, hml, hown, hts⟩ (c_Row_bits l D cB h a n 1024 f 167 33 (by omega) (by omega)) (z_cV hN wd_280 wd_61 wd_564 hd_Row_bits rfl rfl ⟨Nat.le_of_ble_eq_true rfl, Nat.le_of_ble_eq_true rfl⟩ wd_278 wd_279) (z_preV (va_recv (ci := 0) (q0 := 0) hK hP rfl rfl) hPc hKc hN) rfl rfl hl.1 rfl (lv_room (Nat.le_of_ble_eq_true rfl)) d_Tables_useSwitch_178 ⟨Nat.le_of_ble_eq_true rfl, Nat.le_of_ble_eq_true rfl⟩) (fun r178 e178 => ?_)
        refine z_topl (w := rw_bits f n 1024 167 33) e178 ?_
        refine lv_aload_n hx hb d_Tables_useSwitch_181 rfl (lv_at hl 9 rfl) ?_
        refine lv_bipush (v := 39) hx hb d_Tables_useSwitch_182 (by decide) ?_
        refine lv_bipush (v := 33) hx hb d_Tables_useSwitch_184 (by decide) ?_
        have hPc := hP.sub (ws' := [(h, .inr (0, [.ref a, .int (nI n)])), (a, .inl (cB, 1024, .inl f))]) [0, 1] rfl
        have hKc := hK.sub (tys' := [(cB, .byte)]) [0] rfl
        refine z_cl (va_runV (As := [.int (nI 39), .int (nI 33)]) (rest := [.long (rw_bits f n 1024 167 33)]) ⟨hx, hb, hml, hown, hts⟩ (c_Row_bits l D cB h a n 1024 f 39 33 (by omega) (by omega)) (z_cV hN wd_280 wd_61 wd_564 hd_Row_bits rfl rfl ⟨Nat.le_of_ble_eq_true rfl, Nat.le_of_ble_eq_true rfl⟩ wd_278 wd_279) (z_preV (va_recv (ci := 0) (q0 := 0) hK hP rfl rfl) hPc hKc hN) rfl rfl hl.1 rfl (lv_room (Nat.le_of_ble_eq_true rfl)) d_Tables_useSwitch_186 ⟨Nat.le_of_ble_eq_true rfl, Nat.le_of_ble_eq_true rfl⟩) (fun r186 e186 => ?_)
        refine z_topl (w := rw_bits f n 1024 39 33) e186 ?_
        refine lv_ladd hx hb d_Tables_useSwitch_189 ?_
        refine lv_ldc2 hx hb hown (hts _ wd_663) d_Tables_useSwitch_190 ?_
        refine lv_land hx hb d_Tables_useSwitch_193 ?_
        refine z_topl (w := swM f n) rfl ?_
        refine lv_lstore (lv' := [(12, .long (swM f n)), (11, .int (if rw_bit f n 1024 152 = 1 then 1 else 0)), (9, .long (swL f n)), (8, .int (if swR f n then (1 : Int32) else 0)), (7, .int ((rw_bits f n 1024 112 32).toInt32)), (6, .int (nI (swE f n))), (5, .int (nI (swA f n))), (4, .int (if swT f n then (1 : Int32) else 0)), (3, .int (if rw_bit f n 1024 155 = 1 then 1 else 0)), (2, .int (if rw_bit f n 1024 154 = 1 then 1 else 0)), (0, .ref h), (1, .ref z.1)]) hx hb d_Tables_useSwitch_194 hl (by decide) rfl (fun ls hl => ?_)
        refine lv_aload_n hx hb d_Tables_useSwitch_196 rfl (lv_at hl 11 rfl) ?_
        refine va_new (ci := 6) (fs := [.long 0, .int 0, .int 0, .long 0]) (C := R_Order) (T := F_Order) (N := 4) hx hb hts i_Order t_Order t_Order_ok hown (hts _ wd_664) (hts _ wd_436) (hts _ wd_78) hK hP hD hS hA rfl (fs_Order) (by show 0 + 1 ≤ 3; omega) (by show 0 + 4 ≤ 18; omega) d_Tables_useSwitch_197 (fun q197 H hP hD hS => ?_)
        have hP := hP.swap
        have hD := hD.swap
        have hP : va_P D classes ([(h, .inr (0, [.ref a, .int (nI n)])), (a, .inl (cB, 1024, .inl f)), (z.1, .inr (7, [.int z.2.1, .int (nI z.2.2.1), .int z.2.2.2.1, .int z.2.2.2.2.1, .ref z.2.2.2.2.2.1, .int z.2.2.2.2.2.2.1, .long z.2.2.2.2.2.2.2.1, .ref z.2.2.2.2.2.2.2.2])), (q197, .inr (6, [.long 0, .int 0, .int 0, .long 0]))] ++ (wlc cO e0 z.2.2.2.2.2.2.2.2 Wl.length mo wst ++ Q)) H := hP
        have hD : va_D A ([(h, .inr (0, [.ref a, .int (nI n)])), (a, .inl (cB, 1024, .inl f)), (z.1, .inr (7, [.int z.2.1, .int (nI z.2.2.1), .int z.2.2.2.1, .int z.2.2.2.2.1, .ref z.2.2.2.2.2.1, .int z.2.2.2.2.2.2.1, .long z.2.2.2.2.2.2.2.1, .ref z.2.2.2.2.2.2.2.2])), (q197, .inr (6, [.long 0, .int 0, .int 0, .long 0]))] ++ (wlc cO e0 z.2.2.2.2.2.2.2.2 Wl.length mo wst ++ Q)) := hD
        refine lv_dup hx hb d_Tables_useSwitch_200 rfl ?_
        refine lv_lload hx hb d_Tables_useSwitch_201 (lv_at hl 0 rfl) ?_
        refine lv_iload hx hb d_Tables_useSwitch_203 (lv_at hl 4 rfl) ?_
        refine lv_iload hx hb d_Tables_useSwitch_205 (lv_at hl 1 rfl) ?_
        refine lv_lload hx hb d_Tables_useSwitch_207 (lv_at hl 2 rfl) ?_
        have hPc := hP.sub (ws' := [(q197, .inr (6, [.long 0, .int 0, .int 0, .long 0]))]) [3] rfl
        have hKc := hK.sub (tys' := []) [] rfl
        have hDc := hD.sub (ws' := [(q197, .inr (6, [.long 0, .int 0, .int 0, .long 0]))]) [3] (by decide) rfl
        have hFc := va_free (wc := [(q197, .inr (6, [.long 0, .int 0, .int 0, .long 0]))]) hD hS hA [3] rfl
        refine va_callv (va_runI (As := [.long (swM f n), .int ((rw_bits f n 1024 112 32).toInt32), .int (if rw_bit f n 1024 152 = 1 then 1 else 0), .long (swL f n)]) (rest := [.ref q197, .ref z.1]) ⟨hx, hb, hml, hown, hts⟩ (c_Order_init l D H.size q197 (swM f n) (swL f n) ((rw_bits f n 1024 112 32).toInt32) (if rw_bit f n 1024 152 = 1 then 1 else 0) b01) (z_cI hN wd_439 wd_78 wd_665 hd_Order_init rfl rfl ⟨Nat.le_of_ble_eq_true rfl, Nat.le_of_ble_eq_true rfl⟩ wd_438 rfl) (z_preSm hPc hKc hN hDc) rfl rfl hl.1 rfl (lv_room (Nat.le_of_ble_eq_true rfl)) d_Tables_useSwitch_209 ⟨Nat.le_of_ble_eq_true rfl, Nat.le_of_ble_eq_true rfl⟩) hS (fun q _ h => hFc q h) hFc (fun u209 t H locs ht hvm e209 hB hz1 hk1 hS => ?_)
        obtain ⟨hP1, hK1, hD1⟩ := hB
        rw [ht] at hP1
        obtain ⟨hP, hD⟩ := va_joinQ (cx := [(q197, .inr (6, [.long 0, .int 0, .int 0, .long 0]))]) (wr := [(h, .inr (0, [.ref a, .int (nI n)])), (a, .inl (cB, 1024, .inl f)), (z.1, .inr (7, [.int z.2.1, .int (nI z.2.2.1), .int z.2.2.2.1, .int z.2.2.2.2.1, .ref z.2.2.2.2.2.1, .int z.2.2.2.2.2.2.1, .long z.2.2.2.2.2.2.2.1, .ref z.2.2.2.2.2.2.2.2]))]) (w1 := [(q197, .inr (6, [.long (swM f n), .int ((rw_bits f n 1024 112 32).toInt32), .int (if rw_bit f n 1024 152 = 1 then 1 else 0), .long (swL f n)]))]) hP hD [3] [0, 1, 2] rfl rfl (by decide) (by decide) hk1 hFc hP1 hD1
        clear hk1 hP1 hD1 hFc hPc hDc hz1
        have hP : va_P D classes ([(h, .inr (0, [.ref a, .int (nI n)])), (a, .inl (cB, 1024, .inl f)), (z.1, .inr (7, [.int z.2.1, .int (nI z.2.2.1), .int z.2.2.2.1, .int z.2.2.2.2.1, .ref z.2.2.2.2.2.1, .int z.2.2.2.2.2.2.1, .long z.2.2.2.2.2.2.2.1, .ref z.2.2.2.2.2.2.2.2])), (q197, .inr (6, [.long (swM f n), .int ((rw_bits f n 1024 112 32).toInt32), .int (if rw_bit f n 1024 152 = 1 then 1 else 0), .long (swL f n)]))] ++ (wlc cO e0 z.2.2.2.2.2.2.2.2 Wl.length mo wst ++ Q)) H := hP
        have hD : va_D A ([(h, .inr (0, [.ref a, .int (nI n)])), (a, .inl (cB, 1024, .inl f)), (z.1, .inr (7, [.int z.2.1, .int (nI z.2.2.1), .int z.2.2.2.1, .int z.2.2.2.2.1, .ref z.2.2.2.2.2.1, .int z.2.2.2.2.2.2.1, .long z.2.2.2.2.2.2.2.1, .ref z.2.2.2.2.2.2.2.2])), (q197, .inr (6, [.long (swM f n), .int ((rw_bits f n 1024 112 32).toInt32), .int (if rw_bit f n 1024 152 = 1 then 1 else 0), .long (swL f n)]))] ++ (wlc cO e0 z.2.2.2.2.2.2.2.2 Wl.length mo wst ++ Q)) := hD
        have hPc := hP.part (cx := [(z.1, .inr (7, [.int z.2.1, .int (nI z.2.2.1), .int z.2.2.2.1, .int z.2.2.2.2.1, .ref z.2.2.2.2.2.1, .int z.2.2.2.2.2.2.1, .long z.2.2.2.2.2.2.2.1, .ref z.2.2.2.2.2.2.2.2])), (q197, .inr (6, [.long ((swO f n (swM f n)).1), .int ((swO f n (swM f n)).2.1), .int ((swO f n (swM f n)).2.2.1), .long ((swO f n (swM f n)).2.2.2)]))]) [2, 3] rfl
        have hKc := hK.sub (tys' := [(cO, .object "java/lang/Object")]) [1] rfl
        have hDc := hD.part (cx := [(z.1, .inr (7, [.int z.2.1, .int (nI z.2.2.1), .int z.2.2.2.1, .int z.2.2.2.2.1, .ref z.2.2.2.2.2.1, .int z.2.2.2.2.2.2.1, .long z.2.2.2.2.2.2.2.1, .ref z.2.2.2.2.2.2.2.2])), (q197, .inr (6, [.long ((swO f n (swM f n)).1), .int ((swO f n (swM f n)).2.1), .int ((swO f n (swM f n)).2.2.1), .long ((swO f n (swM f n)).2.2.2)]))]) [2, 3] (by decide) rfl
        have hFc := va_freeP (cx := [(z.1, .inr (7, [.int z.2.1, .int (nI z.2.2.1), .int z.2.2.2.1, .int z.2.2.2.2.1, .ref z.2.2.2.2.2.1, .int z.2.2.2.2.2.2.1, .long z.2.2.2.2.2.2.2.1, .ref z.2.2.2.2.2.2.2.2])), (q197, .inr (6, [.long ((swO f n (swM f n)).1), .int ((swO f n (swM f n)).2.1), .int ((swO f n (swM f n)).2.2.1), .long ((swO f n (swM f n)).2.2.2)]))]) hD hS hA [2, 3] rfl
        refine va_callv (va_runV (As := [.ref q197]) (rest := []) ⟨hx, hb, hml, hown, hts⟩ (c_Programme_keep l D B0 hG H.size cO e0 z mo wst Wl Q q197 (swO f n (swM f n)) he0 hwk hW6) (z_cV hN wd_669 wd_82 wd_666 hd_Programme_keep rfl rfl ⟨Nat.le_of_ble_eq_true rfl, Nat.le_of_ble_eq_true rfl⟩ wd_667 wd_668) (z_preVo (va_recv (ci := 7) (q0 := 2) hK hP rfl rfl) hPc hKc hN hDc hO hS hAO) rfl rfl hl.1 rfl (lv_room (Nat.le_of_ble_eq_true rfl)) d_Tables_useSwitch_212 ⟨Nat.le_of_ble_eq_true rfl, Nat.le_of_ble_eq_true rfl⟩) hS (fun q _ h => hFc q h) hFc (fun k9 t H locs ht hvm e212 hB hz1 hk1 hS => ?_)
        obtain ⟨hP1, hK1, hD1⟩ := hB
        rw [ht] at hP1
        obtain ⟨hP, hD⟩ := va_joinP (wr := [(h, .inr (0, [.ref a, .int (nI n)])), (a, .inl (cB, 1024, .inl f))]) (rx := [(z.1, .inr (7, [.int z.2.1, .int (nI z.2.2.1), .int z.2.2.2.1, .int z.2.2.2.2.1, .ref z.2.2.2.2.2.1, .int z.2.2.2.2.2.2.1, .long z.2.2.2.2.2.2.2.1, .ref z.2.2.2.2.2.2.2.2])), (q197, .inr (6, [.long ((swO f n (swM f n)).1), .int ((swO f n (swM f n)).2.1), .int ((swO f n (swM f n)).2.2.1), .long ((swO f n (swM f n)).2.2.2)]))]) hP hD [2, 3] [0, 1] rfl rfl (by decide) (by decide) hk1 hFc hP1 hD1
        clear hk1 hP1 hD1 hFc hPc hDc hz1
        have hP : va_P D classes ([(h, .inr (0, [.ref a, .int (nI n)])), (a, .inl (cB, 1024, .inl f)), (z.1, .inr (7, [.int z.2.1, .int (nI z.2.2.1), .int z.2.2.2.1, .int z.2.2.2.2.1, .ref z.2.2.2.2.2.1, .int z.2.2.2.2.2.2.1, .long z.2.2.2.2.2.2.2.1, .ref z.2.2.2.2.2.2.2.2])), (q197, .inr (6, [.long ((swO f n (swM f n)).1), .int ((swO f n (swM f n)).2.1), .int ((swO f n (swM f n)).2.2.1), .long ((swO f n (swM f n)).2.2.2)]))] ++ (wlc cO e0 z.2.2.2.2.2.2.2.2 k9.1.length k9.2.1 k9.2.2 ++ Q)) H := hP
        have hD : va_D A ([(h, .inr (0, [.ref a, .int (nI n)])), (a, .inl (cB, 1024, .inl f)), (z.1, .inr (7, [.int z.2.1, .int (nI z.2.2.1), .int z.2.2.2.1, .int z.2.2.2.2.1, .ref z.2.2.2.2.2.1, .int z.2.2.2.2.2.2.1, .long z.2.2.2.2.2.2.2.1, .ref z.2.2.2.2.2.2.2.2])), (q197, .inr (6, [.long ((swO f n (swM f n)).1), .int ((swO f n (swM f n)).2.1), .int ((swO f n (swM f n)).2.2.1), .long ((swO f n (swM f n)).2.2.2)]))] ++ (wlc cO e0 z.2.2.2.2.2.2.2.2 k9.1.length k9.2.1 k9.2.2 ++ Q)) := hD
        refine lv_goto (tgt := 239) hx hb d_Tables_useSwitch_215 rfl ?_
        have hP := z_Pp (sw_perm (X := [(h, .inr (0, [.ref a, .int (nI n)])), (a, .inl (cB, 1024, .inl f)), (z.1, .inr (7, [.int z.2.1, .int (nI z.2.2.1), .int z.2.2.2.1, .int z.2.2.2.2.1, .ref z.2.2.2.2.2.1, .int z.2.2.2.2.2.2.1, .long z.2.2.2.2.2.2.2.1, .ref z.2.2.2.2.2.2.2.2]))]) (o := (q197, orE (swO f n (swM f n))))) hP
        have hD := z_Dp (sw_perm (X := [(h, .inr (0, [.ref a, .int (nI n)])), (a, .inl (cB, 1024, .inl f)), (z.1, .inr (7, [.int z.2.1, .int (nI z.2.2.1), .int z.2.2.2.1, .int z.2.2.2.2.1, .ref z.2.2.2.2.2.1, .int z.2.2.2.2.2.2.1, .long z.2.2.2.2.2.2.2.1, .ref z.2.2.2.2.2.2.2.2]))]) (o := (q197, orE (swO f n (swM f n))))) hD
        have hP : va_P D classes ([(h, .inr (0, [.ref a, .int (nI n)])), (a, .inl (cB, 1024, .inl f)), (z.1, .inr (7, [.int z.2.1, .int (nI z.2.2.1), .int z.2.2.2.1, .int z.2.2.2.2.1, .ref z.2.2.2.2.2.1, .int z.2.2.2.2.2.2.1, .long z.2.2.2.2.2.2.2.1, .ref z.2.2.2.2.2.2.2.2]))] ++ (wlc cO e0 z.2.2.2.2.2.2.2.2 k9.1.length k9.2.1 k9.2.2 ++ ([(q197, orE (swO f n (swM f n)))] ++ Q))) H := hP
        have hD : va_D A ([(h, .inr (0, [.ref a, .int (nI n)])), (a, .inl (cB, 1024, .inl f)), (z.1, .inr (7, [.int z.2.1, .int (nI z.2.2.1), .int z.2.2.2.1, .int z.2.2.2.2.1, .ref z.2.2.2.2.2.1, .int z.2.2.2.2.2.2.1, .long z.2.2.2.2.2.2.2.1, .ref z.2.2.2.2.2.2.2.2]))] ++ (wlc cO e0 z.2.2.2.2.2.2.2.2 k9.1.length k9.2.1 k9.2.2 ++ ([(q197, orE (swO f n (swM f n)))] ++ Q))) := hD
        have hP9 := hP.part (cx := [(h, .inr (0, [.ref a, .int (nI n)])), (a, .inl (cB, 1024, .inl f)), (z.1, .inr (7, [.int z.2.1, .int (nI z.2.2.1), .int z.2.2.2.1, .int z.2.2.2.2.1, .ref z.2.2.2.2.2.1, .int z.2.2.2.2.2.2.1, .long z.2.2.2.2.2.2.2.1, .ref z.2.2.2.2.2.2.2.2]))]) [0, 1, 2] rfl
        have hD9 := hD.part (cx := [(h, .inr (0, [.ref a, .int (nI n)])), (a, .inl (cB, 1024, .inl f)), (z.1, .inr (7, [.int z.2.1, .int (nI z.2.2.1), .int z.2.2.2.1, .int z.2.2.2.2.1, .ref z.2.2.2.2.2.1, .int z.2.2.2.2.2.2.1, .long z.2.2.2.2.2.2.2.1, .ref z.2.2.2.2.2.2.2.2]))]) [0, 1, 2] (by decide) rfl
        have hK9 := hK.sub (tys' := [(cB, .byte), (cO, .object "java/lang/Object")]) [0, 1] rfl
        refine W.widen (k := 3) (n := 18) (by omega) (by omega) ?_
        exact W.vret hx hb hr (fun t ht hW => ⟨⟨(z.2.2.2.2.2.2.1, k9, [(q197, orE (swO f n (swM f n)))]), rfl, ⟨Or.inr (Or.inl ⟨h84, h93, h169, q197, e212.1, rfl, rfl⟩), e212.2.1, e212.2.2, obl_ke hbo b01 e212.1⟩, ⟨by rw [ht]; exact hP9, va_K.moved hW.alike hK9, hD9⟩⟩, hS.F ht⟩) hS.2.2 d_Tables_useSwitch_239
    · have h93 := mt (nI_leI (by omega) (by omega)).mpr h93
      have hP9 := hP.part (cx := [(h, .inr (0, [.ref a, .int (nI n)])), (a, .inl (cB, 1024, .inl f)), (z.1, .inr (7, [.int z.2.1, .int (nI z.2.2.1), .int z.2.2.2.1, .int z.2.2.2.2.1, .ref z.2.2.2.2.2.1, .int z.2.2.2.2.2.2.1, .long z.2.2.2.2.2.2.2.1, .ref z.2.2.2.2.2.2.2.2]))]) [0, 1, 2] rfl
      have hD9 := hD.part (cx := [(h, .inr (0, [.ref a, .int (nI n)])), (a, .inl (cB, 1024, .inl f)), (z.1, .inr (7, [.int z.2.1, .int (nI z.2.2.1), .int z.2.2.2.1, .int z.2.2.2.2.1, .ref z.2.2.2.2.2.1, .int z.2.2.2.2.2.2.1, .long z.2.2.2.2.2.2.2.1, .ref z.2.2.2.2.2.2.2.2]))]) [0, 1, 2] (by decide) rfl
      have hK9 := hK.sub (tys' := [(cB, .byte), (cO, .object "java/lang/Object")]) [0, 1] rfl
      refine W.widen (k := 3) (n := 18) (by omega) (by omega) ?_
      exact W.vret hx hb hr (fun t ht hW => ⟨⟨(z.2.2.2.2.2.2.1, (Wl, mo, wst), []), rfl, ⟨Or.inl ⟨fun z9 => by first | exact h84 z9.1 | exact h93 z9.2, rfl, rfl, rfl⟩, hwk, hW6, hbo⟩, ⟨by rw [ht]; exact hP9, va_K.moved hW.alike hK9, hD9⟩⟩, hS.F ht⟩) hS.2.2 d_Tables_useSwitch_96
