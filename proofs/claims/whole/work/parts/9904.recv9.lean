theorem wd_18 : (Jvm.Cond.selects "StreamSplitter$Receiver" ({ cls := "StreamSplitter$Receiver", name := "giveUpOthers", desc := "(LStreamSplitter$Lane;)V" } : Jvm.MethodName) ({ cls := "StreamSplitter$Receiver", name := "giveUpOthers", desc := "(LStreamSplitter$Lane;)V" } : Jvm.MethodName)) ∈ lw_ok := List.mem_filter.mpr ⟨List.mem_of_getElem? (i := 18) (by decide +kernel), rfl⟩
theorem wd_299 : (Jvm.Cond.instanceMethod ({ cls := "StreamSplitter$Tables", name := "useOf", desc := "(I)I" } : Jvm.MethodName)) ∈ lw_ok := List.mem_filter.mpr ⟨List.mem_of_getElem? (i := 299) (by decide +kernel), rfl⟩
theorem wd_300 : (Jvm.Cond.selects "StreamSplitter$Tables" ({ cls := "StreamSplitter$Tables", name := "useOf", desc := "(I)I" } : Jvm.MethodName) ({ cls := "StreamSplitter$Tables", name := "useOf", desc := "(I)I" } : Jvm.MethodName)) ∈ lw_ok := List.mem_filter.mpr ⟨List.mem_of_getElem? (i := 300) (by decide +kernel), rfl⟩
set_option maxRecDepth 100000 in
theorem wd_301 : (Jvm.Cond.code ({ cls := "StreamSplitter$Tables", name := "useOf", desc := "(I)I" } : Jvm.MethodName) prog_11_method_5_code (4 : Nat) (Option.some Jvm.ClassFile.FieldType.int)) ∈ lw_ok := List.mem_filter.mpr ⟨List.mem_of_getElem? (i := 301) (by rfl), rfl⟩
theorem wd_543 : (Jvm.Cond.methodLink "StreamSplitter$Receiver" (130 : Nat) ({ cls := "StreamSplitter$Row", name := "checkOf", desc := "(II)I" } : Jvm.MethodName)) ∈ lw_ok := List.mem_filter.mpr ⟨List.mem_of_getElem? (i := 543) (by decide +kernel), rfl⟩
theorem wd_548 : (Jvm.Cond.methodLink "StreamSplitter$Receiver" (137 : Nat) ({ cls := "StreamSplitter$Tables", name := "useOf", desc := "(I)I" } : Jvm.MethodName)) ∈ lw_ok := List.mem_filter.mpr ⟨List.mem_of_getElem? (i := 548) (by decide +kernel), rfl⟩
theorem wd_549 : (Jvm.Cond.methodLink "StreamSplitter$Receiver" (140 : Nat) ({ cls := "StreamSplitter$Tables", name := "useList", desc := "(LStreamSplitter$Row;)Z" } : Jvm.MethodName)) ∈ lw_ok := List.mem_filter.mpr ⟨List.mem_of_getElem? (i := 549) (by decide +kernel), rfl⟩
theorem wd_550 : (Jvm.Cond.instanceMethod ({ cls := "StreamSplitter$Tables", name := "useList", desc := "(LStreamSplitter$Row;)Z" } : Jvm.MethodName)) ∈ lw_ok := List.mem_filter.mpr ⟨List.mem_of_getElem? (i := 550) (by decide +kernel), rfl⟩
theorem wd_551 : (Jvm.Cond.selects "StreamSplitter$Tables" ({ cls := "StreamSplitter$Tables", name := "useList", desc := "(LStreamSplitter$Row;)Z" } : Jvm.MethodName) ({ cls := "StreamSplitter$Tables", name := "useList", desc := "(LStreamSplitter$Row;)Z" } : Jvm.MethodName)) ∈ lw_ok := List.mem_filter.mpr ⟨List.mem_of_getElem? (i := 551) (by decide +kernel), rfl⟩
set_option maxRecDepth 100000 in
theorem wd_552 : (Jvm.Cond.code ({ cls := "StreamSplitter$Tables", name := "useList", desc := "(LStreamSplitter$Row;)Z" } : Jvm.MethodName) prog_11_method_8_code (8 : Nat) (Option.some Jvm.ClassFile.FieldType.boolean)) ∈ lw_ok := List.mem_filter.mpr ⟨List.mem_of_getElem? (i := 552) (by rfl), rfl⟩
theorem wd_621 : (Jvm.Cond.methodLink "StreamSplitter$Receiver" (144 : Nat) ({ cls := "StreamSplitter$Tables", name := "usePlan", desc := "(LStreamSplitter$Row;I)Z" } : Jvm.MethodName)) ∈ lw_ok := List.mem_filter.mpr ⟨List.mem_of_getElem? (i := 621) (by decide +kernel), rfl⟩
theorem wd_622 : (Jvm.Cond.instanceMethod ({ cls := "StreamSplitter$Tables", name := "usePlan", desc := "(LStreamSplitter$Row;I)Z" } : Jvm.MethodName)) ∈ lw_ok := List.mem_filter.mpr ⟨List.mem_of_getElem? (i := 622) (by decide +kernel), rfl⟩
theorem wd_623 : (Jvm.Cond.selects "StreamSplitter$Tables" ({ cls := "StreamSplitter$Tables", name := "usePlan", desc := "(LStreamSplitter$Row;I)Z" } : Jvm.MethodName) ({ cls := "StreamSplitter$Tables", name := "usePlan", desc := "(LStreamSplitter$Row;I)Z" } : Jvm.MethodName)) ∈ lw_ok := List.mem_filter.mpr ⟨List.mem_of_getElem? (i := 623) (by decide +kernel), rfl⟩
set_option maxRecDepth 100000 in
theorem wd_624 : (Jvm.Cond.code ({ cls := "StreamSplitter$Tables", name := "usePlan", desc := "(LStreamSplitter$Row;I)Z" } : Jvm.MethodName) prog_11_method_9_code (5 : Nat) (Option.some Jvm.ClassFile.FieldType.boolean)) ∈ lw_ok := List.mem_filter.mpr ⟨List.mem_of_getElem? (i := 624) (by rfl), rfl⟩
theorem wd_648 : (Jvm.Cond.methodLink "StreamSplitter$Receiver" (148 : Nat) ({ cls := "StreamSplitter$Tables", name := "useOrder", desc := "(LStreamSplitter$Row;I)V" } : Jvm.MethodName)) ∈ lw_ok := List.mem_filter.mpr ⟨List.mem_of_getElem? (i := 648) (by decide +kernel), rfl⟩
theorem wd_649 : (Jvm.Cond.instanceMethod ({ cls := "StreamSplitter$Tables", name := "useOrder", desc := "(LStreamSplitter$Row;I)V" } : Jvm.MethodName)) ∈ lw_ok := List.mem_filter.mpr ⟨List.mem_of_getElem? (i := 649) (by decide +kernel), rfl⟩
theorem wd_650 : (Jvm.Cond.selects "StreamSplitter$Tables" ({ cls := "StreamSplitter$Tables", name := "useOrder", desc := "(LStreamSplitter$Row;I)V" } : Jvm.MethodName) ({ cls := "StreamSplitter$Tables", name := "useOrder", desc := "(LStreamSplitter$Row;I)V" } : Jvm.MethodName)) ∈ lw_ok := List.mem_filter.mpr ⟨List.mem_of_getElem? (i := 650) (by decide +kernel), rfl⟩
set_option maxRecDepth 100000 in
theorem wd_651 : (Jvm.Cond.code ({ cls := "StreamSplitter$Tables", name := "useOrder", desc := "(LStreamSplitter$Row;I)V" } : Jvm.MethodName) prog_11_method_11_code (4 : Nat) (Option.none : Option Jvm.ClassFile.FieldType)) ∈ lw_ok := List.mem_filter.mpr ⟨List.mem_of_getElem? (i := 651) (by rfl), rfl⟩
theorem wd_675 : (Jvm.Cond.methodLink "StreamSplitter$Receiver" (152 : Nat) ({ cls := "StreamSplitter$Receiver", name := "giveUpOthers", desc := "(LStreamSplitter$Lane;)V" } : Jvm.MethodName)) ∈ lw_ok := List.mem_filter.mpr ⟨List.mem_of_getElem? (i := 675) (by decide +kernel), rfl⟩
theorem wd_677 : (Jvm.Cond.instanceMethod ({ cls := "StreamSplitter$Receiver", name := "giveUpOthers", desc := "(LStreamSplitter$Lane;)V" } : Jvm.MethodName)) ∈ lw_ok := List.mem_filter.mpr ⟨List.mem_of_getElem? (i := 677) (by decide +kernel), rfl⟩
set_option maxRecDepth 100000 in
theorem wd_678 : (Jvm.Cond.code ({ cls := "StreamSplitter$Receiver", name := "giveUpOthers", desc := "(LStreamSplitter$Lane;)V" } : Jvm.MethodName) prog_8_method_8_code (7 : Nat) (Option.none : Option Jvm.ClassFile.FieldType)) ∈ lw_ok := List.mem_filter.mpr ⟨List.mem_of_getElem? (i := 678) (by rfl), rfl⟩
theorem hd_Receiver_giveUpOthers : y_Receiver_giveUpOthers.cls ≠ "java/lang/invoke/MethodHandle" ∧ y_Receiver_giveUpOthers.cls ≠ "java/lang/invoke/VarHandle" ∧ (parseMethodDescriptor y_Receiver_giveUpOthers.desc).map (fun d => d.parameters.length) = some 1 := by decide +kernel
theorem hd_Tables_useList : y_Tables_useList.cls ≠ "java/lang/invoke/MethodHandle" ∧ y_Tables_useList.cls ≠ "java/lang/invoke/VarHandle" ∧ (parseMethodDescriptor y_Tables_useList.desc).map (fun d => d.parameters.length) = some 1 := by decide +kernel
theorem hd_Tables_useOf : y_Tables_useOf.cls ≠ "java/lang/invoke/MethodHandle" ∧ y_Tables_useOf.cls ≠ "java/lang/invoke/VarHandle" ∧ (parseMethodDescriptor y_Tables_useOf.desc).map (fun d => d.parameters.length) = some 1 := by decide +kernel
theorem hd_Tables_useOrder : y_Tables_useOrder.cls ≠ "java/lang/invoke/MethodHandle" ∧ y_Tables_useOrder.cls ≠ "java/lang/invoke/VarHandle" ∧ (parseMethodDescriptor y_Tables_useOrder.desc).map (fun d => d.parameters.length) = some 2 := by decide +kernel
theorem hd_Tables_usePlan : y_Tables_usePlan.cls ≠ "java/lang/invoke/MethodHandle" ∧ y_Tables_usePlan.cls ≠ "java/lang/invoke/VarHandle" ∧ (parseMethodDescriptor y_Tables_usePlan.desc).map (fun d => d.parameters.length) = some 2 := by decide +kernel
theorem d_Receiver_endSection_0 : decode b_Receiver_endSection 0 = .ok (.aload_n 2, 1) := by decide +kernel
theorem d_Receiver_endSection_1 : decode b_Receiver_endSection 1 = .ok (.getfield 91, 3) := by decide +kernel
theorem d_Receiver_endSection_4 : decode b_Receiver_endSection 4 = .ok (.bipush 12, 2) := by decide +kernel
theorem d_Receiver_endSection_6 : decode b_Receiver_endSection 6 = .ok (.if_icmp .lt 19, 3) := by decide +kernel
theorem d_Receiver_endSection_9 : decode b_Receiver_endSection 9 = .ok (.aload_n 2, 1) := by decide +kernel
theorem d_Receiver_endSection_10 : decode b_Receiver_endSection 10 = .ok (.iconst 0, 1) := by decide +kernel
theorem d_Receiver_endSection_11 : decode b_Receiver_endSection 11 = .ok (.aload_n 2, 1) := by decide +kernel
theorem d_Receiver_endSection_12 : decode b_Receiver_endSection 12 = .ok (.getfield 91, 3) := by decide +kernel
theorem d_Receiver_endSection_15 : decode b_Receiver_endSection 15 = .ok (.invokevirtual 130, 3) := by decide +kernel
theorem d_Receiver_endSection_18 : decode b_Receiver_endSection 18 = .ok (.ifCond .ne 7, 3) := by decide +kernel
theorem d_Receiver_endSection_21 : decode b_Receiver_endSection 21 = .ok (.iconst 1, 1) := by decide +kernel
theorem d_Receiver_endSection_22 : decode b_Receiver_endSection 22 = .ok (.goto 4, 3) := by decide +kernel
theorem d_Receiver_endSection_25 : decode b_Receiver_endSection 25 = .ok (.iconst 0, 1) := by decide +kernel
theorem d_Receiver_endSection_26 : decode b_Receiver_endSection 26 = .ok (.istore_n 3, 1) := by decide +kernel
theorem d_Receiver_endSection_27 : decode b_Receiver_endSection 27 = .ok (.aload_n 0, 1) := by decide +kernel
theorem d_Receiver_endSection_28 : decode b_Receiver_endSection 28 = .ok (.getfield 34, 3) := by decide +kernel
theorem d_Receiver_endSection_31 : decode b_Receiver_endSection 31 = .ok (.iload_n 3, 1) := by decide +kernel
theorem d_Receiver_endSection_32 : decode b_Receiver_endSection 32 = .ok (.ifCond .eq 8, 3) := by decide +kernel
theorem d_Receiver_endSection_35 : decode b_Receiver_endSection 35 = .ok (.bipush 6, 2) := by decide +kernel
theorem d_Receiver_endSection_37 : decode b_Receiver_endSection 37 = .ok (.goto 5, 3) := by decide +kernel
theorem d_Receiver_endSection_40 : decode b_Receiver_endSection 40 = .ok (.bipush 7, 2) := by decide +kernel
theorem d_Receiver_endSection_42 : decode b_Receiver_endSection 42 = .ok (.dup2, 1) := by decide +kernel
theorem d_Receiver_endSection_43 : decode b_Receiver_endSection 43 = .ok (.iaload, 1) := by decide +kernel
theorem d_Receiver_endSection_44 : decode b_Receiver_endSection 44 = .ok (.iconst 1, 1) := by decide +kernel
theorem d_Receiver_endSection_45 : decode b_Receiver_endSection 45 = .ok (.iadd, 1) := by decide +kernel
theorem d_Receiver_endSection_46 : decode b_Receiver_endSection 46 = .ok (.iastore, 1) := by decide +kernel
theorem d_Receiver_endSection_47 : decode b_Receiver_endSection 47 = .ok (.iload_n 3, 1) := by decide +kernel
theorem d_Receiver_endSection_48 : decode b_Receiver_endSection 48 = .ok (.ifCond .eq 107, 3) := by decide +kernel
theorem d_Receiver_endSection_51 : decode b_Receiver_endSection 51 = .ok (.aload_n 2, 1) := by decide +kernel
theorem d_Receiver_endSection_52 : decode b_Receiver_endSection 52 = .ok (.dup, 1) := by decide +kernel
theorem d_Receiver_endSection_53 : decode b_Receiver_endSection 53 = .ok (.getfield 91, 3) := by decide +kernel
theorem d_Receiver_endSection_56 : decode b_Receiver_endSection 56 = .ok (.iconst 4, 1) := by decide +kernel
theorem d_Receiver_endSection_57 : decode b_Receiver_endSection 57 = .ok (.isub, 1) := by decide +kernel
theorem d_Receiver_endSection_58 : decode b_Receiver_endSection 58 = .ok (.putfield 91, 3) := by decide +kernel
theorem d_Receiver_endSection_61 : decode b_Receiver_endSection 61 = .ok (.iconst 0, 1) := by decide +kernel
theorem d_Receiver_endSection_62 : decode b_Receiver_endSection 62 = .ok (.istore 4, 2) := by decide +kernel
theorem d_Receiver_endSection_64 : decode b_Receiver_endSection 64 = .ok (.aload_n 0, 1) := by decide +kernel
theorem d_Receiver_endSection_65 : decode b_Receiver_endSection 65 = .ok (.getfield 30, 3) := by decide +kernel
theorem d_Receiver_endSection_68 : decode b_Receiver_endSection 68 = .ok (.aload_n 1, 1) := by decide +kernel
theorem d_Receiver_endSection_69 : decode b_Receiver_endSection 69 = .ok (.getfield 134, 3) := by decide +kernel
theorem d_Receiver_endSection_72 : decode b_Receiver_endSection 72 = .ok (.invokevirtual 137, 3) := by decide +kernel
theorem d_Receiver_endSection_75 : decode b_Receiver_endSection 75 = .ok (.tableswitch 70 1 3 #[25, 38, 55], 25) := by decide +kernel
theorem d_Receiver_endSection_100 : decode b_Receiver_endSection 100 = .ok (.aload_n 0, 1) := by decide +kernel
theorem d_Receiver_endSection_101 : decode b_Receiver_endSection 101 = .ok (.getfield 30, 3) := by decide +kernel
theorem d_Receiver_endSection_104 : decode b_Receiver_endSection 104 = .ok (.aload_n 2, 1) := by decide +kernel
theorem d_Receiver_endSection_105 : decode b_Receiver_endSection 105 = .ok (.invokevirtual 140, 3) := by decide +kernel
theorem d_Receiver_endSection_108 : decode b_Receiver_endSection 108 = .ok (.istore 4, 2) := by decide +kernel
theorem d_Receiver_endSection_110 : decode b_Receiver_endSection 110 = .ok (.goto 35, 3) := by decide +kernel
theorem d_Receiver_endSection_113 : decode b_Receiver_endSection 113 = .ok (.aload_n 0, 1) := by decide +kernel
theorem d_Receiver_endSection_114 : decode b_Receiver_endSection 114 = .ok (.getfield 30, 3) := by decide +kernel
theorem d_Receiver_endSection_117 : decode b_Receiver_endSection 117 = .ok (.aload_n 2, 1) := by decide +kernel
theorem d_Receiver_endSection_118 : decode b_Receiver_endSection 118 = .ok (.aload_n 1, 1) := by decide +kernel
theorem d_Receiver_endSection_119 : decode b_Receiver_endSection 119 = .ok (.getfield 134, 3) := by decide +kernel
theorem d_Receiver_endSection_122 : decode b_Receiver_endSection 122 = .ok (.invokevirtual 144, 3) := by decide +kernel
theorem d_Receiver_endSection_125 : decode b_Receiver_endSection 125 = .ok (.istore 4, 2) := by decide +kernel
theorem d_Receiver_endSection_127 : decode b_Receiver_endSection 127 = .ok (.goto 18, 3) := by decide +kernel
theorem d_Receiver_endSection_130 : decode b_Receiver_endSection 130 = .ok (.aload_n 0, 1) := by decide +kernel
theorem d_Receiver_endSection_131 : decode b_Receiver_endSection 131 = .ok (.getfield 30, 3) := by decide +kernel
theorem d_Receiver_endSection_134 : decode b_Receiver_endSection 134 = .ok (.aload_n 2, 1) := by decide +kernel
theorem d_Receiver_endSection_135 : decode b_Receiver_endSection 135 = .ok (.aload_n 1, 1) := by decide +kernel
theorem d_Receiver_endSection_136 : decode b_Receiver_endSection 136 = .ok (.getfield 134, 3) := by decide +kernel
theorem d_Receiver_endSection_139 : decode b_Receiver_endSection 139 = .ok (.invokevirtual 148, 3) := by decide +kernel
theorem d_Receiver_endSection_142 : decode b_Receiver_endSection 142 = .ok (.goto 3, 3) := by decide +kernel
theorem d_Receiver_endSection_145 : decode b_Receiver_endSection 145 = .ok (.iload 4, 2) := by decide +kernel
theorem d_Receiver_endSection_147 : decode b_Receiver_endSection 147 = .ok (.ifCond .eq 8, 3) := by decide +kernel
theorem d_Receiver_endSection_150 : decode b_Receiver_endSection 150 = .ok (.aload_n 0, 1) := by decide +kernel
theorem d_Receiver_endSection_151 : decode b_Receiver_endSection 151 = .ok (.aload_n 1, 1) := by decide +kernel
theorem d_Receiver_endSection_152 : decode b_Receiver_endSection 152 = .ok (.invokevirtual 152, 3) := by decide +kernel
theorem d_Receiver_endSection_155 : decode b_Receiver_endSection 155 = .ok (.aload_n 2, 1) := by decide +kernel
theorem d_Receiver_endSection_156 : decode b_Receiver_endSection 156 = .ok (.iconst 0, 1) := by decide +kernel
theorem d_Receiver_endSection_157 : decode b_Receiver_endSection 157 = .ok (.putfield 91, 3) := by decide +kernel
theorem d_Receiver_endSection_160 : decode b_Receiver_endSection 160 = .ok (.return_, 1) := by decide +kernel
/-! A whole section -/
def lsk (Ls : List LZ) : List (Nat × Nat × Option Nat) := Ls.map (fun z => (z.1, z.2.1, z.2.2.1))
theorem lhd_sk {k : Nat} : ∀ {A B : List LZ}, lsk A = lsk B → lhd k A = lhd k B
  | [], [], _ => rfl
  | [], _ :: _, h => by cases h
  | _ :: _, [], h => by cases h
  | x :: A, y :: B, h => by
    obtain ⟨h1, h2⟩ := List.cons.inj h
    have e1 : x.1 = y.1 := congrArg (fun q : Nat × Nat × Option Nat => q.1) h1
    have e2 : x.2.1 = y.2.1 := congrArg (fun q : Nat × Nat × Option Nat => q.2.1) h1
    rw [lhd, lhd, e1, e2, lhd_sk (A := A) (B := B) h2]
theorem lok_sk : ∀ {A B : List LZ}, lsk A = lsk B → lok A → lok B
  | [], [], _, _ => trivial
  | [], _ :: _, h, _ => by cases h
  | _ :: _, [], h, _ => by cases h
  | x :: A, y :: B, h, hk => by
    obtain ⟨h1, h2⟩ := List.cons.inj h
    have e2 : x.2.1 = y.2.1 := congrArg (fun q : Nat × Nat × Option Nat => q.2.1) h1
    have e3 : x.2.2.1 = y.2.2.1 := congrArg (fun q : Nat × Nat × Option Nat => q.2.2) h1
    obtain ⟨k1, k2, k3, k4⟩ := hk
    refine ⟨by rw [← e2]; exact k1, by rw [← e3, ← e2, k2]; exact lhd_sk h2, fun z hz => ?_, lok_sk h2 k4⟩
    have hm : (z.1, z.2.1, z.2.2.1) ∈ lsk A := by rw [show lsk A = lsk B from h2]; exact List.mem_map.mpr ⟨z, hz, rfl⟩
    obtain ⟨w, hw, ew⟩ := List.mem_map.mp hm
    have := k3 w hw
    rw [← e2, ← congrArg (fun q : Nat × Nat × Option Nat => q.2.1) ew]
    exact this
theorem lsk_app (A B : List LZ) : lsk (A ++ B) = lsk A ++ lsk B := List.map_append ..
theorem lsk_mid {A B : List LZ} {x y : LZ} (h : (x.1, x.2.1, x.2.2.1) = (y.1, y.2.1, y.2.2.1)) : lsk (A ++ x :: B) = lsk (A ++ y :: B) := by
  rw [lsk_app, lsk_app]
  show lsk A ++ (x.1, x.2.1, x.2.2.1) :: lsk B = lsk A ++ (y.1, y.2.1, y.2.2.1) :: lsk B
  rw [h]
theorem lsk_gv (ka : Nat) (A : List LZ) : lsk (A.map (gvz ka)) = lsk A := by
  unfold lsk
  rw [List.map_map]
  congr 1
  funext z
  show ((gvz ka z).1, (gvz ka z).2.1, (gvz ka z).2.2.1) = _
  unfold gvz
  split <;> rfl
theorem uo_nat {P : List (PZ × List (Int32 × Nat))} {pid : Nat} {r : Int32} (h : uoR P pid r) : ∃ uu, r = nI uu ∧ uu ≤ 4 := by
  rcases h with ⟨-, h⟩ | ⟨-, -, h⟩ | ⟨-, -, ⟨-, h⟩ | ⟨j, i, -, -, -, -, -, h⟩⟩
  · exact ⟨1, h, by omega⟩
  · exact ⟨2, h, by omega⟩
  · exact ⟨0, h, by omega⟩
  · split at h
    · exact ⟨3, h, by omega⟩
    · exact ⟨4, h, by omega⟩
theorem uo_1 {P : List (PZ × List (Int32 × Nat))} {pid : Nat} (h : uoR P pid (nI 1)) : pid = 0 := by
  rcases h with ⟨h, -⟩ | ⟨-, -, h⟩ | ⟨-, -, ⟨-, h⟩ | ⟨j, i, -, -, -, -, -, h⟩⟩
  · exact h
  · exact absurd h (by decide)
  · exact absurd h (by decide)
  · split at h <;> exact absurd h (by decide)
theorem uo_2 {P : List (PZ × List (Int32 × Nat))} {pid uu : Nat} (h : uoR P pid (nI uu)) (hu : nI uu ≠ 1) : ¬ pid = 0 := by
  rcases h with ⟨-, h⟩ | ⟨h, -⟩ | ⟨h, -⟩
  · exact absurd h hu
  · exact h
  · exact h
def seC (pid n : Nat) : Nat := if n < 12 then 0 else if pid = 0 then llC (n - 4) else if n < 21 then 3 else 6
def seS (pid n : Nat) : Nat := if n < 12 then 0 else if pid = 0 then llS (n - 4) else if n < 21 then 18 else 21
theorem es_c0 {pid n : Nat} (h2 : ¬ n < 12) (h : pid = 0) : seC pid n = llC (n - 4) ∧ seS pid n = llS (n - 4) := by
  unfold seC seS
  rw [if_neg h2, if_neg h2, if_pos h, if_pos h]
  exact ⟨rfl, rfl⟩
theorem es_c1 {pid n : Nat} (h2 : ¬ n < 12) (h : ¬ pid = 0) : kpC (n - 4) ≤ seC pid n ∧ kpS (n - 4) ≤ seS pid n ∧ 3 ≤ seC pid n ∧ 18 ≤ seS pid n := by
  unfold seC seS kpC kpS
  rw [if_neg h2, if_neg h2, if_neg h, if_neg h]
  by_cases c : n < 21
  · rw [if_pos c, if_pos c, if_pos (by omega), if_pos (by omega)]; omega
  · rw [if_neg c, if_neg c, if_neg (by omega), if_neg (by omega)]; omega
theorem us_len {f : Nat → Int32} {n pid : Nat} {P P2 : List PR9} {r : Int32} (h : usP f n P pid r P2) : P2.length = P.length := by
  rcases h with ⟨-, rfl, -⟩ | ⟨-, -, j, sa, -, -, -, rfl⟩
  · rfl
  · exact List.length_set ..
theorem uo_len {f : Nat → Int32} {n pid : Nat} {P P2 : List PR9} {nc : va_W} (h : uoP f n P pid P2 nc) : P2.length = P.length := by
  rcases h with ⟨-, rfl, -⟩ | ⟨-, j, mo2, wst2, aw2, Wl2, -, -, -, -, rfl⟩
  · rfl
  · exact List.length_set ..
theorem mn_len {pid : Nat} {t : Int64} {P P2 : List PR9} {nc : va_W} (h : mnP P pid t P2 nc) : P2.length = P.length := by
  rcases h with ⟨-, rfl, -⟩ | ⟨j, aw, Wl2, mo2, wst2, -, -, -, -, rfl⟩
  · rfl
  · exact List.length_set ..
theorem awk_set {P : List PR9} {j : Nat} {x : PR9} (h : awk P) (hx : x.1.2.2.2.2.2.2.1 = 0 ∨ x.1.2.2.2.2.2.2.1 = 1) : awk (P.set j x) := by
  intro y hy
  rcases List.mem_or_eq_of_mem_set hy with q | q
  · exact h y q
  · rw [q]; exact hx
theorem us_awk {f : Nat → Int32} {n pid : Nat} {P P2 : List PR9} {r : Int32} (ha : awk P) (h : usP f n P pid r P2) : awk P2 := by
  rcases h with ⟨-, rfl, -⟩ | ⟨-, -, j, sa, hf, -, -, rfl⟩
  · exact ha
  · exact awk_set ha (ha (P.getD j pr9) (p_mem hf.1))
theorem uo_awk {f : Nat → Int32} {n pid : Nat} {P P2 : List PR9} {nc : va_W} (ha : awk P) (h : uoP f n P pid P2 nc) : awk P2 := by
  rcases h with ⟨-, rfl, -⟩ | ⟨-, j, mo2, wst2, aw2, Wl2, hj, -, -, h, rfl⟩
  · exact ha
  · refine awk_set ha ?_
    have h1 := ha _ (p_mem hj)
    show aw2 = 0 ∨ aw2 = 1
    rcases h with ⟨-, rfl, -⟩ | ⟨-, ⟨-, rfl, -⟩ | ⟨-, -, -, oa, -, rfl, -⟩ | ⟨-, -, -, oa, w, -, rfl, -⟩⟩
    · exact h1
    · exact h1
    · exact h1
    · exact b01
theorem od_aw : ∀ (n : Nat) {nw : Int64} {aw aw2 : Int32} {Wl Wl2 : WL9} {nc : va_W}, odR n nw aw Wl aw2 Wl2 nc → obl Wl → (aw = 0 ∨ aw = 1) → (aw2 = 0 ∨ aw2 = 1)
  | 0, _, _, _, _, _, _, h, _, ha => by rw [h.1]; exact ha
  | n + 1, _, _, _, _, _, _, h, ho, ha => by
    rcases h with ⟨-, h, -⟩ | ⟨j, W1, w, nc1, hj, -, -, h1, h2, -⟩
    · rw [h]; exact ha
    · exact od_aw n h2 (obl_ob (obl_er ho hj) h1) (ho j hj)
theorem mn_awk {pid : Nat} {t : Int64} {P P2 : List PR9} {nc Q : va_W} {cO : ClassId} {pst : Option (Nat × (Nat → Option Nat))} (ha : awk P) (htk : tok Q cO pst P) (h : mnP P pid t P2 nc) : awk P2 := by
  rcases h with ⟨-, rfl, -⟩ | ⟨j, aw, Wl2, mo2, wst2, hj, -, -, h, rfl⟩
  · exact ha
  · exact awk_set ha (od_aw 12 h (htk.2.2 _ (p_mem hj)).2.2.2.2 (ha _ (p_mem hj)))
theorem uo_tok {Im Q2 nc : va_W} {cO : ClassId} {pst : Option (Nat × (Nat → Option Nat))} {P P2 : List PR9} {f : Nat → Int32} {n pid : Nat} (h0 : tok Im cO pst P) (h : uoP f n P pid P2 nc) (h2 : tok Q2 cO pst P2) : tok (nc ++ Im) cO pst P2 := by
  have hq : ∀ y ∈ Im, y ∈ nc ++ Im := fun y hy => List.mem_append_right _ hy
  rcases h with ⟨-, rfl, -⟩ | ⟨-, j, mo2, wst2, aw2, Wl2, hj, -, -, h3, rfl⟩
  · exact tok_mono h0 hq
  · have hpk := h0.2.2 _ (p_mem hj)
    refine tok_fix h2 (fun x hx => ?_) (fun x hx y hy => ?_)
    · rcases List.mem_or_eq_of_mem_set hx with q | q
      · exact isS_mono (h0.2.2 x q).2.1 hq
      · rw [q]; exact isS_mono hpk.2.1 hq
    · rcases List.mem_or_eq_of_mem_set hx with q | q
      · exact hq _ (wok_in (h0.2.2 x q).2.2.1 y hy)
      · rw [q] at hy
        rcases h3 with ⟨-, -, e, -⟩ | ⟨-, h3⟩
        · rw [show Wl2 = _ from e] at hy
          exact hq _ (wok_in hpk.2.2.1 y (List.mem_filter.mp hy).1)
        · rcases sw_mem h3 y hy with e | e
          · exact hq _ (wok_in hpk.2.2.1 y e)
          · exact List.mem_append_left _ e
/-- what a good section does to the tables; fr: it came into force -/
def esT (f : Nat → Int32) (n pid : Nat) (lv : Int32) (pr : Nat) (pmo : Int32) (pst : Option (Nat × (Nat → Option Nat))) (P : List PR9) (fr : Int32) (t : LU9) : Prop :=
  (uoR (pvw P) pid (nI 1) ∧ ulP f n lv pr pmo pst P fr t)
  ∨ (uoR (pvw P) pid (nI 2) ∧ usP f n P pid fr t.2.2.2.2.1 ∧ (t.1, t.2.1, t.2.2.1, t.2.2.2.1) = (lv, pr, pmo, pst))
  ∨ (uoR (pvw P) pid (nI 3) ∧ fr = 0 ∧ uoP f n P pid t.2.2.2.2.1 t.2.2.2.2.2 ∧ (t.1, t.2.1, t.2.2.1, t.2.2.2.1) = (lv, pr, pmo, pst))
  ∨ ((uoR (pvw P) pid (nI 0) ∨ uoR (pvw P) pid (nI 4)) ∧ fr = 0 ∧ t = (lv, pr, pmo, pst, P, []))
abbrev ES9 : Type := (Nat → Int32) × List LZ × List LZ × LU9
def gdS (f : Nat → Int32) (n : Nat) : Prop := 12 ≤ n ∧ rw_ck f n 1024 0 n = 0
def esP (f : Nat → Int32) (n pid la : Nat) (cn : Nat → Int32) (T1 T2 : List LZ) (lv : Int32) (pr : Nat) (pmo : Int32) (pst : Option (Nat × (Nat → Option Nat))) (P : List PR9) (u : ES9) : Prop :=
  (¬ gdS f n ∧ u = (cup cn 7, T1, T2, lv, pr, pmo, pst, P, []))
  ∨ (gdS f n ∧ ∃ fr, esT f (n - 4) pid lv pr pmo pst P fr u.2.2.2 ∧ ((fr = 0 ∧ u.1 = cup cn 6 ∧ u.2.1 = T1 ∧ u.2.2.1 = T2) ∨ (¬ fr = 0 ∧ u.1 = addc (cup cn 6) (pNs la 256 (T1 ++ T2)) ∧ u.2.1 = T1.map (gvz la) ∧ u.2.2.1 = T2.map (gvz la))))
theorem es_perm {X C A B I9 L Q : va_W} : (X ++ (C ++ (A ++ (B ++ (I9 ++ (L ++ Q)))))).Perm (X ++ ((C ++ I9) ++ (L ++ (A ++ (B ++ Q))))) := by
  refine List.Perm.append_left X ?_
  rw [List.append_assoc C]
  refine List.Perm.append_left C ?_
  refine (List.Perm.append_left A (List.perm_append_comm_assoc _ _ _)).trans ?_
  refine (List.perm_append_comm_assoc _ _ _).trans ?_
  refine List.Perm.append_left I9 ?_
  refine (List.Perm.append_left A (List.perm_append_comm_assoc _ _ _)).trans ?_
  exact List.perm_append_comm_assoc _ _ _
theorem es_map {la : Nat} {T1 T2 : List LZ} {z : LZ} (h : z.1 = la) : (T1 ++ z :: T2).map (gvz la) = T1.map (gvz la) ++ z :: T2.map (gvz la) := by
  rw [List.map_append, List.map_cons, (gv_eq h).1]
theorem es_pN {la : Nat} {T1 T2 : List LZ} {z : LZ} (h : z.1 = la) : pNs la 256 (T1 ++ z :: T2) = pNs la 256 (T1 ++ T2) := by
  rw [pNs_app, pNs_app]
  show _ + (pNz la 256 z + pNs la 256 T2) = _
  have e : pNz la 256 z = 0 := by
    unfold pNz
    rw [(gv_eq h).2]
    split <;> rfl
  rw [e, Int32.zero_add]

set_option maxHeartbeats 16000000 in
set_option maxRecDepth 100000 in
theorem c_Receiver_endSection (l : Launch) (D : va_G) (B0 : State) (hG : zG B0) (sz : Nat) (cB cI : ClassId) (rv tp ln tb ca dp : Nat) (cn : Nat → Int32) (cN : ClassId) (hd : Nat) (hf : Nat → Option Nat) (la pid : Nat) (nx : Option Nat) (ct tw : Int32) (ck : Int64) (wr : Int32) (pi : Option PQ9) (h a n : Nat) (f : Nat → Int32) (T1 T2 : List LZ) (cO : ClassId) (e0 pr : Nat) (lv pmo : Int32) (pst : Option (Nat × (Nat → Option Nat))) (P : List PR9) (Q : va_W) (Im : va_W) (hn : n ≤ 1024) (hLN : ∀ k, k < 256 → hf k = lhd k (T1 ++ (la, pid, nx, ct, tw, ck, wr, some (h, a, n, f), pi) :: T2)) (hok : lok (T1 ++ (la, pid, nx, ct, tw, ck, wr, some (h, a, n, f), pi) :: T2)) (hLse : ∀ z ∈ T1 ++ T2, ∀ q, z.2.2.2.2.2.2.2.1 = some q → q.2.2.1 ≤ 1024) (hpid : pid < 8192) (he0 : zE0 B0 e0) (htk : tok Im cO pst P) (hIm : ∀ y ∈ Im, y ∈ Q) (haw : awk P) : Met l y_Receiver_endSection [Cond.code y_Receiver_endSection b_Receiver_endSection 5 none] ({ frames := 8, cells := seC pid n, slots := seS pid n, locals := 180 }) (zMo [.ref rv, .ref la, .ref h] D ([(rv, .inr (4, [.ref tp, .ref ln, .ref tb, .ref ca, .ref dp])), (ca, .inl (cI, 10, .inl cn)), (ln, .inr (2, [.ref hd])), (hd, .inl (cN, 256, .inr (.inr (.inr (.inr hf))))), (la, .inr (1, [.int (nI pid), va_rf nx, .int ct, .int tw, .long ck, .int wr, .ref h, va_rf (pi.map (fun q => q.1))])), (h, .inr (0, [.ref a, .int (nI n)])), (a, .inl (cB, 1024, .inl f))] ++ (tplr cO e0 tb lv pr P.length pmo pst P ++ (lzI pi ++ (lpl cB (T1 ++ T2) ++ Q)))) [(cB, .byte), (cI, .int), (cN, .object "StreamSplitter$Lane"), (cO, .object "java/lang/Object")] sz B0) (va_Qv (fun (u : ES9) => esP f n pid la cn T1 T2 lv pr pmo pst P u ∧ tok (u.2.2.2.2.2.2.2.2 ++ Im) cO u.2.2.2.2.2.2.1 u.2.2.2.2.2.2.2.1 ∧ awk u.2.2.2.2.2.2.2.1) (fun (u : ES9) t => zW D (va_A ([(rv, .inr (4, [.ref tp, .ref ln, .ref tb, .ref ca, .ref dp])), (ca, .inl (cI, 10, .inl cn)), (ln, .inr (2, [.ref hd])), (hd, .inl (cN, 256, .inr (.inr (.inr (.inr hf))))), (la, .inr (1, [.int (nI pid), va_rf nx, .int ct, .int tw, .long ck, .int wr, .ref h, va_rf (pi.map (fun q => q.1))])), (h, .inr (0, [.ref a, .int (nI n)])), (a, .inl (cB, 1024, .inl f))] ++ (tplr cO e0 tb lv pr P.length pmo pst P ++ (lzI pi ++ (lpl cB (T1 ++ T2) ++ Q)))) sz) ([(rv, .inr (4, [.ref tp, .ref ln, .ref tb, .ref ca, .ref dp])), (ca, .inl (cI, 10, .inl u.1)), (ln, .inr (2, [.ref hd])), (hd, .inl (cN, 256, .inr (.inr (.inr (.inr hf))))), (la, .inr (1, [.int (nI pid), va_rf nx, .int ct, .int tw, .long ck, .int wr, .ref h, va_rf (pi.map (fun q => q.1))])), (h, .inr (0, [.ref a, .int (nI 0)])), (a, .inl (cB, 1024, .inl f))] ++ (tplr cO e0 tb u.2.2.2.1 u.2.2.2.2.1 u.2.2.2.2.2.2.2.1.length u.2.2.2.2.2.1 u.2.2.2.2.2.2.1 u.2.2.2.2.2.2.2.1 ++ (u.2.2.2.2.2.2.2.2 ++ (lzI pi ++ (lpl cB (u.2.1 ++ u.2.2.1) ++ Q))))) [(cB, .byte), (cI, .int), (cN, .object "StreamSplitter$Lane"), (cO, .object "java/lang/Object")] t) (va_A ([(rv, .inr (4, [.ref tp, .ref ln, .ref tb, .ref ca, .ref dp])), (ca, .inl (cI, 10, .inl cn)), (ln, .inr (2, [.ref hd])), (hd, .inl (cN, 256, .inr (.inr (.inr (.inr hf))))), (la, .inr (1, [.int (nI pid), va_rf nx, .int ct, .int tw, .long ck, .int wr, .ref h, va_rf (pi.map (fun q => q.1))])), (h, .inr (0, [.ref a, .int (nI n)])), (a, .inl (cB, 1024, .inl f))] ++ (tplr cO e0 tb lv pr P.length pmo pst P ++ (lzI pi ++ (lpl cB (T1 ++ T2) ++ Q)))) sz)) (seC pid n) (seS pid n) (va_A ([(rv, .inr (4, [.ref tp, .ref ln, .ref tb, .ref ca, .ref dp])), (ca, .inl (cI, 10, .inl cn)), (ln, .inr (2, [.ref hd])), (hd, .inl (cN, 256, .inr (.inr (.inr (.inr hf))))), (la, .inr (1, [.int (nI pid), va_rf nx, .int ct, .int tw, .long ck, .int wr, .ref h, va_rf (pi.map (fun q => q.1))])), (h, .inr (0, [.ref a, .int (nI n)])), (a, .inl (cB, 1024, .inl f))] ++ (tplr cO e0 tb lv pr P.length pmo pst P ++ (lzI pi ++ (lpl cB (T1 ++ T2) ++ Q)))) sz) := by
  refine Met.ofW (cc := b_Receiver_endSection) (maxL := 5) (ret := none) (by decide) rfl ?_
  intro p e s m args below meth cd s₁ Bd hml hv
  obtain ⟨rfl, hsz, hP, hK, hN, hD0, hO⟩ := hv
  have hx := Bd.exec
  have hb := Bd.bytes
  have hr := Bd.returns
  have hts := hN.use (a := ([.ref rv, .ref la, .ref h]).toArray)
  have hown : s.vm.findClass R_Receiver = some m.cls := findClass_of_methodNamed Bd.named
  have hlocks := Bd.notSynchronized
  subst hsz
  have hD := hD0.self (sz := s.heap.size)
  have hAO := z_AO hD0 hO
  clear hD0
  have hA : ∀ q : Nat, s.heap.size ≤ q → va_A ([(rv, .inr (4, [.ref tp, .ref ln, .ref tb, .ref ca, .ref dp])), (ca, .inl (cI, 10, .inl cn)), (ln, .inr (2, [.ref hd])), (hd, .inl (cN, 256, .inr (.inr (.inr (.inr hf))))), (la, .inr (1, [.int (nI pid), va_rf nx, .int ct, .int tw, .long ck, .int wr, .ref h, va_rf (pi.map (fun q => q.1))])), (h, .inr (0, [.ref a, .int (nI n)])), (a, .inl (cB, 1024, .inl f))] ++ (tplr cO e0 tb lv pr P.length pmo pst P ++ (lzI pi ++ (lpl cB (T1 ++ T2) ++ Q)))) s.heap.size q := fun q h => Or.inr h
  have hS : va_S (va_A ([(rv, .inr (4, [.ref tp, .ref ln, .ref tb, .ref ca, .ref dp])), (ca, .inl (cI, 10, .inl cn)), (ln, .inr (2, [.ref hd])), (hd, .inl (cN, 256, .inr (.inr (.inr (.inr hf))))), (la, .inr (1, [.int (nI pid), va_rf nx, .int ct, .int tw, .long ck, .int wr, .ref h, va_rf (pi.map (fun q => q.1))])), (h, .inr (0, [.ref a, .int (nI n)])), (a, .inl (cB, 1024, .inl f))] ++ (tplr cO e0 tb lv pr P.length pmo pst P ++ (lzI pi ++ (lpl cB (T1 ++ T2) ++ Q)))) s.heap.size) s.heap s.heap [] := va_S.rf
  generalize hAe : va_A ([(rv, .inr (4, [.ref tp, .ref ln, .ref tb, .ref ca, .ref dp])), (ca, .inl (cI, 10, .inl cn)), (ln, .inr (2, [.ref hd])), (hd, .inl (cN, 256, .inr (.inr (.inr (.inr hf))))), (la, .inr (1, [.int (nI pid), va_rf nx, .int ct, .int tw, .long ck, .int wr, .ref h, va_rf (pi.map (fun q => q.1))])), (h, .inr (0, [.ref a, .int (nI n)])), (a, .inl (cB, 1024, .inl f))] ++ (tplr cO e0 tb lv pr P.length pmo pst P ++ (lzI pi ++ (lpl cB (T1 ++ T2) ++ Q)))) s.heap.size = A at hD hA hS hAO ⊢
  have hP : va_P D classes ([(rv, .inr (4, [.ref tp, .ref ln, .ref tb, .ref ca, .ref dp])), (ca, .inl (cI, 10, .inl cn)), (ln, .inr (2, [.ref hd])), (hd, .inl (cN, 256, .inr (.inr (.inr (.inr hf))))), (la, .inr (1, [.int (nI pid), va_rf nx, .int ct, .int tw, .long ck, .int wr, .ref h, va_rf (pi.map (fun q => q.1))])), (h, .inr (0, [.ref a, .int (nI n)])), (a, .inl (cB, 1024, .inl f))] ++ (tplr cO e0 tb lv pr P.length pmo pst P ++ (lzI pi ++ (lpl cB (T1 ++ T2) ++ Q)))) s.heap := hP
  have hl := lv_entry ([.ref rv, .ref la, .ref h]) (n := 5) (Nat.le_of_ble_eq_true rfl)
  rw [lg_entry_eq]
  generalize (lg_sl ([.ref rv, .ref la, .ref h]) ++ List.replicate (5 - (lg_sl ([.ref rv, .ref la, .ref h])).length) Slot.unset).toArray = ls at hl ⊢
  have hl : lv_has ls 5 [(0, .ref rv), (1, .ref la), (2, .ref h)] := hl
  have hIm9 : ∀ y ∈ Im, y ∈ (lzI pi ++ (lpl cB (T1 ++ T2) ++ Q)) := fun y hy => List.mem_append_right _ (List.mem_append_right _ (hIm y hy))
  refine lv_aload_n hx hb d_Receiver_endSection_0 rfl (lv_at hl 2 rfl) ?_
  refine va_getN (D := D) (ci := 0) (v := .int (nI n)) (C := R_Row) (T := F_Row) (N := 2) hx hb hts i_Row hown hK hP 5 rfl rfl 1 (by decide) (hts _ wd_111) (fun _ h9 => h9) rfl d_Receiver_endSection_1 ?_
  refine lv_bipush (v := 12) hx hb d_Receiver_endSection_4 (by decide) ?_
  refine lv_icmp_lt (tgt := 25) hx hb d_Receiver_endSection_6 rfl (fun h6 => ?_) (fun h6 => ?_)
  · have h6 := (nI_ltI (b := 12) (by omega) (by omega)).mp h6
    refine lv_iconst (v := 0) hx hb d_Receiver_endSection_25 (by decide) ?_
    refine lv_istore_n (lv' := [(3, .int 0), (0, .ref rv), (1, .ref la), (2, .ref h)]) hx hb d_Receiver_endSection_26 rfl hl (by decide) rfl (fun ls hl => ?_)
    refine lv_aload_n hx hb d_Receiver_endSection_27 rfl (lv_at hl 1 rfl) ?_
    refine va_get (D := D) (ci := 4) (v := .ref ca) (C := R_Receiver) (T := F_Receiver) (N := 5) hx hb hts i_Receiver hown hK hP 0 rfl rfl 3 (by decide) (hts _ wd_181) (fun _ h9 => h9) rfl d_Receiver_endSection_28 ?_
    refine lv_iload_n hx hb d_Receiver_endSection_31 rfl (lv_at hl 0 rfl) ?_
    refine lv_if_eq (tgt := 40) hx hb d_Receiver_endSection_32 rfl (fun h32 => ?_) (fun h9 => absurd h9 (by decide))
    refine lv_bipush (v := 7) hx hb d_Receiver_endSection_40 (by decide) ?_
    refine lv_dup2_11 hx hb d_Receiver_endSection_42 rfl rfl ?_
    refine z_iald hx hb hK hP 1 1 rfl rfl 7 rfl (by omega) (by omega) d_Receiver_endSection_43 ?_
    refine lv_iconst (v := 1) hx hb d_Receiver_endSection_44 (by decide) ?_
    refine lv_iadd hx hb d_Receiver_endSection_45 ?_
    refine z_iast hx hb hK hP hD hS 1 1 rfl rfl 7 rfl (by omega) (by omega) d_Receiver_endSection_46 (fun H locs hP hD hS => ?_)
    have hP : va_P D classes ([(rv, .inr (4, [.ref tp, .ref ln, .ref tb, .ref ca, .ref dp])), (ca, .inl (cI, 10, .inl (upd cn 7 ((cn 7) + 1)))), (ln, .inr (2, [.ref hd])), (hd, .inl (cN, 256, .inr (.inr (.inr (.inr hf))))), (la, .inr (1, [.int (nI pid), va_rf nx, .int ct, .int tw, .long ck, .int wr, .ref h, va_rf (pi.map (fun q => q.1))])), (h, .inr (0, [.ref a, .int (nI n)])), (a, .inl (cB, 1024, .inl f))] ++ (tplr cO e0 tb lv pr P.length pmo pst P ++ (lzI pi ++ (lpl cB (T1 ++ T2) ++ Q)))) H := hP
    have hD : va_D A ([(rv, .inr (4, [.ref tp, .ref ln, .ref tb, .ref ca, .ref dp])), (ca, .inl (cI, 10, .inl (upd cn 7 ((cn 7) + 1)))), (ln, .inr (2, [.ref hd])), (hd, .inl (cN, 256, .inr (.inr (.inr (.inr hf))))), (la, .inr (1, [.int (nI pid), va_rf nx, .int ct, .int tw, .long ck, .int wr, .ref h, va_rf (pi.map (fun q => q.1))])), (h, .inr (0, [.ref a, .int (nI n)])), (a, .inl (cB, 1024, .inl f))] ++ (tplr cO e0 tb lv pr P.length pmo pst P ++ (lzI pi ++ (lpl cB (T1 ++ T2) ++ Q)))) := hD
    rw [show upd cn 7 ((cn 7) + 1) = cup cn 7 from rfl] at hP hD
    have hP : va_P D classes ([(rv, .inr (4, [.ref tp, .ref ln, .ref tb, .ref ca, .ref dp])), (ca, .inl (cI, 10, .inl (cup cn 7))), (ln, .inr (2, [.ref hd])), (hd, .inl (cN, 256, .inr (.inr (.inr (.inr hf))))), (la, .inr (1, [.int (nI pid), va_rf nx, .int ct, .int tw, .long ck, .int wr, .ref h, va_rf (pi.map (fun q => q.1))])), (h, .inr (0, [.ref a, .int (nI n)])), (a, .inl (cB, 1024, .inl f))] ++ (tplr cO e0 tb lv pr P.length pmo pst P ++ (lzI pi ++ (lpl cB (T1 ++ T2) ++ Q)))) H := hP
    have hD : va_D A ([(rv, .inr (4, [.ref tp, .ref ln, .ref tb, .ref ca, .ref dp])), (ca, .inl (cI, 10, .inl (cup cn 7))), (ln, .inr (2, [.ref hd])), (hd, .inl (cN, 256, .inr (.inr (.inr (.inr hf))))), (la, .inr (1, [.int (nI pid), va_rf nx, .int ct, .int tw, .long ck, .int wr, .ref h, va_rf (pi.map (fun q => q.1))])), (h, .inr (0, [.ref a, .int (nI n)])), (a, .inl (cB, 1024, .inl f))] ++ (tplr cO e0 tb lv pr P.length pmo pst P ++ (lzI pi ++ (lpl cB (T1 ++ T2) ++ Q)))) := hD
    refine lv_iload_n hx hb d_Receiver_endSection_47 rfl (lv_at hl 0 rfl) ?_
    refine lv_if_eq (tgt := 155) hx hb d_Receiver_endSection_48 rfl (fun h48 => ?_) (fun h9 => absurd h9 (by decide))
    refine lv_aload_n hx hb d_Receiver_endSection_155 rfl (lv_at hl 3 rfl) ?_
    refine lv_iconst (v := 0) hx hb d_Receiver_endSection_156 (by decide) ?_
    refine va_putN (D := D) (ci := 0) (v := .int 0) (ty := .int) (C := R_Row) (T := F_Row) (N := 2) hx hb hts i_Row t_Row t_Row_ok n_Row hown hK hP hD hS 5 rfl rfl 1 (by decide) (hts _ wd_111) (fun _ h9 => h9) rfl (by decide +kernel) rfl rfl (Nat.le_of_ble_eq_true rfl) d_Receiver_endSection_157 (fun H locs hP hD hS => ?_)
    have hP : va_P D classes ([(rv, .inr (4, [.ref tp, .ref ln, .ref tb, .ref ca, .ref dp])), (ca, .inl (cI, 10, .inl (cup cn 7))), (ln, .inr (2, [.ref hd])), (hd, .inl (cN, 256, .inr (.inr (.inr (.inr hf))))), (la, .inr (1, [.int (nI pid), va_rf nx, .int ct, .int tw, .long ck, .int wr, .ref h, va_rf (pi.map (fun q => q.1))])), (h, .inr (0, [.ref a, .int 0])), (a, .inl (cB, 1024, .inl f))] ++ (tplr cO e0 tb lv pr P.length pmo pst P ++ (lzI pi ++ (lpl cB (T1 ++ T2) ++ Q)))) H := hP
    have hD : va_D A ([(rv, .inr (4, [.ref tp, .ref ln, .ref tb, .ref ca, .ref dp])), (ca, .inl (cI, 10, .inl (cup cn 7))), (ln, .inr (2, [.ref hd])), (hd, .inl (cN, 256, .inr (.inr (.inr (.inr hf))))), (la, .inr (1, [.int (nI pid), va_rf nx, .int ct, .int tw, .long ck, .int wr, .ref h, va_rf (pi.map (fun q => q.1))])), (h, .inr (0, [.ref a, .int 0])), (a, .inl (cB, 1024, .inl f))] ++ (tplr cO e0 tb lv pr P.length pmo pst P ++ (lzI pi ++ (lpl cB (T1 ++ T2) ++ Q)))) := hD
    have hP9 := hP.part (cx := [(rv, .inr (4, [.ref tp, .ref ln, .ref tb, .ref ca, .ref dp])), (ca, .inl (cI, 10, .inl (cup cn 7))), (ln, .inr (2, [.ref hd])), (hd, .inl (cN, 256, .inr (.inr (.inr (.inr hf))))), (la, .inr (1, [.int (nI pid), va_rf nx, .int ct, .int tw, .long ck, .int wr, .ref h, va_rf (pi.map (fun q => q.1))])), (h, .inr (0, [.ref a, .int 0])), (a, .inl (cB, 1024, .inl f))]) [0, 1, 2, 3, 4, 5, 6] rfl
    have hD9 := hD.part (cx := [(rv, .inr (4, [.ref tp, .ref ln, .ref tb, .ref ca, .ref dp])), (ca, .inl (cI, 10, .inl (cup cn 7))), (ln, .inr (2, [.ref hd])), (hd, .inl (cN, 256, .inr (.inr (.inr (.inr hf))))), (la, .inr (1, [.int (nI pid), va_rf nx, .int ct, .int tw, .long ck, .int wr, .ref h, va_rf (pi.map (fun q => q.1))])), (h, .inr (0, [.ref a, .int 0])), (a, .inl (cB, 1024, .inl f))]) [0, 1, 2, 3, 4, 5, 6] (by decide) rfl
    have hK9 := hK.sub (tys' := [(cB, .byte), (cI, .int), (cN, .object "StreamSplitter$Lane"), (cO, .object "java/lang/Object")]) [0, 1, 2, 3] rfl
    refine W.widen (k := seC pid n) (n := seS pid n) (by show 0 ≤ seC pid n; omega) (by show 0 ≤ seS pid n; omega) ?_
    exact W.vret hx hb hr (fun t ht hW => ⟨⟨(cup cn 7, T1, T2, lv, pr, pmo, pst, P, []), rfl, ⟨Or.inl ⟨by first | exact fun q => h18 q.2 | exact fun q => absurd q.1 (by omega), rfl⟩, htk, haw⟩, ⟨by rw [ht]; exact hP9, va_K.moved hW.alike hK9, hD9⟩⟩, hS.F ht⟩) hS.2.2 d_Receiver_endSection_160
  · have h6 := mt (nI_ltI (b := 12) (by omega) (by omega)).mpr h6
    refine lv_aload_n hx hb d_Receiver_endSection_9 rfl (lv_at hl 2 rfl) ?_
    refine lv_iconst (v := 0) hx hb d_Receiver_endSection_10 (by decide) ?_
    refine lv_aload_n hx hb d_Receiver_endSection_11 rfl (lv_at hl 2 rfl) ?_
    refine va_getN (D := D) (ci := 0) (v := .int (nI n)) (C := R_Row) (T := F_Row) (N := 2) hx hb hts i_Row hown hK hP 5 rfl rfl 1 (by decide) (hts _ wd_111) (fun _ h9 => h9) rfl d_Receiver_endSection_12 ?_
    refine z_topi (w := nI (0 + n)) (by rw [Nat.zero_add]) ?_
    have hPc := hP.sub (ws' := [(h, .inr (0, [.ref a, .int (nI n)])), (a, .inl (cB, 1024, .inl f))]) [5, 6] rfl
    have hKc := hK.sub (tys' := [(cB, .byte)]) [0] rfl
    refine z_ci (va_runV (As := [.int (nI 0), .int (nI (0 + n))]) (rest := []) ⟨hx, hb, hml, hown, hts⟩ (c_Row_checkOf l D cB h a n 1024 f 0 n (by omega) (by omega)) (z_cV hN wd_546 wd_61 wd_543 hd_Row_checkOf rfl rfl ⟨Nat.le_of_ble_eq_true rfl, Nat.le_of_ble_eq_true rfl⟩ wd_544 wd_545) (z_preV (va_recv (ci := 0) (q0 := 5) hK hP rfl rfl) hPc hKc hN) rfl rfl hl.1 rfl (lv_room (Nat.le_of_ble_eq_true rfl)) d_Receiver_endSection_15 ⟨by show 0 + 0 ≤ seC pid n; omega, by show 0 + 0 ≤ seS pid n; omega⟩) (fun r15 e15 => ?_)
    refine z_topi (w := rw_ck f n 1024 0 n) e15 ?_
    refine lv_if_ne (tgt := 25) hx hb d_Receiver_endSection_18 rfl (fun h18 => ?_) (fun h18 => ?_)
    · have h18 : ¬ rw_ck f n 1024 0 n = 0 := h18
      refine lv_iconst (v := 0) hx hb d_Receiver_endSection_25 (by decide) ?_
      refine lv_istore_n (lv' := [(3, .int 0), (0, .ref rv), (1, .ref la), (2, .ref h)]) hx hb d_Receiver_endSection_26 rfl hl (by decide) rfl (fun ls hl => ?_)
      refine lv_aload_n hx hb d_Receiver_endSection_27 rfl (lv_at hl 1 rfl) ?_
      refine va_get (D := D) (ci := 4) (v := .ref ca) (C := R_Receiver) (T := F_Receiver) (N := 5) hx hb hts i_Receiver hown hK hP 0 rfl rfl 3 (by decide) (hts _ wd_181) (fun _ h9 => h9) rfl d_Receiver_endSection_28 ?_
      refine lv_iload_n hx hb d_Receiver_endSection_31 rfl (lv_at hl 0 rfl) ?_
      refine lv_if_eq (tgt := 40) hx hb d_Receiver_endSection_32 rfl (fun h32 => ?_) (fun h9 => absurd h9 (by decide))
      refine lv_bipush (v := 7) hx hb d_Receiver_endSection_40 (by decide) ?_
      refine lv_dup2_11 hx hb d_Receiver_endSection_42 rfl rfl ?_
      refine z_iald hx hb hK hP 1 1 rfl rfl 7 rfl (by omega) (by omega) d_Receiver_endSection_43 ?_
      refine lv_iconst (v := 1) hx hb d_Receiver_endSection_44 (by decide) ?_
      refine lv_iadd hx hb d_Receiver_endSection_45 ?_
      refine z_iast hx hb hK hP hD hS 1 1 rfl rfl 7 rfl (by omega) (by omega) d_Receiver_endSection_46 (fun H locs hP hD hS => ?_)
      have hP : va_P D classes ([(rv, .inr (4, [.ref tp, .ref ln, .ref tb, .ref ca, .ref dp])), (ca, .inl (cI, 10, .inl (upd cn 7 ((cn 7) + 1)))), (ln, .inr (2, [.ref hd])), (hd, .inl (cN, 256, .inr (.inr (.inr (.inr hf))))), (la, .inr (1, [.int (nI pid), va_rf nx, .int ct, .int tw, .long ck, .int wr, .ref h, va_rf (pi.map (fun q => q.1))])), (h, .inr (0, [.ref a, .int (nI n)])), (a, .inl (cB, 1024, .inl f))] ++ (tplr cO e0 tb lv pr P.length pmo pst P ++ (lzI pi ++ (lpl cB (T1 ++ T2) ++ Q)))) H := hP
      have hD : va_D A ([(rv, .inr (4, [.ref tp, .ref ln, .ref tb, .ref ca, .ref dp])), (ca, .inl (cI, 10, .inl (upd cn 7 ((cn 7) + 1)))), (ln, .inr (2, [.ref hd])), (hd, .inl (cN, 256, .inr (.inr (.inr (.inr hf))))), (la, .inr (1, [.int (nI pid), va_rf nx, .int ct, .int tw, .long ck, .int wr, .ref h, va_rf (pi.map (fun q => q.1))])), (h, .inr (0, [.ref a, .int (nI n)])), (a, .inl (cB, 1024, .inl f))] ++ (tplr cO e0 tb lv pr P.length pmo pst P ++ (lzI pi ++ (lpl cB (T1 ++ T2) ++ Q)))) := hD
      rw [show upd cn 7 ((cn 7) + 1) = cup cn 7 from rfl] at hP hD
      have hP : va_P D classes ([(rv, .inr (4, [.ref tp, .ref ln, .ref tb, .ref ca, .ref dp])), (ca, .inl (cI, 10, .inl (cup cn 7))), (ln, .inr (2, [.ref hd])), (hd, .inl (cN, 256, .inr (.inr (.inr (.inr hf))))), (la, .inr (1, [.int (nI pid), va_rf nx, .int ct, .int tw, .long ck, .int wr, .ref h, va_rf (pi.map (fun q => q.1))])), (h, .inr (0, [.ref a, .int (nI n)])), (a, .inl (cB, 1024, .inl f))] ++ (tplr cO e0 tb lv pr P.length pmo pst P ++ (lzI pi ++ (lpl cB (T1 ++ T2) ++ Q)))) H := hP
      have hD : va_D A ([(rv, .inr (4, [.ref tp, .ref ln, .ref tb, .ref ca, .ref dp])), (ca, .inl (cI, 10, .inl (cup cn 7))), (ln, .inr (2, [.ref hd])), (hd, .inl (cN, 256, .inr (.inr (.inr (.inr hf))))), (la, .inr (1, [.int (nI pid), va_rf nx, .int ct, .int tw, .long ck, .int wr, .ref h, va_rf (pi.map (fun q => q.1))])), (h, .inr (0, [.ref a, .int (nI n)])), (a, .inl (cB, 1024, .inl f))] ++ (tplr cO e0 tb lv pr P.length pmo pst P ++ (lzI pi ++ (lpl cB (T1 ++ T2) ++ Q)))) := hD
      refine lv_iload_n hx hb d_Receiver_endSection_47 rfl (lv_at hl 0 rfl) ?_
      refine lv_if_eq (tgt := 155) hx hb d_Receiver_endSection_48 rfl (fun h48 => ?_) (fun h9 => absurd h9 (by decide))
      refine lv_aload_n hx hb d_Receiver_endSection_155 rfl (lv_at hl 3 rfl) ?_
      refine lv_iconst (v := 0) hx hb d_Receiver_endSection_156 (by decide) ?_
      refine va_putN (D := D) (ci := 0) (v := .int 0) (ty := .int) (C := R_Row) (T := F_Row) (N := 2) hx hb hts i_Row t_Row t_Row_ok n_Row hown hK hP hD hS 5 rfl rfl 1 (by decide) (hts _ wd_111) (fun _ h9 => h9) rfl (by decide +kernel) rfl rfl (Nat.le_of_ble_eq_true rfl) d_Receiver_endSection_157 (fun H locs hP hD hS => ?_)
      have hP : va_P D classes ([(rv, .inr (4, [.ref tp, .ref ln, .ref tb, .ref ca, .ref dp])), (ca, .inl (cI, 10, .inl (cup cn 7))), (ln, .inr (2, [.ref hd])), (hd, .inl (cN, 256, .inr (.inr (.inr (.inr hf))))), (la, .inr (1, [.int (nI pid), va_rf nx, .int ct, .int tw, .long ck, .int wr, .ref h, va_rf (pi.map (fun q => q.1))])), (h, .inr (0, [.ref a, .int 0])), (a, .inl (cB, 1024, .inl f))] ++ (tplr cO e0 tb lv pr P.length pmo pst P ++ (lzI pi ++ (lpl cB (T1 ++ T2) ++ Q)))) H := hP
      have hD : va_D A ([(rv, .inr (4, [.ref tp, .ref ln, .ref tb, .ref ca, .ref dp])), (ca, .inl (cI, 10, .inl (cup cn 7))), (ln, .inr (2, [.ref hd])), (hd, .inl (cN, 256, .inr (.inr (.inr (.inr hf))))), (la, .inr (1, [.int (nI pid), va_rf nx, .int ct, .int tw, .long ck, .int wr, .ref h, va_rf (pi.map (fun q => q.1))])), (h, .inr (0, [.ref a, .int 0])), (a, .inl (cB, 1024, .inl f))] ++ (tplr cO e0 tb lv pr P.length pmo pst P ++ (lzI pi ++ (lpl cB (T1 ++ T2) ++ Q)))) := hD
      have hP9 := hP.part (cx := [(rv, .inr (4, [.ref tp, .ref ln, .ref tb, .ref ca, .ref dp])), (ca, .inl (cI, 10, .inl (cup cn 7))), (ln, .inr (2, [.ref hd])), (hd, .inl (cN, 256, .inr (.inr (.inr (.inr hf))))), (la, .inr (1, [.int (nI pid), va_rf nx, .int ct, .int tw, .long ck, .int wr, .ref h, va_rf (pi.map (fun q => q.1))])), (h, .inr (0, [.ref a, .int 0])), (a, .inl (cB, 1024, .inl f))]) [0, 1, 2, 3, 4, 5, 6] rfl
      have hD9 := hD.part (cx := [(rv, .inr (4, [.ref tp, .ref ln, .ref tb, .ref ca, .ref dp])), (ca, .inl (cI, 10, .inl (cup cn 7))), (ln, .inr (2, [.ref hd])), (hd, .inl (cN, 256, .inr (.inr (.inr (.inr hf))))), (la, .inr (1, [.int (nI pid), va_rf nx, .int ct, .int tw, .long ck, .int wr, .ref h, va_rf (pi.map (fun q => q.1))])), (h, .inr (0, [.ref a, .int 0])), (a, .inl (cB, 1024, .inl f))]) [0, 1, 2, 3, 4, 5, 6] (by decide) rfl
      have hK9 := hK.sub (tys' := [(cB, .byte), (cI, .int), (cN, .object "StreamSplitter$Lane"), (cO, .object "java/lang/Object")]) [0, 1, 2, 3] rfl
      refine W.widen (k := seC pid n) (n := seS pid n) (by show 0 ≤ seC pid n; omega) (by show 0 ≤ seS pid n; omega) ?_
      exact W.vret hx hb hr (fun t ht hW => ⟨⟨(cup cn 7, T1, T2, lv, pr, pmo, pst, P, []), rfl, ⟨Or.inl ⟨by first | exact fun q => h18 q.2 | exact fun q => absurd q.1 (by omega), rfl⟩, htk, haw⟩, ⟨by rw [ht]; exact hP9, va_K.moved hW.alike hK9, hD9⟩⟩, hS.F ht⟩) hS.2.2 d_Receiver_endSection_160
    · have h18 : rw_ck f n 1024 0 n = 0 := by first | exact h18 | exact Classical.not_not.mp h18
      have hgd : gdS f n := ⟨by omega, h18⟩
      refine lv_iconst (v := 1) hx hb d_Receiver_endSection_21 (by decide) ?_
      refine lv_goto (tgt := 26) hx hb d_Receiver_endSection_22 rfl ?_
      refine lv_istore_n (lv' := [(3, .int 1), (0, .ref rv), (1, .ref la), (2, .ref h)]) hx hb d_Receiver_endSection_26 rfl hl (by decide) rfl (fun ls hl => ?_)
      refine lv_aload_n hx hb d_Receiver_endSection_27 rfl (lv_at hl 1 rfl) ?_
      refine va_get (D := D) (ci := 4) (v := .ref ca) (C := R_Receiver) (T := F_Receiver) (N := 5) hx hb hts i_Receiver hown hK hP 0 rfl rfl 3 (by decide) (hts _ wd_181) (fun _ h9 => h9) rfl d_Receiver_endSection_28 ?_
      refine lv_iload_n hx hb d_Receiver_endSection_31 rfl (lv_at hl 0 rfl) ?_
      refine lv_if_eq (tgt := 40) hx hb d_Receiver_endSection_32 rfl (fun h9 => absurd h9 (by decide)) (fun h32 => ?_)
      refine lv_bipush (v := 6) hx hb d_Receiver_endSection_35 (by decide) ?_
      refine lv_goto (tgt := 42) hx hb d_Receiver_endSection_37 rfl ?_
      refine lv_dup2_11 hx hb d_Receiver_endSection_42 rfl rfl ?_
      refine z_iald hx hb hK hP 1 1 rfl rfl 6 rfl (by omega) (by omega) d_Receiver_endSection_43 ?_
      refine lv_iconst (v := 1) hx hb d_Receiver_endSection_44 (by decide) ?_
      refine lv_iadd hx hb d_Receiver_endSection_45 ?_
      refine z_iast hx hb hK hP hD hS 1 1 rfl rfl 6 rfl (by omega) (by omega) d_Receiver_endSection_46 (fun H locs hP hD hS => ?_)
      have hP : va_P D classes ([(rv, .inr (4, [.ref tp, .ref ln, .ref tb, .ref ca, .ref dp])), (ca, .inl (cI, 10, .inl (upd cn 6 ((cn 6) + 1)))), (ln, .inr (2, [.ref hd])), (hd, .inl (cN, 256, .inr (.inr (.inr (.inr hf))))), (la, .inr (1, [.int (nI pid), va_rf nx, .int ct, .int tw, .long ck, .int wr, .ref h, va_rf (pi.map (fun q => q.1))])), (h, .inr (0, [.ref a, .int (nI n)])), (a, .inl (cB, 1024, .inl f))] ++ (tplr cO e0 tb lv pr P.length pmo pst P ++ (lzI pi ++ (lpl cB (T1 ++ T2) ++ Q)))) H := hP
      have hD : va_D A ([(rv, .inr (4, [.ref tp, .ref ln, .ref tb, .ref ca, .ref dp])), (ca, .inl (cI, 10, .inl (upd cn 6 ((cn 6) + 1)))), (ln, .inr (2, [.ref hd])), (hd, .inl (cN, 256, .inr (.inr (.inr (.inr hf))))), (la, .inr (1, [.int (nI pid), va_rf nx, .int ct, .int tw, .long ck, .int wr, .ref h, va_rf (pi.map (fun q => q.1))])), (h, .inr (0, [.ref a, .int (nI n)])), (a, .inl (cB, 1024, .inl f))] ++ (tplr cO e0 tb lv pr P.length pmo pst P ++ (lzI pi ++ (lpl cB (T1 ++ T2) ++ Q)))) := hD
      rw [show upd cn 6 ((cn 6) + 1) = cup cn 6 from rfl] at hP hD
      have hP : va_P D classes ([(rv, .inr (4, [.ref tp, .ref ln, .ref tb, .ref ca, .ref dp])), (ca, .inl (cI, 10, .inl (cup cn 6))), (ln, .inr (2, [.ref hd])), (hd, .inl (cN, 256, .inr (.inr (.inr (.inr hf))))), (la, .inr (1, [.int (nI pid), va_rf nx, .int ct, .int tw, .long ck, .int wr, .ref h, va_rf (pi.map (fun q => q.1))])), (h, .inr (0, [.ref a, .int (nI n)])), (a, .inl (cB, 1024, .inl f))] ++ (tplr cO e0 tb lv pr P.length pmo pst P ++ (lzI pi ++ (lpl cB (T1 ++ T2) ++ Q)))) H := hP
      have hD : va_D A ([(rv, .inr (4, [.ref tp, .ref ln, .ref tb, .ref ca, .ref dp])), (ca, .inl (cI, 10, .inl (cup cn 6))), (ln, .inr (2, [.ref hd])), (hd, .inl (cN, 256, .inr (.inr (.inr (.inr hf))))), (la, .inr (1, [.int (nI pid), va_rf nx, .int ct, .int tw, .long ck, .int wr, .ref h, va_rf (pi.map (fun q => q.1))])), (h, .inr (0, [.ref a, .int (nI n)])), (a, .inl (cB, 1024, .inl f))] ++ (tplr cO e0 tb lv pr P.length pmo pst P ++ (lzI pi ++ (lpl cB (T1 ++ T2) ++ Q)))) := hD
      refine lv_iload_n hx hb d_Receiver_endSection_47 rfl (lv_at hl 0 rfl) ?_
      refine lv_if_eq (tgt := 155) hx hb d_Receiver_endSection_48 rfl (fun h9 => absurd h9 (by decide)) (fun h48 => ?_)
      refine lv_aload_n hx hb d_Receiver_endSection_51 rfl (lv_at hl 3 rfl) ?_
      refine lv_dup hx hb d_Receiver_endSection_52 rfl ?_
      refine va_getN (D := D) (ci := 0) (v := .int (nI n)) (C := R_Row) (T := F_Row) (N := 2) hx hb hts i_Row hown hK hP 5 rfl rfl 1 (by decide) (hts _ wd_111) (fun _ h9 => h9) rfl d_Receiver_endSection_53 ?_
      refine lv_iconst (v := 4) hx hb d_Receiver_endSection_56 (by decide) ?_
      refine lv_isub hx hb d_Receiver_endSection_57 ?_
      refine z_topi (w := nI (n - 4)) (pk_sub (b := 4) (by omega)) ?_
      refine va_putN (D := D) (ci := 0) (v := .int (nI (n - 4))) (ty := .int) (C := R_Row) (T := F_Row) (N := 2) hx hb hts i_Row t_Row t_Row_ok n_Row hown hK hP hD hS 5 rfl rfl 1 (by decide) (hts _ wd_111) (fun _ h9 => h9) rfl (by decide +kernel) rfl rfl (Nat.le_of_ble_eq_true rfl) d_Receiver_endSection_58 (fun H locs hP hD hS => ?_)
      have hP : va_P D classes ([(rv, .inr (4, [.ref tp, .ref ln, .ref tb, .ref ca, .ref dp])), (ca, .inl (cI, 10, .inl (cup cn 6))), (ln, .inr (2, [.ref hd])), (hd, .inl (cN, 256, .inr (.inr (.inr (.inr hf))))), (la, .inr (1, [.int (nI pid), va_rf nx, .int ct, .int tw, .long ck, .int wr, .ref h, va_rf (pi.map (fun q => q.1))])), (h, .inr (0, [.ref a, .int (nI (n - 4))])), (a, .inl (cB, 1024, .inl f))] ++ (tplr cO e0 tb lv pr P.length pmo pst P ++ (lzI pi ++ (lpl cB (T1 ++ T2) ++ Q)))) H := hP
      have hD : va_D A ([(rv, .inr (4, [.ref tp, .ref ln, .ref tb, .ref ca, .ref dp])), (ca, .inl (cI, 10, .inl (cup cn 6))), (ln, .inr (2, [.ref hd])), (hd, .inl (cN, 256, .inr (.inr (.inr (.inr hf))))), (la, .inr (1, [.int (nI pid), va_rf nx, .int ct, .int tw, .long ck, .int wr, .ref h, va_rf (pi.map (fun q => q.1))])), (h, .inr (0, [.ref a, .int (nI (n - 4))])), (a, .inl (cB, 1024, .inl f))] ++ (tplr cO e0 tb lv pr P.length pmo pst P ++ (lzI pi ++ (lpl cB (T1 ++ T2) ++ Q)))) := hD
      have lem145 : ∀ (fr : Int32) (lv2 : Int32) (pr2 : Nat) (pmo2 : Int32) (pst2 : Option (Nat × (Nat → Option Nat))) (P2 : List PR9) (nc : va_W) (H : Heap) (locs : List Loc) (ls : Array Slot) (hT2 : esT f (n - 4) pid lv pr pmo pst P fr (lv2, pr2, pmo2, pst2, P2, nc)) (htk2 : tok (nc ++ Im) cO pst2 P2) (haw2 : awk P2) (hl : lv_has ls 5 [(0, .ref rv), (1, .ref la), (2, .ref h), (4, .int fr)]) (hP : va_P D classes ([(rv, .inr (4, [.ref tp, .ref ln, .ref tb, .ref ca, .ref dp])), (ca, .inl (cI, 10, .inl (cup cn 6))), (ln, .inr (2, [.ref hd])), (hd, .inl (cN, 256, .inr (.inr (.inr (.inr hf))))), (la, .inr (1, [.int (nI pid), va_rf nx, .int ct, .int tw, .long ck, .int wr, .ref h, va_rf (pi.map (fun q => q.1))])), (h, .inr (0, [.ref a, .int (nI (n - 4))])), (a, .inl (cB, 1024, .inl f))] ++ (tplr cO e0 tb lv2 pr2 P2.length pmo2 pst2 P2 ++ (nc ++ (lzI pi ++ (lpl cB (T1 ++ T2) ++ Q))))) H) (hD : va_D A ([(rv, .inr (4, [.ref tp, .ref ln, .ref tb, .ref ca, .ref dp])), (ca, .inl (cI, 10, .inl (cup cn 6))), (ln, .inr (2, [.ref hd])), (hd, .inl (cN, 256, .inr (.inr (.inr (.inr hf))))), (la, .inr (1, [.int (nI pid), va_rf nx, .int ct, .int tw, .long ck, .int wr, .ref h, va_rf (pi.map (fun q => q.1))])), (h, .inr (0, [.ref a, .int (nI (n - 4))])), (a, .inl (cB, 1024, .inl f))] ++ (tplr cO e0 tb lv2 pr2 P2.length pmo2 pst2 P2 ++ (nc ++ (lzI pi ++ (lpl cB (T1 ++ T2) ++ Q)))))) (hS : va_S A s.heap H locs), W p l e ({ frames := 8, cells := seC pid n, slots := seS pid n, locals := 180 }) s m ([.ref rv, .ref la, .ref h]).toArray below meth cd H locs (seC pid n) (seS pid n) (MQ below (va_Qv (fun (u : ES9) => esP f n pid la cn T1 T2 lv pr pmo pst P u ∧ tok (u.2.2.2.2.2.2.2.2 ++ Im) cO u.2.2.2.2.2.2.1 u.2.2.2.2.2.2.2.1 ∧ awk u.2.2.2.2.2.2.2.1) (fun (u : ES9) t => zW D (A) ([(rv, .inr (4, [.ref tp, .ref ln, .ref tb, .ref ca, .ref dp])), (ca, .inl (cI, 10, .inl u.1)), (ln, .inr (2, [.ref hd])), (hd, .inl (cN, 256, .inr (.inr (.inr (.inr hf))))), (la, .inr (1, [.int (nI pid), va_rf nx, .int ct, .int tw, .long ck, .int wr, .ref h, va_rf (pi.map (fun q => q.1))])), (h, .inr (0, [.ref a, .int (nI 0)])), (a, .inl (cB, 1024, .inl f))] ++ (tplr cO e0 tb u.2.2.2.1 u.2.2.2.2.1 u.2.2.2.2.2.2.2.1.length u.2.2.2.2.2.1 u.2.2.2.2.2.2.1 u.2.2.2.2.2.2.2.1 ++ (u.2.2.2.2.2.2.2.2 ++ (lzI pi ++ (lpl cB (u.2.1 ++ u.2.2.1) ++ Q))))) [(cB, .byte), (cI, .int), (cN, .object "StreamSplitter$Lane"), (cO, .object "java/lang/Object")] t) (A)) ([.ref rv, .ref la, .ref h]).toArray s (seC pid n) (seS pid n) (A)) (F0 m 145 ls []) := by
        intro fr lv2 pr2 pmo2 pst2 P2 nc H locs ls hT2 htk2 haw2 hl hP hD hS
        refine lv_iload hx hb d_Receiver_endSection_145 (lv_at hl 3 rfl) ?_
        refine lv_if_eq (tgt := 155) hx hb d_Receiver_endSection_147 rfl (fun h147 => ?_) (fun h147 => ?_)
        · refine lv_aload_n hx hb d_Receiver_endSection_155 rfl (lv_at hl 2 rfl) ?_
          refine lv_iconst (v := 0) hx hb d_Receiver_endSection_156 (by decide) ?_
          refine va_putN (D := D) (ci := 0) (v := .int 0) (ty := .int) (C := R_Row) (T := F_Row) (N := 2) hx hb hts i_Row t_Row t_Row_ok n_Row hown hK hP hD hS 5 rfl rfl 1 (by decide) (hts _ wd_111) (fun _ h9 => h9) rfl (by decide +kernel) rfl rfl (Nat.le_of_ble_eq_true rfl) d_Receiver_endSection_157 (fun H locs hP hD hS => ?_)
          have hP : va_P D classes ([(rv, .inr (4, [.ref tp, .ref ln, .ref tb, .ref ca, .ref dp])), (ca, .inl (cI, 10, .inl (cup cn 6))), (ln, .inr (2, [.ref hd])), (hd, .inl (cN, 256, .inr (.inr (.inr (.inr hf))))), (la, .inr (1, [.int (nI pid), va_rf nx, .int ct, .int tw, .long ck, .int wr, .ref h, va_rf (pi.map (fun q => q.1))])), (h, .inr (0, [.ref a, .int 0])), (a, .inl (cB, 1024, .inl f))] ++ (tplr cO e0 tb lv2 pr2 P2.length pmo2 pst2 P2 ++ (nc ++ (lzI pi ++ (lpl cB (T1 ++ T2) ++ Q))))) H := hP
          have hD : va_D A ([(rv, .inr (4, [.ref tp, .ref ln, .ref tb, .ref ca, .ref dp])), (ca, .inl (cI, 10, .inl (cup cn 6))), (ln, .inr (2, [.ref hd])), (hd, .inl (cN, 256, .inr (.inr (.inr (.inr hf))))), (la, .inr (1, [.int (nI pid), va_rf nx, .int ct, .int tw, .long ck, .int wr, .ref h, va_rf (pi.map (fun q => q.1))])), (h, .inr (0, [.ref a, .int 0])), (a, .inl (cB, 1024, .inl f))] ++ (tplr cO e0 tb lv2 pr2 P2.length pmo2 pst2 P2 ++ (nc ++ (lzI pi ++ (lpl cB (T1 ++ T2) ++ Q))))) := hD
          have hP9 := hP.part (cx := [(rv, .inr (4, [.ref tp, .ref ln, .ref tb, .ref ca, .ref dp])), (ca, .inl (cI, 10, .inl (cup cn 6))), (ln, .inr (2, [.ref hd])), (hd, .inl (cN, 256, .inr (.inr (.inr (.inr hf))))), (la, .inr (1, [.int (nI pid), va_rf nx, .int ct, .int tw, .long ck, .int wr, .ref h, va_rf (pi.map (fun q => q.1))])), (h, .inr (0, [.ref a, .int 0])), (a, .inl (cB, 1024, .inl f))]) [0, 1, 2, 3, 4, 5, 6] rfl
          have hD9 := hD.part (cx := [(rv, .inr (4, [.ref tp, .ref ln, .ref tb, .ref ca, .ref dp])), (ca, .inl (cI, 10, .inl (cup cn 6))), (ln, .inr (2, [.ref hd])), (hd, .inl (cN, 256, .inr (.inr (.inr (.inr hf))))), (la, .inr (1, [.int (nI pid), va_rf nx, .int ct, .int tw, .long ck, .int wr, .ref h, va_rf (pi.map (fun q => q.1))])), (h, .inr (0, [.ref a, .int 0])), (a, .inl (cB, 1024, .inl f))]) [0, 1, 2, 3, 4, 5, 6] (by decide) rfl
          have hK9 := hK.sub (tys' := [(cB, .byte), (cI, .int), (cN, .object "StreamSplitter$Lane"), (cO, .object "java/lang/Object")]) [0, 1, 2, 3] rfl
          exact W.vret hx hb hr (fun t ht hW => ⟨⟨(cup cn 6, T1, T2, lv2, pr2, pmo2, pst2, P2, nc), rfl, ⟨Or.inr ⟨hgd, fr, hT2, Or.inl ⟨h147, rfl, rfl, rfl⟩⟩, htk2, haw2⟩, ⟨by rw [ht]; exact hP9, va_K.moved hW.alike hK9, hD9⟩⟩, hS.F ht⟩) hS.2.2 d_Receiver_endSection_160
        · have h147 : ¬ fr = 0 := h147
          refine lv_aload_n hx hb d_Receiver_endSection_150 rfl (lv_at hl 0 rfl) ?_
          refine lv_aload_n hx hb d_Receiver_endSection_151 rfl (lv_at hl 1 rfl) ?_
          have hP := z_Pp (es_perm (X := [(rv, .inr (4, [.ref tp, .ref ln, .ref tb, .ref ca, .ref dp])), (ca, .inl (cI, 10, .inl (cup cn 6))), (ln, .inr (2, [.ref hd])), (hd, .inl (cN, 256, .inr (.inr (.inr (.inr hf)))))]) (C := [(la, .inr (1, [.int (nI pid), va_rf nx, .int ct, .int tw, .long ck, .int wr, .ref h, va_rf (pi.map (fun q => q.1))])), (h, .inr (0, [.ref a, .int (nI (n - 4))])), (a, .inl (cB, 1024, .inl f))]) (B := nc)) (show va_P D classes ([(rv, .inr (4, [.ref tp, .ref ln, .ref tb, .ref ca, .ref dp])), (ca, .inl (cI, 10, .inl (cup cn 6))), (ln, .inr (2, [.ref hd])), (hd, .inl (cN, 256, .inr (.inr (.inr (.inr hf)))))] ++ ([(la, .inr (1, [.int (nI pid), va_rf nx, .int ct, .int tw, .long ck, .int wr, .ref h, va_rf (pi.map (fun q => q.1))])), (h, .inr (0, [.ref a, .int (nI (n - 4))])), (a, .inl (cB, 1024, .inl f))] ++ (tplr cO e0 tb lv2 pr2 P2.length pmo2 pst2 P2 ++ (nc ++ (lzI pi ++ (lpl cB (T1 ++ T2) ++ Q)))))) H from hP)
          have hP := z_Pp (lp_foc2 (X := [(rv, .inr (4, [.ref tp, .ref ln, .ref tb, .ref ca, .ref dp])), (ca, .inl (cI, 10, .inl (cup cn 6))), (ln, .inr (2, [.ref hd])), (hd, .inl (cN, 256, .inr (.inr (.inr (.inr hf)))))]) (T1 := T1) (T2 := T2) (z := (la, pid, nx, ct, tw, ck, wr, some (h, a, n - 4, f), pi))).symm (show va_P D classes ([(rv, .inr (4, [.ref tp, .ref ln, .ref tb, .ref ca, .ref dp])), (ca, .inl (cI, 10, .inl (cup cn 6))), (ln, .inr (2, [.ref hd])), (hd, .inl (cN, 256, .inr (.inr (.inr (.inr hf)))))] ++ (lzc cB (la, pid, nx, ct, tw, ck, wr, some (h, a, n - 4, f), pi) ++ (lpl cB (T1 ++ T2) ++ (tplr cO e0 tb lv2 pr2 P2.length pmo2 pst2 P2 ++ (nc ++ Q))))) H from hP)
          have hD := z_Dp (es_perm (X := [(rv, .inr (4, [.ref tp, .ref ln, .ref tb, .ref ca, .ref dp])), (ca, .inl (cI, 10, .inl (cup cn 6))), (ln, .inr (2, [.ref hd])), (hd, .inl (cN, 256, .inr (.inr (.inr (.inr hf)))))]) (C := [(la, .inr (1, [.int (nI pid), va_rf nx, .int ct, .int tw, .long ck, .int wr, .ref h, va_rf (pi.map (fun q => q.1))])), (h, .inr (0, [.ref a, .int (nI (n - 4))])), (a, .inl (cB, 1024, .inl f))]) (B := nc)) (show va_D A ([(rv, .inr (4, [.ref tp, .ref ln, .ref tb, .ref ca, .ref dp])), (ca, .inl (cI, 10, .inl (cup cn 6))), (ln, .inr (2, [.ref hd])), (hd, .inl (cN, 256, .inr (.inr (.inr (.inr hf)))))] ++ ([(la, .inr (1, [.int (nI pid), va_rf nx, .int ct, .int tw, .long ck, .int wr, .ref h, va_rf (pi.map (fun q => q.1))])), (h, .inr (0, [.ref a, .int (nI (n - 4))])), (a, .inl (cB, 1024, .inl f))] ++ (tplr cO e0 tb lv2 pr2 P2.length pmo2 pst2 P2 ++ (nc ++ (lzI pi ++ (lpl cB (T1 ++ T2) ++ Q)))))) from hD)
          have hD := z_Dp (lp_foc2 (X := [(rv, .inr (4, [.ref tp, .ref ln, .ref tb, .ref ca, .ref dp])), (ca, .inl (cI, 10, .inl (cup cn 6))), (ln, .inr (2, [.ref hd])), (hd, .inl (cN, 256, .inr (.inr (.inr (.inr hf)))))]) (T1 := T1) (T2 := T2) (z := (la, pid, nx, ct, tw, ck, wr, some (h, a, n - 4, f), pi))).symm (show va_D A ([(rv, .inr (4, [.ref tp, .ref ln, .ref tb, .ref ca, .ref dp])), (ca, .inl (cI, 10, .inl (cup cn 6))), (ln, .inr (2, [.ref hd])), (hd, .inl (cN, 256, .inr (.inr (.inr (.inr hf)))))] ++ (lzc cB (la, pid, nx, ct, tw, ck, wr, some (h, a, n - 4, f), pi) ++ (lpl cB (T1 ++ T2) ++ (tplr cO e0 tb lv2 pr2 P2.length pmo2 pst2 P2 ++ (nc ++ Q))))) from hD)
          have hP : va_P D classes ([(rv, .inr (4, [.ref tp, .ref ln, .ref tb, .ref ca, .ref dp])), (ca, .inl (cI, 10, .inl (cup cn 6))), (ln, .inr (2, [.ref hd])), (hd, .inl (cN, 256, .inr (.inr (.inr (.inr hf)))))] ++ (lpl cB (T1 ++ (la, pid, nx, ct, tw, ck, wr, some (h, a, n - 4, f), pi) :: T2) ++ (tplr cO e0 tb lv2 pr2 P2.length pmo2 pst2 P2 ++ (nc ++ Q)))) H := hP
          have hD : va_D A ([(rv, .inr (4, [.ref tp, .ref ln, .ref tb, .ref ca, .ref dp])), (ca, .inl (cI, 10, .inl (cup cn 6))), (ln, .inr (2, [.ref hd])), (hd, .inl (cN, 256, .inr (.inr (.inr (.inr hf)))))] ++ (lpl cB (T1 ++ (la, pid, nx, ct, tw, ck, wr, some (h, a, n - 4, f), pi) :: T2) ++ (tplr cO e0 tb lv2 pr2 P2.length pmo2 pst2 P2 ++ (nc ++ Q)))) := hD
          have hsk : lsk (T1 ++ (la, pid, nx, ct, tw, ck, wr, some (h, a, n, f), pi) :: T2) = lsk (T1 ++ (la, pid, nx, ct, tw, ck, wr, some (h, a, n - 4, f), pi) :: T2) := lsk_mid rfl
          have hPc := hP.part (cx := [(rv, .inr (4, [.ref tp, .ref ln, .ref tb, .ref ca, .ref dp])), (ca, .inl (cI, 10, .inl (cup cn 6))), (ln, .inr (2, [.ref hd])), (hd, .inl (cN, 256, .inr (.inr (.inr (.inr hf)))))]) [0, 1, 2, 3] rfl
          have hKc := hK.sub (tys' := [(cB, .byte), (cI, .int), (cN, .object "StreamSplitter$Lane")]) [0, 1, 2] rfl
          have hDc := hD.part (cx := [(rv, .inr (4, [.ref tp, .ref ln, .ref tb, .ref ca, .ref dp])), (ca, .inl (cI, 10, .inl (cup cn 6))), (ln, .inr (2, [.ref hd])), (hd, .inl (cN, 256, .inr (.inr (.inr (.inr hf)))))]) [0, 1, 2, 3] (by decide) rfl
          have hFc := va_freeP (cx := [(rv, .inr (4, [.ref tp, .ref ln, .ref tb, .ref ca, .ref dp])), (ca, .inl (cI, 10, .inl (cup cn 6))), (ln, .inr (2, [.ref hd])), (hd, .inl (cN, 256, .inr (.inr (.inr (.inr hf)))))]) hD hS hA [0, 1, 2, 3] rfl
          refine va_callv (va_runV (As := [.ref la]) (rest := []) ⟨hx, hb, hml, hown, hts⟩ (c_Receiver_giveUpOthers l D H.size cB cI rv tp ln tb ca dp (cup cn 6) cN hd la hf (T1 ++ (la, pid, nx, ct, tw, ck, wr, some (h, a, n - 4, f), pi) :: T2) (tplr cO e0 tb lv2 pr2 P2.length pmo2 pst2 P2 ++ (nc ++ Q)) (fun k hk => (hLN k hk).trans (lhd_sk hsk)) (lok_sk hsk hok) (fun z hz q hq => by rcases List.mem_append.mp hz with e | e; exact hLse z (List.mem_append_left _ e) q hq; rcases List.mem_cons.mp e with e | e; rw [e] at hq; cases hq; show n - 4 ≤ 1024; omega; exact hLse z (List.mem_append_right _ e) q hq)) (z_cV hN wd_678 wd_60 wd_675 hd_Receiver_giveUpOthers rfl rfl ⟨Nat.le_of_ble_eq_true rfl, Nat.le_of_ble_eq_true rfl⟩ wd_677 wd_18) (z_preVm (va_recv (ci := 4) (q0 := 0) hK hP rfl rfl) hPc hKc hN hDc) rfl rfl hl.1 rfl (lv_room (Nat.le_of_ble_eq_true rfl)) d_Receiver_endSection_152 ⟨by show seC pid n + 0 ≤ seC pid n; omega, by show seS pid n + 0 ≤ seS pid n; omega⟩) hS (fun q _ h => hFc q h) hFc (fun u152 t H locs ht hvm e152 hB hz1 hk1 hS => ?_)
          obtain ⟨hP1, hK1, hD1⟩ := hB
          rw [ht] at hP1
          obtain ⟨hP, hD⟩ := va_joinP (wr := []) (rx := [(rv, .inr (4, [.ref tp, .ref ln, .ref tb, .ref ca, .ref dp])), (ca, .inl (cI, 10, .inl (addc (cup cn 6) (pNs la 256 (T1 ++ (la, pid, nx, ct, tw, ck, wr, some (h, a, n - 4, f), pi) :: T2))))), (ln, .inr (2, [.ref hd])), (hd, .inl (cN, 256, .inr (.inr (.inr (.inr hf)))))]) hP hD [0, 1, 2, 3] [] rfl rfl (by decide) (by decide) hk1 hFc hP1 hD1
          clear hk1 hP1 hD1 hFc hPc hDc hz1
          have hP : va_P D classes ([(rv, .inr (4, [.ref tp, .ref ln, .ref tb, .ref ca, .ref dp])), (ca, .inl (cI, 10, .inl (addc (cup cn 6) (pNs la 256 (T1 ++ (la, pid, nx, ct, tw, ck, wr, some (h, a, n - 4, f), pi) :: T2))))), (ln, .inr (2, [.ref hd])), (hd, .inl (cN, 256, .inr (.inr (.inr (.inr hf)))))] ++ (lpl cB ((T1 ++ (la, pid, nx, ct, tw, ck, wr, some (h, a, n - 4, f), pi) :: T2).map (gvz la)) ++ (tplr cO e0 tb lv2 pr2 P2.length pmo2 pst2 P2 ++ (nc ++ Q)))) H := hP
          have hD : va_D A ([(rv, .inr (4, [.ref tp, .ref ln, .ref tb, .ref ca, .ref dp])), (ca, .inl (cI, 10, .inl (addc (cup cn 6) (pNs la 256 (T1 ++ (la, pid, nx, ct, tw, ck, wr, some (h, a, n - 4, f), pi) :: T2))))), (ln, .inr (2, [.ref hd])), (hd, .inl (cN, 256, .inr (.inr (.inr (.inr hf)))))] ++ (lpl cB ((T1 ++ (la, pid, nx, ct, tw, ck, wr, some (h, a, n - 4, f), pi) :: T2).map (gvz la)) ++ (tplr cO e0 tb lv2 pr2 P2.length pmo2 pst2 P2 ++ (nc ++ Q)))) := hD
          rw [es_map (la := la) (T1 := T1) (T2 := T2) (z := (la, pid, nx, ct, tw, ck, wr, some (h, a, n - 4, f), pi)) rfl, es_pN (la := la) (T1 := T1) (T2 := T2) (z := (la, pid, nx, ct, tw, ck, wr, some (h, a, n - 4, f), pi)) rfl] at hP hD
          have hP := z_Pp (lp_foc2 (X := [(rv, .inr (4, [.ref tp, .ref ln, .ref tb, .ref ca, .ref dp])), (ca, .inl (cI, 10, .inl (addc (cup cn 6) (pNs la 256 (T1 ++ T2))))), (ln, .inr (2, [.ref hd])), (hd, .inl (cN, 256, .inr (.inr (.inr (.inr hf)))))]) (T1 := T1.map (gvz la)) (T2 := T2.map (gvz la)) (z := (la, pid, nx, ct, tw, ck, wr, some (h, a, n - 4, f), pi))) (show va_P D classes ([(rv, .inr (4, [.ref tp, .ref ln, .ref tb, .ref ca, .ref dp])), (ca, .inl (cI, 10, .inl (addc (cup cn 6) (pNs la 256 (T1 ++ T2))))), (ln, .inr (2, [.ref hd])), (hd, .inl (cN, 256, .inr (.inr (.inr (.inr hf)))))] ++ (lpl cB (T1.map (gvz la) ++ (la, pid, nx, ct, tw, ck, wr, some (h, a, n - 4, f), pi) :: T2.map (gvz la)) ++ (tplr cO e0 tb lv2 pr2 P2.length pmo2 pst2 P2 ++ (nc ++ Q)))) H from hP)
          have hP := z_Pp (es_perm (X := [(rv, .inr (4, [.ref tp, .ref ln, .ref tb, .ref ca, .ref dp])), (ca, .inl (cI, 10, .inl (addc (cup cn 6) (pNs la 256 (T1 ++ T2))))), (ln, .inr (2, [.ref hd])), (hd, .inl (cN, 256, .inr (.inr (.inr (.inr hf)))))]) (C := [(la, .inr (1, [.int (nI pid), va_rf nx, .int ct, .int tw, .long ck, .int wr, .ref h, va_rf (pi.map (fun q => q.1))])), (h, .inr (0, [.ref a, .int (nI (n - 4))])), (a, .inl (cB, 1024, .inl f))]) (B := nc)).symm (show va_P D classes ([(rv, .inr (4, [.ref tp, .ref ln, .ref tb, .ref ca, .ref dp])), (ca, .inl (cI, 10, .inl (addc (cup cn 6) (pNs la 256 (T1 ++ T2))))), (ln, .inr (2, [.ref hd])), (hd, .inl (cN, 256, .inr (.inr (.inr (.inr hf)))))] ++ (([(la, .inr (1, [.int (nI pid), va_rf nx, .int ct, .int tw, .long ck, .int wr, .ref h, va_rf (pi.map (fun q => q.1))])), (h, .inr (0, [.ref a, .int (nI (n - 4))])), (a, .inl (cB, 1024, .inl f))] ++ lzI pi) ++ (lpl cB (T1.map (gvz la) ++ T2.map (gvz la)) ++ (tplr cO e0 tb lv2 pr2 P2.length pmo2 pst2 P2 ++ (nc ++ Q))))) H from hP)
          have hD := z_Dp (lp_foc2 (X := [(rv, .inr (4, [.ref tp, .ref ln, .ref tb, .ref ca, .ref dp])), (ca, .inl (cI, 10, .inl (addc (cup cn 6) (pNs la 256 (T1 ++ T2))))), (ln, .inr (2, [.ref hd])), (hd, .inl (cN, 256, .inr (.inr (.inr (.inr hf)))))]) (T1 := T1.map (gvz la)) (T2 := T2.map (gvz la)) (z := (la, pid, nx, ct, tw, ck, wr, some (h, a, n - 4, f), pi))) (show va_D A ([(rv, .inr (4, [.ref tp, .ref ln, .ref tb, .ref ca, .ref dp])), (ca, .inl (cI, 10, .inl (addc (cup cn 6) (pNs la 256 (T1 ++ T2))))), (ln, .inr (2, [.ref hd])), (hd, .inl (cN, 256, .inr (.inr (.inr (.inr hf)))))] ++ (lpl cB (T1.map (gvz la) ++ (la, pid, nx, ct, tw, ck, wr, some (h, a, n - 4, f), pi) :: T2.map (gvz la)) ++ (tplr cO e0 tb lv2 pr2 P2.length pmo2 pst2 P2 ++ (nc ++ Q)))) from hD)
          have hD := z_Dp (es_perm (X := [(rv, .inr (4, [.ref tp, .ref ln, .ref tb, .ref ca, .ref dp])), (ca, .inl (cI, 10, .inl (addc (cup cn 6) (pNs la 256 (T1 ++ T2))))), (ln, .inr (2, [.ref hd])), (hd, .inl (cN, 256, .inr (.inr (.inr (.inr hf)))))]) (C := [(la, .inr (1, [.int (nI pid), va_rf nx, .int ct, .int tw, .long ck, .int wr, .ref h, va_rf (pi.map (fun q => q.1))])), (h, .inr (0, [.ref a, .int (nI (n - 4))])), (a, .inl (cB, 1024, .inl f))]) (B := nc)).symm (show va_D A ([(rv, .inr (4, [.ref tp, .ref ln, .ref tb, .ref ca, .ref dp])), (ca, .inl (cI, 10, .inl (addc (cup cn 6) (pNs la 256 (T1 ++ T2))))), (ln, .inr (2, [.ref hd])), (hd, .inl (cN, 256, .inr (.inr (.inr (.inr hf)))))] ++ (([(la, .inr (1, [.int (nI pid), va_rf nx, .int ct, .int tw, .long ck, .int wr, .ref h, va_rf (pi.map (fun q => q.1))])), (h, .inr (0, [.ref a, .int (nI (n - 4))])), (a, .inl (cB, 1024, .inl f))] ++ lzI pi) ++ (lpl cB (T1.map (gvz la) ++ T2.map (gvz la)) ++ (tplr cO e0 tb lv2 pr2 P2.length pmo2 pst2 P2 ++ (nc ++ Q))))) from hD)
          have hP : va_P D classes ([(rv, .inr (4, [.ref tp, .ref ln, .ref tb, .ref ca, .ref dp])), (ca, .inl (cI, 10, .inl (addc (cup cn 6) (pNs la 256 (T1 ++ T2))))), (ln, .inr (2, [.ref hd])), (hd, .inl (cN, 256, .inr (.inr (.inr (.inr hf))))), (la, .inr (1, [.int (nI pid), va_rf nx, .int ct, .int tw, .long ck, .int wr, .ref h, va_rf (pi.map (fun q => q.1))])), (h, .inr (0, [.ref a, .int (nI (n - 4))])), (a, .inl (cB, 1024, .inl f))] ++ (tplr cO e0 tb lv2 pr2 P2.length pmo2 pst2 P2 ++ (nc ++ (lzI pi ++ (lpl cB (T1.map (gvz la) ++ T2.map (gvz la)) ++ Q))))) H := hP
          have hD : va_D A ([(rv, .inr (4, [.ref tp, .ref ln, .ref tb, .ref ca, .ref dp])), (ca, .inl (cI, 10, .inl (addc (cup cn 6) (pNs la 256 (T1 ++ T2))))), (ln, .inr (2, [.ref hd])), (hd, .inl (cN, 256, .inr (.inr (.inr (.inr hf))))), (la, .inr (1, [.int (nI pid), va_rf nx, .int ct, .int tw, .long ck, .int wr, .ref h, va_rf (pi.map (fun q => q.1))])), (h, .inr (0, [.ref a, .int (nI (n - 4))])), (a, .inl (cB, 1024, .inl f))] ++ (tplr cO e0 tb lv2 pr2 P2.length pmo2 pst2 P2 ++ (nc ++ (lzI pi ++ (lpl cB (T1.map (gvz la) ++ T2.map (gvz la)) ++ Q))))) := hD
          refine lv_aload_n hx hb d_Receiver_endSection_155 rfl (lv_at hl 2 rfl) ?_
          refine lv_iconst (v := 0) hx hb d_Receiver_endSection_156 (by decide) ?_
          refine va_putN (D := D) (ci := 0) (v := .int 0) (ty := .int) (C := R_Row) (T := F_Row) (N := 2) hx hb hts i_Row t_Row t_Row_ok n_Row hown hK hP hD hS 5 rfl rfl 1 (by decide) (hts _ wd_111) (fun _ h9 => h9) rfl (by decide +kernel) rfl rfl (Nat.le_of_ble_eq_true rfl) d_Receiver_endSection_157 (fun H locs hP hD hS => ?_)
          have hP : va_P D classes ([(rv, .inr (4, [.ref tp, .ref ln, .ref tb, .ref ca, .ref dp])), (ca, .inl (cI, 10, .inl (addc (cup cn 6) (pNs la 256 (T1 ++ T2))))), (ln, .inr (2, [.ref hd])), (hd, .inl (cN, 256, .inr (.inr (.inr (.inr hf))))), (la, .inr (1, [.int (nI pid), va_rf nx, .int ct, .int tw, .long ck, .int wr, .ref h, va_rf (pi.map (fun q => q.1))])), (h, .inr (0, [.ref a, .int 0])), (a, .inl (cB, 1024, .inl f))] ++ (tplr cO e0 tb lv2 pr2 P2.length pmo2 pst2 P2 ++ (nc ++ (lzI pi ++ (lpl cB (T1.map (gvz la) ++ T2.map (gvz la)) ++ Q))))) H := hP
          have hD : va_D A ([(rv, .inr (4, [.ref tp, .ref ln, .ref tb, .ref ca, .ref dp])), (ca, .inl (cI, 10, .inl (addc (cup cn 6) (pNs la 256 (T1 ++ T2))))), (ln, .inr (2, [.ref hd])), (hd, .inl (cN, 256, .inr (.inr (.inr (.inr hf))))), (la, .inr (1, [.int (nI pid), va_rf nx, .int ct, .int tw, .long ck, .int wr, .ref h, va_rf (pi.map (fun q => q.1))])), (h, .inr (0, [.ref a, .int 0])), (a, .inl (cB, 1024, .inl f))] ++ (tplr cO e0 tb lv2 pr2 P2.length pmo2 pst2 P2 ++ (nc ++ (lzI pi ++ (lpl cB (T1.map (gvz la) ++ T2.map (gvz la)) ++ Q))))) := hD
          have hP9 := hP.part (cx := [(rv, .inr (4, [.ref tp, .ref ln, .ref tb, .ref ca, .ref dp])), (ca, .inl (cI, 10, .inl (addc (cup cn 6) (pNs la 256 (T1 ++ T2))))), (ln, .inr (2, [.ref hd])), (hd, .inl (cN, 256, .inr (.inr (.inr (.inr hf))))), (la, .inr (1, [.int (nI pid), va_rf nx, .int ct, .int tw, .long ck, .int wr, .ref h, va_rf (pi.map (fun q => q.1))])), (h, .inr (0, [.ref a, .int 0])), (a, .inl (cB, 1024, .inl f))]) [0, 1, 2, 3, 4, 5, 6] rfl
          have hD9 := hD.part (cx := [(rv, .inr (4, [.ref tp, .ref ln, .ref tb, .ref ca, .ref dp])), (ca, .inl (cI, 10, .inl (addc (cup cn 6) (pNs la 256 (T1 ++ T2))))), (ln, .inr (2, [.ref hd])), (hd, .inl (cN, 256, .inr (.inr (.inr (.inr hf))))), (la, .inr (1, [.int (nI pid), va_rf nx, .int ct, .int tw, .long ck, .int wr, .ref h, va_rf (pi.map (fun q => q.1))])), (h, .inr (0, [.ref a, .int 0])), (a, .inl (cB, 1024, .inl f))]) [0, 1, 2, 3, 4, 5, 6] (by decide) rfl
          have hK9 := hK.sub (tys' := [(cB, .byte), (cI, .int), (cN, .object "StreamSplitter$Lane"), (cO, .object "java/lang/Object")]) [0, 1, 2, 3] rfl
          exact W.vret hx hb hr (fun t ht hW => ⟨⟨(addc (cup cn 6) (pNs la 256 (T1 ++ T2)), T1.map (gvz la), T2.map (gvz la), lv2, pr2, pmo2, pst2, P2, nc), rfl, ⟨Or.inr ⟨hgd, fr, hT2, Or.inr ⟨h147, rfl, rfl, rfl⟩⟩, htk2, haw2⟩, ⟨by rw [ht]; exact hP9, va_K.moved hW.alike hK9, hD9⟩⟩, hS.F ht⟩) hS.2.2 d_Receiver_endSection_160
      refine lv_iconst (v := 0) hx hb d_Receiver_endSection_61 (by decide) ?_
      refine lv_istore (lv' := [(4, .int 0), (3, .int 1), (0, .ref rv), (1, .ref la), (2, .ref h)]) hx hb d_Receiver_endSection_62 hl (by decide) rfl (fun ls hl => ?_)
      refine lv_aload_n hx hb d_Receiver_endSection_64 rfl (lv_at hl 2 rfl) ?_
      refine va_get (D := D) (ci := 4) (v := .ref tb) (C := R_Receiver) (T := F_Receiver) (N := 5) hx hb hts i_Receiver hown hK hP 0 rfl rfl 2 (by decide) (hts _ wd_179) (fun _ h9 => h9) rfl d_Receiver_endSection_65 ?_
      refine lv_aload_n hx hb d_Receiver_endSection_68 rfl (lv_at hl 3 rfl) ?_
      refine va_getN (D := D) (ci := 1) (v := .int (nI pid)) (C := R_Lane) (T := F_Lane) (N := 8) hx hb hts i_Lane hown hK hP 4 rfl rfl 0 (by decide) (hts _ wd_244) (fun _ h9 => h9) rfl d_Receiver_endSection_69 ?_
      have hT9 : isT ([(rv, .inr (4, [.ref tp, .ref ln, .ref tb, .ref ca, .ref dp])), (ca, .inl (cI, 10, .inl (cup cn 6))), (ln, .inr (2, [.ref hd])), (hd, .inl (cN, 256, .inr (.inr (.inr (.inr hf))))), (la, .inr (1, [.int (nI pid), va_rf nx, .int ct, .int tw, .long ck, .int wr, .ref h, va_rf (pi.map (fun q => q.1))])), (h, .inr (0, [.ref a, .int (nI (n - 4))])), (a, .inl (cB, 1024, .inl f))] ++ (tplr cO e0 tb lv pr P.length pmo pst P ++ (lzI pi ++ (lpl cB (T1 ++ T2) ++ Q)))) cO tb pr lv (pvw P) := tok_isT (X := [(rv, .inr (4, [.ref tp, .ref ln, .ref tb, .ref ca, .ref dp])), (ca, .inl (cI, 10, .inl (cup cn 6))), (ln, .inr (2, [.ref hd])), (hd, .inl (cN, 256, .inr (.inr (.inr (.inr hf))))), (la, .inr (1, [.int (nI pid), va_rf nx, .int ct, .int tw, .long ck, .int wr, .ref h, va_rf (pi.map (fun q => q.1))])), (h, .inr (0, [.ref a, .int (nI (n - 4))])), (a, .inl (cB, 1024, .inl f))]) (e0 := e0) (tb := tb) (pr := pr) (lv := lv) (pmo := pmo) (tok_mono htk hIm9)
      obtain ⟨q72, hq72⟩ : ∃ q0 : Nat, ([(rv, .inr (4, [.ref tp, .ref ln, .ref tb, .ref ca, .ref dp])), (ca, .inl (cI, 10, .inl (cup cn 6))), (ln, .inr (2, [.ref hd])), (hd, .inl (cN, 256, .inr (.inr (.inr (.inr hf))))), (la, .inr (1, [.int (nI pid), va_rf nx, .int ct, .int tw, .long ck, .int wr, .ref h, va_rf (pi.map (fun q => q.1))])), (h, .inr (0, [.ref a, .int (nI (n - 4))])), (a, .inl (cB, 1024, .inl f))] ++ (tplr cO e0 tb lv pr P.length pmo pst P ++ (lzI pi ++ (lpl cB (T1 ++ T2) ++ Q))))[q0]? = some (tb, .inr (8, [.int lv, .ref pr])) := List.getElem?_of_mem (List.mem_append_right _ (List.mem_append_left _ List.mem_cons_self))
      have hPc : va_P D classes ([] ++ ([(rv, .inr (4, [.ref tp, .ref ln, .ref tb, .ref ca, .ref dp])), (ca, .inl (cI, 10, .inl (cup cn 6))), (ln, .inr (2, [.ref hd])), (hd, .inl (cN, 256, .inr (.inr (.inr (.inr hf))))), (la, .inr (1, [.int (nI pid), va_rf nx, .int ct, .int tw, .long ck, .int wr, .ref h, va_rf (pi.map (fun q => q.1))])), (h, .inr (0, [.ref a, .int (nI (n - 4))])), (a, .inl (cB, 1024, .inl f))] ++ (tplr cO e0 tb lv pr P.length pmo pst P ++ (lzI pi ++ (lpl cB (T1 ++ T2) ++ Q))))) H := hP
      have hKc := hK.sub (tys' := [(cO, .object "java/lang/Object")]) [3] rfl
      refine z_ci (va_runV (As := [.int (nI pid)]) (rest := []) ⟨hx, hb, hml, hown, hts⟩ (c_Tables_useOf l D cO ([(rv, .inr (4, [.ref tp, .ref ln, .ref tb, .ref ca, .ref dp])), (ca, .inl (cI, 10, .inl (cup cn 6))), (ln, .inr (2, [.ref hd])), (hd, .inl (cN, 256, .inr (.inr (.inr (.inr hf))))), (la, .inr (1, [.int (nI pid), va_rf nx, .int ct, .int tw, .long ck, .int wr, .ref h, va_rf (pi.map (fun q => q.1))])), (h, .inr (0, [.ref a, .int (nI (n - 4))])), (a, .inl (cB, 1024, .inl f))] ++ (tplr cO e0 tb lv pr P.length pmo pst P ++ (lzI pi ++ (lpl cB (T1 ++ T2) ++ Q)))) tb pr lv (pvw P) pid hT9 hpid) (z_cV hN wd_301 wd_63 wd_548 hd_Tables_useOf rfl rfl ⟨Nat.le_of_ble_eq_true rfl, Nat.le_of_ble_eq_true rfl⟩ wd_299 wd_300) (z_preV (va_recv (ci := 8) (q0 := q72) hK hP rfl hq72) hPc hKc hN) rfl rfl hl.1 rfl (lv_room (Nat.le_of_ble_eq_true rfl)) d_Receiver_endSection_72 ⟨by show 0 + 0 ≤ seC pid n; omega, by show 0 + 0 ≤ seS pid n; omega⟩) (fun r72 e72 => ?_)
      obtain ⟨uu, huu, hu4⟩ := uo_nat e72
      rw [huu] at e72
      refine z_topi (w := nI uu) huu ?_
      by_cases hs0 : uu = 0
      · subst hs0
        refine lv_tableOut (tgt := 145) hx hb d_Receiver_endSection_75 (by decide) rfl ?_
        refine W.widen (k := seC pid n) (n := seS pid n) (by show 0 ≤ seC pid n; omega) (by show 0 ≤ seS pid n; omega) ?_
        refine W.widen (k := seC pid n) (n := seS pid n) (by omega) (by omega) ?_
        exact lem145 0 lv pr pmo pst P [] H locs ls (Or.inr (Or.inr (Or.inr ⟨by first | exact Or.inl e72 | exact Or.inr e72, rfl, rfl⟩))) htk haw (lv_sub hl [2, 3, 4, 0] rfl) hP hD hS
      by_cases hs1 : uu = 1
      · subst hs1
        refine lv_tableIn (tgt := 100) hx hb d_Receiver_endSection_75 (by decide) (by decide) rfl rfl ?_
        have hp0 := uo_1 e72
        have hC := es_c0 (n := n) h6 hp0
        refine lv_aload_n hx hb d_Receiver_endSection_100 rfl (lv_at hl 2 rfl) ?_
        refine va_get (D := D) (ci := 4) (v := .ref tb) (C := R_Receiver) (T := F_Receiver) (N := 5) hx hb hts i_Receiver hown hK hP 0 rfl rfl 2 (by decide) (hts _ wd_179) (fun _ h9 => h9) rfl d_Receiver_endSection_101 ?_
        refine lv_aload_n hx hb d_Receiver_endSection_104 rfl (lv_at hl 4 rfl) ?_
        have hT9 : isT ([(rv, .inr (4, [.ref tp, .ref ln, .ref tb, .ref ca, .ref dp])), (ca, .inl (cI, 10, .inl (cup cn 6))), (ln, .inr (2, [.ref hd])), (hd, .inl (cN, 256, .inr (.inr (.inr (.inr hf))))), (la, .inr (1, [.int (nI pid), va_rf nx, .int ct, .int tw, .long ck, .int wr, .ref h, va_rf (pi.map (fun q => q.1))])), (h, .inr (0, [.ref a, .int (nI (n - 4))])), (a, .inl (cB, 1024, .inl f))] ++ (tplr cO e0 tb lv pr P.length pmo pst P ++ (lzI pi ++ (lpl cB (T1 ++ T2) ++ Q)))) cO tb pr lv (pvw P) := tok_isT (X := [(rv, .inr (4, [.ref tp, .ref ln, .ref tb, .ref ca, .ref dp])), (ca, .inl (cI, 10, .inl (cup cn 6))), (ln, .inr (2, [.ref hd])), (hd, .inl (cN, 256, .inr (.inr (.inr (.inr hf))))), (la, .inr (1, [.int (nI pid), va_rf nx, .int ct, .int tw, .long ck, .int wr, .ref h, va_rf (pi.map (fun q => q.1))])), (h, .inr (0, [.ref a, .int (nI (n - 4))])), (a, .inl (cB, 1024, .inl f))]) (e0 := e0) (tb := tb) (pr := pr) (lv := lv) (pmo := pmo) (tok_mono htk hIm9)
        obtain ⟨q105, hq105⟩ : ∃ q0 : Nat, ([(rv, .inr (4, [.ref tp, .ref ln, .ref tb, .ref ca, .ref dp])), (ca, .inl (cI, 10, .inl (cup cn 6))), (ln, .inr (2, [.ref hd])), (hd, .inl (cN, 256, .inr (.inr (.inr (.inr hf))))), (la, .inr (1, [.int (nI pid), va_rf nx, .int ct, .int tw, .long ck, .int wr, .ref h, va_rf (pi.map (fun q => q.1))])), (h, .inr (0, [.ref a, .int (nI (n - 4))])), (a, .inl (cB, 1024, .inl f))] ++ (tplr cO e0 tb lv pr P.length pmo pst P ++ (lzI pi ++ (lpl cB (T1 ++ T2) ++ Q))))[q0]? = some (tb, .inr (8, [.int lv, .ref pr])) := List.getElem?_of_mem (List.mem_append_right _ (List.mem_append_left _ List.mem_cons_self))
        have hPc := hP.part (cx := [(h, .inr (0, [.ref a, .int (nI (n - 4))])), (a, .inl (cB, 1024, .inl f))]) [5, 6] rfl
        have hKc := hK.sub (tys' := [(cB, .byte), (cO, .object "java/lang/Object")]) [0, 3] rfl
        have hDc := hD.part (cx := [(h, .inr (0, [.ref a, .int (nI (n - 4))])), (a, .inl (cB, 1024, .inl f))]) [5, 6] (by decide) rfl
        have hFc := va_freeP (cx := [(h, .inr (0, [.ref a, .int (nI (n - 4))])), (a, .inl (cB, 1024, .inl f))]) hD hS hA [5, 6] rfl
        refine va_calli (va_runV (As := [.ref h]) (rest := []) ⟨hx, hb, hml, hown, hts⟩ (c_Tables_useList l D B0 hG H.size cB h a (n - 4) f cO e0 tb pr lv pmo pst P (lzI pi ++ (lpl cB (T1 ++ T2) ++ Q)) Im (by omega) he0 htk hIm9 haw) (z_cV hN wd_552 wd_63 wd_549 hd_Tables_useList rfl rfl ⟨Nat.le_of_ble_eq_true rfl, Nat.le_of_ble_eq_true rfl⟩ wd_550 wd_551) (z_preVo (va_recv (ci := 8) (q0 := q105) hK hP rfl hq105) hPc hKc hN hDc hO hS hAO) rfl rfl hl.1 rfl (lv_room (Nat.le_of_ble_eq_true rfl)) d_Receiver_endSection_105 ⟨by show 0 + (llC (n - 4)) ≤ seC pid n; omega, by show 0 + (llS (n - 4)) ≤ seS pid n; omega⟩) hS (fun q _ h => hFc q h) hFc (fun r105 t9 t H locs ht hvm e105 hB hz1 hk1 hS => ?_)
        obtain ⟨hP1, hK1, hD1⟩ := hB
        rw [ht] at hP1
        obtain ⟨hP, hD⟩ := va_joinP (wr := [(rv, .inr (4, [.ref tp, .ref ln, .ref tb, .ref ca, .ref dp])), (ca, .inl (cI, 10, .inl (cup cn 6))), (ln, .inr (2, [.ref hd])), (hd, .inl (cN, 256, .inr (.inr (.inr (.inr hf))))), (la, .inr (1, [.int (nI pid), va_rf nx, .int ct, .int tw, .long ck, .int wr, .ref h, va_rf (pi.map (fun q => q.1))]))]) (rx := [(h, .inr (0, [.ref a, .int (nI (n - 4))])), (a, .inl (cB, 1024, .inl f))]) hP hD [5, 6] [0, 1, 2, 3, 4] rfl rfl (by decide) (by decide) hk1 hFc hP1 hD1
        clear hk1 hP1 hD1 hFc hPc hDc hz1
        have hP : va_P D classes ([(rv, .inr (4, [.ref tp, .ref ln, .ref tb, .ref ca, .ref dp])), (ca, .inl (cI, 10, .inl (cup cn 6))), (ln, .inr (2, [.ref hd])), (hd, .inl (cN, 256, .inr (.inr (.inr (.inr hf))))), (la, .inr (1, [.int (nI pid), va_rf nx, .int ct, .int tw, .long ck, .int wr, .ref h, va_rf (pi.map (fun q => q.1))])), (h, .inr (0, [.ref a, .int (nI (n - 4))])), (a, .inl (cB, 1024, .inl f))] ++ (tplr cO e0 tb t9.1 t9.2.1 t9.2.2.2.2.1.length t9.2.2.1 t9.2.2.2.1 t9.2.2.2.2.1 ++ (t9.2.2.2.2.2 ++ (lzI pi ++ (lpl cB (T1 ++ T2) ++ Q))))) H := hP
        have hD : va_D A ([(rv, .inr (4, [.ref tp, .ref ln, .ref tb, .ref ca, .ref dp])), (ca, .inl (cI, 10, .inl (cup cn 6))), (ln, .inr (2, [.ref hd])), (hd, .inl (cN, 256, .inr (.inr (.inr (.inr hf))))), (la, .inr (1, [.int (nI pid), va_rf nx, .int ct, .int tw, .long ck, .int wr, .ref h, va_rf (pi.map (fun q => q.1))])), (h, .inr (0, [.ref a, .int (nI (n - 4))])), (a, .inl (cB, 1024, .inl f))] ++ (tplr cO e0 tb t9.1 t9.2.1 t9.2.2.2.2.1.length t9.2.2.1 t9.2.2.2.1 t9.2.2.2.2.1 ++ (t9.2.2.2.2.2 ++ (lzI pi ++ (lpl cB (T1 ++ T2) ++ Q))))) := hD
        refine lv_istore (lv' := [(4, .int r105), (3, .int 1), (0, .ref rv), (1, .ref la), (2, .ref h)]) hx hb d_Receiver_endSection_108 hl (by decide) rfl (fun ls hl => ?_)
        refine lv_goto (tgt := 145) hx hb d_Receiver_endSection_110 rfl ?_
        refine W.widen (k := seC pid n) (n := seS pid n) (by show 0 + (llC (n - 4)) ≤ seC pid n; omega) (by show 0 + (llS (n - 4)) ≤ seS pid n; omega) ?_
        refine W.widen (k := seC pid n) (n := seS pid n) (by omega) (by omega) ?_
        exact lem145 r105 t9.1 t9.2.1 t9.2.2.1 t9.2.2.2.1 t9.2.2.2.2.1 t9.2.2.2.2.2 H locs ls (Or.inl ⟨e72, e105.1⟩) e105.2.1 e105.2.2 (lv_sub hl [2, 3, 4, 0] rfl) hP hD hS
      by_cases hs2 : uu = 2
      · subst hs2
        refine lv_tableIn (tgt := 113) hx hb d_Receiver_endSection_75 (by decide) (by decide) rfl rfl ?_
        have hC := es_c1 (n := n) h6 (uo_2 e72 (by decide))
        refine lv_aload_n hx hb d_Receiver_endSection_113 rfl (lv_at hl 2 rfl) ?_
        refine va_get (D := D) (ci := 4) (v := .ref tb) (C := R_Receiver) (T := F_Receiver) (N := 5) hx hb hts i_Receiver hown hK hP 0 rfl rfl 2 (by decide) (hts _ wd_179) (fun _ h9 => h9) rfl d_Receiver_endSection_114 ?_
        refine lv_aload_n hx hb d_Receiver_endSection_117 rfl (lv_at hl 4 rfl) ?_
        refine lv_aload_n hx hb d_Receiver_endSection_118 rfl (lv_at hl 3 rfl) ?_
        refine va_getN (D := D) (ci := 1) (v := .int (nI pid)) (C := R_Lane) (T := F_Lane) (N := 8) hx hb hts i_Lane hown hK hP 4 rfl rfl 0 (by decide) (hts _ wd_244) (fun _ h9 => h9) rfl d_Receiver_endSection_119 ?_
        have hT9 : isT ([(rv, .inr (4, [.ref tp, .ref ln, .ref tb, .ref ca, .ref dp])), (ca, .inl (cI, 10, .inl (cup cn 6))), (ln, .inr (2, [.ref hd])), (hd, .inl (cN, 256, .inr (.inr (.inr (.inr hf))))), (la, .inr (1, [.int (nI pid), va_rf nx, .int ct, .int tw, .long ck, .int wr, .ref h, va_rf (pi.map (fun q => q.1))])), (h, .inr (0, [.ref a, .int (nI (n - 4))])), (a, .inl (cB, 1024, .inl f))] ++ (tplr cO e0 tb lv pr P.length pmo pst P ++ (lzI pi ++ (lpl cB (T1 ++ T2) ++ Q)))) cO tb pr lv (pvw P) := tok_isT (X := [(rv, .inr (4, [.ref tp, .ref ln, .ref tb, .ref ca, .ref dp])), (ca, .inl (cI, 10, .inl (cup cn 6))), (ln, .inr (2, [.ref hd])), (hd, .inl (cN, 256, .inr (.inr (.inr (.inr hf))))), (la, .inr (1, [.int (nI pid), va_rf nx, .int ct, .int tw, .long ck, .int wr, .ref h, va_rf (pi.map (fun q => q.1))])), (h, .inr (0, [.ref a, .int (nI (n - 4))])), (a, .inl (cB, 1024, .inl f))]) (e0 := e0) (tb := tb) (pr := pr) (lv := lv) (pmo := pmo) (tok_mono htk hIm9)
        obtain ⟨q122, hq122⟩ : ∃ q0 : Nat, ([(rv, .inr (4, [.ref tp, .ref ln, .ref tb, .ref ca, .ref dp])), (ca, .inl (cI, 10, .inl (cup cn 6))), (ln, .inr (2, [.ref hd])), (hd, .inl (cN, 256, .inr (.inr (.inr (.inr hf))))), (la, .inr (1, [.int (nI pid), va_rf nx, .int ct, .int tw, .long ck, .int wr, .ref h, va_rf (pi.map (fun q => q.1))])), (h, .inr (0, [.ref a, .int (nI (n - 4))])), (a, .inl (cB, 1024, .inl f))] ++ (tplr cO e0 tb lv pr P.length pmo pst P ++ (lzI pi ++ (lpl cB (T1 ++ T2) ++ Q))))[q0]? = some (tb, .inr (8, [.int lv, .ref pr])) := List.getElem?_of_mem (List.mem_append_right _ (List.mem_append_left _ List.mem_cons_self))
        have hPc := hP.part (cx := [(h, .inr (0, [.ref a, .int (nI (n - 4))])), (a, .inl (cB, 1024, .inl f))]) [5, 6] rfl
        have hKc := hK.sub (tys' := [(cB, .byte), (cO, .object "java/lang/Object")]) [0, 3] rfl
        have hDc := hD.part (cx := [(h, .inr (0, [.ref a, .int (nI (n - 4))])), (a, .inl (cB, 1024, .inl f))]) [5, 6] (by decide) rfl
        have hFc := va_freeP (cx := [(h, .inr (0, [.ref a, .int (nI (n - 4))])), (a, .inl (cB, 1024, .inl f))]) hD hS hA [5, 6] rfl
        refine va_calli (va_runV (As := [.ref h, .int (nI pid)]) (rest := []) ⟨hx, hb, hml, hown, hts⟩ (c_Tables_usePlan l D B0 hG H.size cB h a (n - 4) f cO e0 tb pr lv pmo pst P (lzI pi ++ (lpl cB (T1 ++ T2) ++ Q)) Im pid (by omega) he0 htk hIm9 hpid) (z_cV hN wd_624 wd_63 wd_621 hd_Tables_usePlan rfl rfl ⟨Nat.le_of_ble_eq_true rfl, Nat.le_of_ble_eq_true rfl⟩ wd_622 wd_623) (z_preVo (va_recv (ci := 8) (q0 := q122) hK hP rfl hq122) hPc hKc hN hDc hO hS hAO) rfl rfl hl.1 rfl (lv_room (Nat.le_of_ble_eq_true rfl)) d_Receiver_endSection_122 ⟨by show 0 + (kpC (n - 4)) ≤ seC pid n; omega, by show 0 + (kpS (n - 4)) ≤ seS pid n; omega⟩) hS (fun q _ h => hFc q h) hFc (fun r122 t9 t H locs ht hvm e122 hB hz1 hk1 hS => ?_)
        obtain ⟨hP1, hK1, hD1⟩ := hB
        rw [ht] at hP1
        obtain ⟨hP, hD⟩ := va_joinP (wr := [(rv, .inr (4, [.ref tp, .ref ln, .ref tb, .ref ca, .ref dp])), (ca, .inl (cI, 10, .inl (cup cn 6))), (ln, .inr (2, [.ref hd])), (hd, .inl (cN, 256, .inr (.inr (.inr (.inr hf))))), (la, .inr (1, [.int (nI pid), va_rf nx, .int ct, .int tw, .long ck, .int wr, .ref h, va_rf (pi.map (fun q => q.1))]))]) (rx := [(h, .inr (0, [.ref a, .int (nI (n - 4))])), (a, .inl (cB, 1024, .inl f))]) hP hD [5, 6] [0, 1, 2, 3, 4] rfl rfl (by decide) (by decide) hk1 hFc hP1 hD1
        clear hk1 hP1 hD1 hFc hPc hDc hz1
        have hP : va_P D classes ([(rv, .inr (4, [.ref tp, .ref ln, .ref tb, .ref ca, .ref dp])), (ca, .inl (cI, 10, .inl (cup cn 6))), (ln, .inr (2, [.ref hd])), (hd, .inl (cN, 256, .inr (.inr (.inr (.inr hf))))), (la, .inr (1, [.int (nI pid), va_rf nx, .int ct, .int tw, .long ck, .int wr, .ref h, va_rf (pi.map (fun q => q.1))])), (h, .inr (0, [.ref a, .int (nI (n - 4))])), (a, .inl (cB, 1024, .inl f))] ++ (tplr cO e0 tb lv pr P.length pmo pst t9.1 ++ (t9.2 ++ (lzI pi ++ (lpl cB (T1 ++ T2) ++ Q))))) H := hP
        have hD : va_D A ([(rv, .inr (4, [.ref tp, .ref ln, .ref tb, .ref ca, .ref dp])), (ca, .inl (cI, 10, .inl (cup cn 6))), (ln, .inr (2, [.ref hd])), (hd, .inl (cN, 256, .inr (.inr (.inr (.inr hf))))), (la, .inr (1, [.int (nI pid), va_rf nx, .int ct, .int tw, .long ck, .int wr, .ref h, va_rf (pi.map (fun q => q.1))])), (h, .inr (0, [.ref a, .int (nI (n - 4))])), (a, .inl (cB, 1024, .inl f))] ++ (tplr cO e0 tb lv pr P.length pmo pst t9.1 ++ (t9.2 ++ (lzI pi ++ (lpl cB (T1 ++ T2) ++ Q))))) := hD
        rw [← us_len e122.1] at hP hD
        refine lv_istore (lv' := [(4, .int r122), (3, .int 1), (0, .ref rv), (1, .ref la), (2, .ref h)]) hx hb d_Receiver_endSection_125 hl (by decide) rfl (fun ls hl => ?_)
        refine lv_goto (tgt := 145) hx hb d_Receiver_endSection_127 rfl ?_
        refine W.widen (k := seC pid n) (n := seS pid n) (by show 0 + (kpC (n - 4)) ≤ seC pid n; omega) (by show 0 + (kpS (n - 4)) ≤ seS pid n; omega) ?_
        refine W.widen (k := seC pid n) (n := seS pid n) (by omega) (by omega) ?_
        exact lem145 r122 lv pr pmo pst t9.1 t9.2 H locs ls (Or.inr (Or.inl ⟨e72, e122.1, rfl⟩)) e122.2 (us_awk haw e122.1) (lv_sub hl [2, 3, 4, 0] rfl) hP hD hS
      by_cases hs3 : uu = 3
      · subst hs3
        refine lv_tableIn (tgt := 130) hx hb d_Receiver_endSection_75 (by decide) (by decide) rfl rfl ?_
        have hC := es_c1 (n := n) h6 (uo_2 e72 (by decide))
        refine lv_aload_n hx hb d_Receiver_endSection_130 rfl (lv_at hl 2 rfl) ?_
        refine va_get (D := D) (ci := 4) (v := .ref tb) (C := R_Receiver) (T := F_Receiver) (N := 5) hx hb hts i_Receiver hown hK hP 0 rfl rfl 2 (by decide) (hts _ wd_179) (fun _ h9 => h9) rfl d_Receiver_endSection_131 ?_
        refine lv_aload_n hx hb d_Receiver_endSection_134 rfl (lv_at hl 4 rfl) ?_
        refine lv_aload_n hx hb d_Receiver_endSection_135 rfl (lv_at hl 3 rfl) ?_
        refine va_getN (D := D) (ci := 1) (v := .int (nI pid)) (C := R_Lane) (T := F_Lane) (N := 8) hx hb hts i_Lane hown hK hP 4 rfl rfl 0 (by decide) (hts _ wd_244) (fun _ h9 => h9) rfl d_Receiver_endSection_136 ?_
        have hT9 : isT ([(rv, .inr (4, [.ref tp, .ref ln, .ref tb, .ref ca, .ref dp])), (ca, .inl (cI, 10, .inl (cup cn 6))), (ln, .inr (2, [.ref hd])), (hd, .inl (cN, 256, .inr (.inr (.inr (.inr hf))))), (la, .inr (1, [.int (nI pid), va_rf nx, .int ct, .int tw, .long ck, .int wr, .ref h, va_rf (pi.map (fun q => q.1))])), (h, .inr (0, [.ref a, .int (nI (n - 4))])), (a, .inl (cB, 1024, .inl f))] ++ (tplr cO e0 tb lv pr P.length pmo pst P ++ (lzI pi ++ (lpl cB (T1 ++ T2) ++ Q)))) cO tb pr lv (pvw P) := tok_isT (X := [(rv, .inr (4, [.ref tp, .ref ln, .ref tb, .ref ca, .ref dp])), (ca, .inl (cI, 10, .inl (cup cn 6))), (ln, .inr (2, [.ref hd])), (hd, .inl (cN, 256, .inr (.inr (.inr (.inr hf))))), (la, .inr (1, [.int (nI pid), va_rf nx, .int ct, .int tw, .long ck, .int wr, .ref h, va_rf (pi.map (fun q => q.1))])), (h, .inr (0, [.ref a, .int (nI (n - 4))])), (a, .inl (cB, 1024, .inl f))]) (e0 := e0) (tb := tb) (pr := pr) (lv := lv) (pmo := pmo) (tok_mono htk hIm9)
        obtain ⟨q139, hq139⟩ : ∃ q0 : Nat, ([(rv, .inr (4, [.ref tp, .ref ln, .ref tb, .ref ca, .ref dp])), (ca, .inl (cI, 10, .inl (cup cn 6))), (ln, .inr (2, [.ref hd])), (hd, .inl (cN, 256, .inr (.inr (.inr (.inr hf))))), (la, .inr (1, [.int (nI pid), va_rf nx, .int ct, .int tw, .long ck, .int wr, .ref h, va_rf (pi.map (fun q => q.1))])), (h, .inr (0, [.ref a, .int (nI (n - 4))])), (a, .inl (cB, 1024, .inl f))] ++ (tplr cO e0 tb lv pr P.length pmo pst P ++ (lzI pi ++ (lpl cB (T1 ++ T2) ++ Q))))[q0]? = some (tb, .inr (8, [.int lv, .ref pr])) := List.getElem?_of_mem (List.mem_append_right _ (List.mem_append_left _ List.mem_cons_self))
        have hPc := hP.part (cx := [(h, .inr (0, [.ref a, .int (nI (n - 4))])), (a, .inl (cB, 1024, .inl f))]) [5, 6] rfl
        have hKc := hK.sub (tys' := [(cB, .byte), (cO, .object "java/lang/Object")]) [0, 3] rfl
        have hDc := hD.part (cx := [(h, .inr (0, [.ref a, .int (nI (n - 4))])), (a, .inl (cB, 1024, .inl f))]) [5, 6] (by decide) rfl
        have hFc := va_freeP (cx := [(h, .inr (0, [.ref a, .int (nI (n - 4))])), (a, .inl (cB, 1024, .inl f))]) hD hS hA [5, 6] rfl
        refine va_callv (va_runV (As := [.ref h, .int (nI pid)]) (rest := []) ⟨hx, hb, hml, hown, hts⟩ (c_Tables_useOrder l D B0 hG H.size cB h a (n - 4) f cO e0 tb pr lv pmo pst P (lzI pi ++ (lpl cB (T1 ++ T2) ++ Q)) pid (by omega) he0 (tok_mono htk hIm9) hpid) (z_cV hN wd_651 wd_63 wd_648 hd_Tables_useOrder rfl rfl ⟨Nat.le_of_ble_eq_true rfl, Nat.le_of_ble_eq_true rfl⟩ wd_649 wd_650) (z_preVo (va_recv (ci := 8) (q0 := q139) hK hP rfl hq139) hPc hKc hN hDc hO hS hAO) rfl rfl hl.1 rfl (lv_room (Nat.le_of_ble_eq_true rfl)) d_Receiver_endSection_139 ⟨by show 0 + 3 ≤ seC pid n; omega, by show 0 + 18 ≤ seS pid n; omega⟩) hS (fun q _ h => hFc q h) hFc (fun t9 t H locs ht hvm e139 hB hz1 hk1 hS => ?_)
        obtain ⟨hP1, hK1, hD1⟩ := hB
        rw [ht] at hP1
        obtain ⟨hP, hD⟩ := va_joinP (wr := [(rv, .inr (4, [.ref tp, .ref ln, .ref tb, .ref ca, .ref dp])), (ca, .inl (cI, 10, .inl (cup cn 6))), (ln, .inr (2, [.ref hd])), (hd, .inl (cN, 256, .inr (.inr (.inr (.inr hf))))), (la, .inr (1, [.int (nI pid), va_rf nx, .int ct, .int tw, .long ck, .int wr, .ref h, va_rf (pi.map (fun q => q.1))]))]) (rx := [(h, .inr (0, [.ref a, .int (nI (n - 4))])), (a, .inl (cB, 1024, .inl f))]) hP hD [5, 6] [0, 1, 2, 3, 4] rfl rfl (by decide) (by decide) hk1 hFc hP1 hD1
        clear hk1 hP1 hD1 hFc hPc hDc hz1
        have hP : va_P D classes ([(rv, .inr (4, [.ref tp, .ref ln, .ref tb, .ref ca, .ref dp])), (ca, .inl (cI, 10, .inl (cup cn 6))), (ln, .inr (2, [.ref hd])), (hd, .inl (cN, 256, .inr (.inr (.inr (.inr hf))))), (la, .inr (1, [.int (nI pid), va_rf nx, .int ct, .int tw, .long ck, .int wr, .ref h, va_rf (pi.map (fun q => q.1))])), (h, .inr (0, [.ref a, .int (nI (n - 4))])), (a, .inl (cB, 1024, .inl f))] ++ (tplr cO e0 tb lv pr P.length pmo pst t9.1 ++ (t9.2 ++ (lzI pi ++ (lpl cB (T1 ++ T2) ++ Q))))) H := hP
        have hD : va_D A ([(rv, .inr (4, [.ref tp, .ref ln, .ref tb, .ref ca, .ref dp])), (ca, .inl (cI, 10, .inl (cup cn 6))), (ln, .inr (2, [.ref hd])), (hd, .inl (cN, 256, .inr (.inr (.inr (.inr hf))))), (la, .inr (1, [.int (nI pid), va_rf nx, .int ct, .int tw, .long ck, .int wr, .ref h, va_rf (pi.map (fun q => q.1))])), (h, .inr (0, [.ref a, .int (nI (n - 4))])), (a, .inl (cB, 1024, .inl f))] ++ (tplr cO e0 tb lv pr P.length pmo pst t9.1 ++ (t9.2 ++ (lzI pi ++ (lpl cB (T1 ++ T2) ++ Q))))) := hD
        rw [← uo_len e139.1] at hP hD
        refine lv_goto (tgt := 145) hx hb d_Receiver_endSection_142 rfl ?_
        refine W.widen (k := seC pid n) (n := seS pid n) (by show 0 + 3 ≤ seC pid n; omega) (by show 0 + 18 ≤ seS pid n; omega) ?_
        refine W.widen (k := seC pid n) (n := seS pid n) (by omega) (by omega) ?_
        exact lem145 0 lv pr pmo pst t9.1 t9.2 H locs ls (Or.inr (Or.inr (Or.inl ⟨e72, rfl, e139.1, rfl⟩))) (uo_tok htk e139.1 e139.2) (uo_awk haw e139.1) (lv_sub hl [2, 3, 4, 0] rfl) hP hD hS
      obtain rfl : uu = 4 := by omega
      refine lv_tableOut (tgt := 145) hx hb d_Receiver_endSection_75 (by decide) rfl ?_
      refine W.widen (k := seC pid n) (n := seS pid n) (by show 0 ≤ seC pid n; omega) (by show 0 ≤ seS pid n; omega) ?_
      refine W.widen (k := seC pid n) (n := seS pid n) (by omega) (by omega) ?_
      exact lem145 0 lv pr pmo pst P [] H locs ls (Or.inr (Or.inr (Or.inr ⟨by first | exact Or.inl e72 | exact Or.inr e72, rfl, rfl⟩))) htk haw (lv_sub hl [2, 3, 4, 0] rfl) hP hD hS
