theorem wd_60 : (Jvm.Cond.initialized "StreamSplitter$Receiver") ∈ lw_ok := List.mem_filter.mpr ⟨List.mem_of_getElem? (i := 60) (by decide +kernel), rfl⟩
theorem wd_62 : (Jvm.Cond.initialized "StreamSplitter$Lanes") ∈ lw_ok := List.mem_filter.mpr ⟨List.mem_of_getElem? (i := 62) (by decide +kernel), rfl⟩
theorem wd_63 : (Jvm.Cond.initialized "StreamSplitter$Tables") ∈ lw_ok := List.mem_filter.mpr ⟨List.mem_of_getElem? (i := 63) (by decide +kernel), rfl⟩
theorem wd_91 : (Jvm.Cond.methodLink "StreamSplitter" (3 : Nat) ({ cls := "java/lang/Object", name := "<init>", desc := "()V" } : Jvm.MethodName)) ∈ lw_ok := List.mem_filter.mpr ⟨List.mem_of_getElem? (i := 91) (by decide +kernel), rfl⟩
theorem wd_94 : (Jvm.Cond.classLink "StreamSplitter" (9 : Nat) "StreamSplitter$Receiver") ∈ lw_ok := List.mem_filter.mpr ⟨List.mem_of_getElem? (i := 94) (by decide +kernel), rfl⟩
theorem wd_95 : (Jvm.Cond.instantiable "StreamSplitter$Receiver" (5 : Nat)) ∈ lw_ok := List.mem_filter.mpr ⟨List.mem_of_getElem? (i := 95) (by decide +kernel), rfl⟩
theorem wd_96 : (Jvm.Cond.methodLinkNest "StreamSplitter" (11 : Nat) ({ cls := "StreamSplitter$Receiver", name := "<init>", desc := "()V" } : Jvm.MethodName) "StreamSplitter") ∈ lw_ok := List.mem_filter.mpr ⟨List.mem_of_getElem? (i := 96) (by decide +kernel), rfl⟩
theorem wd_97 : (Jvm.Cond.instanceMethod ({ cls := "StreamSplitter$Receiver", name := "<init>", desc := "()V" } : Jvm.MethodName)) ∈ lw_ok := List.mem_filter.mpr ⟨List.mem_of_getElem? (i := 97) (by decide +kernel), rfl⟩
set_option maxRecDepth 100000 in
theorem wd_98 : (Jvm.Cond.code ({ cls := "StreamSplitter$Receiver", name := "<init>", desc := "()V" } : Jvm.MethodName) prog_8_method_1_code (1 : Nat) (Option.none : Option Jvm.ClassFile.FieldType)) ∈ lw_ok := List.mem_filter.mpr ⟨List.mem_of_getElem? (i := 98) (by rfl), rfl⟩
theorem wd_99 : (Jvm.Cond.methodLink "StreamSplitter$Receiver" (3 : Nat) ({ cls := "java/lang/Object", name := "<init>", desc := "()V" } : Jvm.MethodName)) ∈ lw_ok := List.mem_filter.mpr ⟨List.mem_of_getElem? (i := 99) (by decide +kernel), rfl⟩
theorem wd_100 : (Jvm.Cond.classLink "StreamSplitter$Receiver" (9 : Nat) "StreamSplitter$Row") ∈ lw_ok := List.mem_filter.mpr ⟨List.mem_of_getElem? (i := 100) (by decide +kernel), rfl⟩
theorem wd_101 : (Jvm.Cond.instantiable "StreamSplitter$Row" (2 : Nat)) ∈ lw_ok := List.mem_filter.mpr ⟨List.mem_of_getElem? (i := 101) (by decide +kernel), rfl⟩
theorem wd_102 : (Jvm.Cond.methodLink "StreamSplitter$Receiver" (11 : Nat) ({ cls := "StreamSplitter$Row", name := "<init>", desc := "(I)V" } : Jvm.MethodName)) ∈ lw_ok := List.mem_filter.mpr ⟨List.mem_of_getElem? (i := 102) (by decide +kernel), rfl⟩
theorem wd_103 : (Jvm.Cond.instanceMethod ({ cls := "StreamSplitter$Row", name := "<init>", desc := "(I)V" } : Jvm.MethodName)) ∈ lw_ok := List.mem_filter.mpr ⟨List.mem_of_getElem? (i := 103) (by decide +kernel), rfl⟩
set_option maxRecDepth 100000 in
theorem wd_104 : (Jvm.Cond.code ({ cls := "StreamSplitter$Row", name := "<init>", desc := "(I)V" } : Jvm.MethodName) prog_9_method_1_code (2 : Nat) (Option.none : Option Jvm.ClassFile.FieldType)) ∈ lw_ok := List.mem_filter.mpr ⟨List.mem_of_getElem? (i := 104) (by rfl), rfl⟩
theorem wd_119 : (Jvm.Cond.classLink "StreamSplitter$Receiver" (20 : Nat) "StreamSplitter$Lanes") ∈ lw_ok := List.mem_filter.mpr ⟨List.mem_of_getElem? (i := 119) (by decide +kernel), rfl⟩
theorem wd_120 : (Jvm.Cond.instantiable "StreamSplitter$Lanes" (1 : Nat)) ∈ lw_ok := List.mem_filter.mpr ⟨List.mem_of_getElem? (i := 120) (by decide +kernel), rfl⟩
theorem wd_121 : (Jvm.Cond.methodLinkNest "StreamSplitter$Receiver" (22 : Nat) ({ cls := "StreamSplitter$Lanes", name := "<init>", desc := "()V" } : Jvm.MethodName) "StreamSplitter") ∈ lw_ok := List.mem_filter.mpr ⟨List.mem_of_getElem? (i := 121) (by decide +kernel), rfl⟩
theorem wd_122 : (Jvm.Cond.instanceMethod ({ cls := "StreamSplitter$Lanes", name := "<init>", desc := "()V" } : Jvm.MethodName)) ∈ lw_ok := List.mem_filter.mpr ⟨List.mem_of_getElem? (i := 122) (by decide +kernel), rfl⟩
set_option maxRecDepth 100000 in
theorem wd_123 : (Jvm.Cond.code ({ cls := "StreamSplitter$Lanes", name := "<init>", desc := "()V" } : Jvm.MethodName) prog_4_method_1_code (1 : Nat) (Option.none : Option Jvm.ClassFile.FieldType)) ∈ lw_ok := List.mem_filter.mpr ⟨List.mem_of_getElem? (i := 123) (by rfl), rfl⟩
theorem wd_124 : (Jvm.Cond.methodLink "StreamSplitter$Lanes" (1 : Nat) ({ cls := "java/lang/Object", name := "<init>", desc := "()V" } : Jvm.MethodName)) ∈ lw_ok := List.mem_filter.mpr ⟨List.mem_of_getElem? (i := 124) (by decide +kernel), rfl⟩
theorem wd_125 : (Jvm.Cond.classLink "StreamSplitter$Lanes" (9 : Nat) "StreamSplitter$Lane") ∈ lw_ok := List.mem_filter.mpr ⟨List.mem_of_getElem? (i := 125) (by decide +kernel), rfl⟩
theorem wd_127 : (Jvm.Cond.fieldLink "StreamSplitter$Lanes" (11 : Nat) "StreamSplitter$Lanes" "heads" "[LStreamSplitter$Lane;") ∈ lw_ok := List.mem_filter.mpr ⟨List.mem_of_getElem? (i := 127) (by decide +kernel), rfl⟩
theorem wd_132 : (Jvm.Cond.classLink "StreamSplitter$Receiver" (27 : Nat) "StreamSplitter$Tables") ∈ lw_ok := List.mem_filter.mpr ⟨List.mem_of_getElem? (i := 132) (by decide +kernel), rfl⟩
theorem wd_133 : (Jvm.Cond.instantiable "StreamSplitter$Tables" (2 : Nat)) ∈ lw_ok := List.mem_filter.mpr ⟨List.mem_of_getElem? (i := 133) (by decide +kernel), rfl⟩
theorem wd_134 : (Jvm.Cond.methodLinkNest "StreamSplitter$Receiver" (29 : Nat) ({ cls := "StreamSplitter$Tables", name := "<init>", desc := "()V" } : Jvm.MethodName) "StreamSplitter") ∈ lw_ok := List.mem_filter.mpr ⟨List.mem_of_getElem? (i := 134) (by decide +kernel), rfl⟩
theorem wd_135 : (Jvm.Cond.instanceMethod ({ cls := "StreamSplitter$Tables", name := "<init>", desc := "()V" } : Jvm.MethodName)) ∈ lw_ok := List.mem_filter.mpr ⟨List.mem_of_getElem? (i := 135) (by decide +kernel), rfl⟩
set_option maxRecDepth 100000 in
theorem wd_136 : (Jvm.Cond.code ({ cls := "StreamSplitter$Tables", name := "<init>", desc := "()V" } : Jvm.MethodName) prog_11_method_1_code (1 : Nat) (Option.none : Option Jvm.ClassFile.FieldType)) ∈ lw_ok := List.mem_filter.mpr ⟨List.mem_of_getElem? (i := 136) (by rfl), rfl⟩
theorem wd_137 : (Jvm.Cond.methodLink "StreamSplitter$Tables" (3 : Nat) ({ cls := "java/lang/Object", name := "<init>", desc := "()V" } : Jvm.MethodName)) ∈ lw_ok := List.mem_filter.mpr ⟨List.mem_of_getElem? (i := 137) (by decide +kernel), rfl⟩
theorem wd_138 : (Jvm.Cond.classLink "StreamSplitter$Tables" (15 : Nat) "java/util/ArrayList") ∈ lw_ok := List.mem_filter.mpr ⟨List.mem_of_getElem? (i := 138) (by decide +kernel), rfl⟩
theorem wd_139 : (Jvm.Cond.instantiable "java/util/ArrayList" (3 : Nat)) ∈ lw_ok := List.mem_filter.mpr ⟨List.mem_of_getElem? (i := 139) (by decide +kernel), rfl⟩
theorem wd_140 : (Jvm.Cond.methodLink "StreamSplitter$Tables" (17 : Nat) ({ cls := "java/util/ArrayList", name := "<init>", desc := "()V" } : Jvm.MethodName)) ∈ lw_ok := List.mem_filter.mpr ⟨List.mem_of_getElem? (i := 140) (by decide +kernel), rfl⟩
theorem wd_141 : (Jvm.Cond.instanceMethod ({ cls := "java/util/ArrayList", name := "<init>", desc := "()V" } : Jvm.MethodName)) ∈ lw_ok := List.mem_filter.mpr ⟨List.mem_of_getElem? (i := 141) (by decide +kernel), rfl⟩
set_option maxRecDepth 100000 in
theorem wd_142 : (Jvm.Cond.code ({ cls := "java/util/ArrayList", name := "<init>", desc := "()V" } : Jvm.MethodName) prog_28_method_2_code (1 : Nat) (Option.none : Option Jvm.ClassFile.FieldType)) ∈ lw_ok := List.mem_filter.mpr ⟨List.mem_of_getElem? (i := 142) (by rfl), rfl⟩
theorem wd_164 : (Jvm.Cond.fieldLink "StreamSplitter$Tables" (9 : Nat) "StreamSplitter$Tables" "listVersion" "I") ∈ lw_ok := List.mem_filter.mpr ⟨List.mem_of_getElem? (i := 164) (by decide +kernel), rfl⟩
theorem wd_166 : (Jvm.Cond.fieldLink "StreamSplitter$Tables" (18 : Nat) "StreamSplitter$Tables" "programmes" "Ljava/util/ArrayList;") ∈ lw_ok := List.mem_filter.mpr ⟨List.mem_of_getElem? (i := 166) (by decide +kernel), rfl⟩
theorem wd_173 : (Jvm.Cond.classLink "StreamSplitter$Receiver" (38 : Nat) "StreamSplitter$Piece") ∈ lw_ok := List.mem_filter.mpr ⟨List.mem_of_getElem? (i := 173) (by decide +kernel), rfl⟩
theorem wd_177 : (Jvm.Cond.fieldLink "StreamSplitter$Receiver" (23 : Nat) "StreamSplitter$Receiver" "lanes" "LStreamSplitter$Lanes;") ∈ lw_ok := List.mem_filter.mpr ⟨List.mem_of_getElem? (i := 177) (by decide +kernel), rfl⟩
theorem wd_179 : (Jvm.Cond.fieldLink "StreamSplitter$Receiver" (30 : Nat) "StreamSplitter$Receiver" "tables" "LStreamSplitter$Tables;") ∈ lw_ok := List.mem_filter.mpr ⟨List.mem_of_getElem? (i := 179) (by decide +kernel), rfl⟩
theorem wd_181 : (Jvm.Cond.fieldLink "StreamSplitter$Receiver" (34 : Nat) "StreamSplitter$Receiver" "counts" "[I") ∈ lw_ok := List.mem_filter.mpr ⟨List.mem_of_getElem? (i := 181) (by decide +kernel), rfl⟩
theorem wd_183 : (Jvm.Cond.fieldLink "StreamSplitter$Receiver" (40 : Nat) "StreamSplitter$Receiver" "donePieces" "[LStreamSplitter$Piece;") ∈ lw_ok := List.mem_filter.mpr ⟨List.mem_of_getElem? (i := 183) (by decide +kernel), rfl⟩
theorem wd_195 : (Jvm.Cond.arrayClass Jvm.ClassFile.FieldType.int) ∈ lw_ok := List.mem_filter.mpr ⟨List.mem_of_getElem? (i := 195) (by decide +kernel), rfl⟩
theorem wd_196 : (Jvm.Cond.classLink "StreamSplitter" (16 : Nat) "java/util/ArrayList") ∈ lw_ok := List.mem_filter.mpr ⟨List.mem_of_getElem? (i := 196) (by decide +kernel), rfl⟩
theorem wd_197 : (Jvm.Cond.methodLink "StreamSplitter" (18 : Nat) ({ cls := "java/util/ArrayList", name := "<init>", desc := "()V" } : Jvm.MethodName)) ∈ lw_ok := List.mem_filter.mpr ⟨List.mem_of_getElem? (i := 197) (by decide +kernel), rfl⟩
theorem wd_199 : (Jvm.Cond.fieldLink "StreamSplitter" (19 : Nat) "StreamSplitter" "drafts" "Ljava/util/ArrayList;") ∈ lw_ok := List.mem_filter.mpr ⟨List.mem_of_getElem? (i := 199) (by decide +kernel), rfl⟩
theorem wd_238 : (Jvm.Cond.methodLink "StreamSplitter$Lane" (3 : Nat) ({ cls := "java/lang/Object", name := "<init>", desc := "()V" } : Jvm.MethodName)) ∈ lw_ok := List.mem_filter.mpr ⟨List.mem_of_getElem? (i := 238) (by decide +kernel), rfl⟩
theorem wd_239 : (Jvm.Cond.constantLong "StreamSplitter$Lane" (15 : Nat) (-1 : Int64)) ∈ lw_ok := List.mem_filter.mpr ⟨List.mem_of_getElem? (i := 239) (by decide +kernel), rfl⟩
theorem wd_240 : (Jvm.Cond.fieldLink "StreamSplitter$Lane" (21 : Nat) "StreamSplitter$Lane" "pid" "I") ∈ lw_ok := List.mem_filter.mpr ⟨List.mem_of_getElem? (i := 240) (by decide +kernel), rfl⟩
theorem wd_245 : (Jvm.Cond.fieldLink "StreamSplitter$Lane" (24 : Nat) "StreamSplitter$Lane" "next" "LStreamSplitter$Lane;") ∈ lw_ok := List.mem_filter.mpr ⟨List.mem_of_getElem? (i := 245) (by decide +kernel), rfl⟩
theorem wd_248 : (Jvm.Cond.fieldLink "StreamSplitter$Lane" (9 : Nat) "StreamSplitter$Lane" "count" "I") ∈ lw_ok := List.mem_filter.mpr ⟨List.mem_of_getElem? (i := 248) (by decide +kernel), rfl⟩
theorem wd_251 : (Jvm.Cond.fieldLink "StreamSplitter$Lane" (17 : Nat) "StreamSplitter$Lane" "clock" "J") ∈ lw_ok := List.mem_filter.mpr ⟨List.mem_of_getElem? (i := 251) (by decide +kernel), rfl⟩
theorem wd_900 : (Jvm.Cond.methodLink "StreamSplitter$Draft" (3 : Nat) ({ cls := "java/lang/Object", name := "<init>", desc := "()V" } : Jvm.MethodName)) ∈ lw_ok := List.mem_filter.mpr ⟨List.mem_of_getElem? (i := 900) (by decide +kernel), rfl⟩
theorem wd_901 : (Jvm.Cond.classLink "StreamSplitter$Draft" (9 : Nat) "java/util/ArrayList") ∈ lw_ok := List.mem_filter.mpr ⟨List.mem_of_getElem? (i := 901) (by decide +kernel), rfl⟩
theorem wd_902 : (Jvm.Cond.methodLink "StreamSplitter$Draft" (11 : Nat) ({ cls := "java/util/ArrayList", name := "<init>", desc := "()V" } : Jvm.MethodName)) ∈ lw_ok := List.mem_filter.mpr ⟨List.mem_of_getElem? (i := 902) (by decide +kernel), rfl⟩
theorem wd_903 : (Jvm.Cond.fieldLink "StreamSplitter$Draft" (18 : Nat) "StreamSplitter$Draft" "number" "I") ∈ lw_ok := List.mem_filter.mpr ⟨List.mem_of_getElem? (i := 903) (by decide +kernel), rfl⟩
theorem wd_905 : (Jvm.Cond.fieldLink "StreamSplitter$Draft" (22 : Nat) "StreamSplitter$Draft" "pid" "I") ∈ lw_ok := List.mem_filter.mpr ⟨List.mem_of_getElem? (i := 905) (by decide +kernel), rfl⟩
theorem wd_908 : (Jvm.Cond.fieldLink "StreamSplitter$Draft" (12 : Nat) "StreamSplitter$Draft" "streams" "Ljava/util/ArrayList;") ∈ lw_ok := List.mem_filter.mpr ⟨List.mem_of_getElem? (i := 908) (by decide +kernel), rfl⟩
theorem hd_AL_init : y_AL_init.cls ≠ "java/lang/invoke/MethodHandle" ∧ y_AL_init.cls ≠ "java/lang/invoke/VarHandle" ∧ (parseMethodDescriptor y_AL_init.desc).map (fun d => d.parameters.length) = some 0 := by decide +kernel
theorem hd_Lanes_init : y_Lanes_init.cls ≠ "java/lang/invoke/MethodHandle" ∧ y_Lanes_init.cls ≠ "java/lang/invoke/VarHandle" ∧ (parseMethodDescriptor y_Lanes_init.desc).map (fun d => d.parameters.length) = some 0 := by decide +kernel
theorem hd_Receiver_init : y_Receiver_init.cls ≠ "java/lang/invoke/MethodHandle" ∧ y_Receiver_init.cls ≠ "java/lang/invoke/VarHandle" ∧ (parseMethodDescriptor y_Receiver_init.desc).map (fun d => d.parameters.length) = some 0 := by decide +kernel
theorem hd_Row_init : y_Row_init.cls ≠ "java/lang/invoke/MethodHandle" ∧ y_Row_init.cls ≠ "java/lang/invoke/VarHandle" ∧ (parseMethodDescriptor y_Row_init.desc).map (fun d => d.parameters.length) = some 1 := by decide +kernel
theorem hd_Tables_init : y_Tables_init.cls ≠ "java/lang/invoke/MethodHandle" ∧ y_Tables_init.cls ≠ "java/lang/invoke/VarHandle" ∧ (parseMethodDescriptor y_Tables_init.desc).map (fun d => d.parameters.length) = some 0 := by decide +kernel
theorem d_Draft_init_0 : decode b_Draft_init 0 = .ok (.aload_n 0, 1) := by decide +kernel
theorem d_Draft_init_1 : decode b_Draft_init 1 = .ok (.invokespecial 3, 3) := by decide +kernel
theorem d_Draft_init_4 : decode b_Draft_init 4 = .ok (.aload_n 0, 1) := by decide +kernel
theorem d_Draft_init_5 : decode b_Draft_init 5 = .ok (.new 9, 3) := by decide +kernel
theorem d_Draft_init_8 : decode b_Draft_init 8 = .ok (.dup, 1) := by decide +kernel
theorem d_Draft_init_9 : decode b_Draft_init 9 = .ok (.invokespecial 11, 3) := by decide +kernel
theorem d_Draft_init_12 : decode b_Draft_init 12 = .ok (.putfield 12, 3) := by decide +kernel
theorem d_Draft_init_15 : decode b_Draft_init 15 = .ok (.aload_n 0, 1) := by decide +kernel
theorem d_Draft_init_16 : decode b_Draft_init 16 = .ok (.iload_n 1, 1) := by decide +kernel
theorem d_Draft_init_17 : decode b_Draft_init 17 = .ok (.putfield 18, 3) := by decide +kernel
theorem d_Draft_init_20 : decode b_Draft_init 20 = .ok (.aload_n 0, 1) := by decide +kernel
theorem d_Draft_init_21 : decode b_Draft_init 21 = .ok (.iload_n 2, 1) := by decide +kernel
theorem d_Draft_init_22 : decode b_Draft_init 22 = .ok (.putfield 22, 3) := by decide +kernel
theorem d_Draft_init_25 : decode b_Draft_init 25 = .ok (.return_, 1) := by decide +kernel
theorem d_Lane_init_0 : decode b_Lane_init 0 = .ok (.aload_n 0, 1) := by decide +kernel
theorem d_Lane_init_1 : decode b_Lane_init 1 = .ok (.invokespecial 3, 3) := by decide +kernel
theorem d_Lane_init_4 : decode b_Lane_init 4 = .ok (.aload_n 0, 1) := by decide +kernel
theorem d_Lane_init_5 : decode b_Lane_init 5 = .ok (.iconst (-1), 1) := by decide +kernel
theorem d_Lane_init_6 : decode b_Lane_init 6 = .ok (.putfield 9, 3) := by decide +kernel
theorem d_Lane_init_9 : decode b_Lane_init 9 = .ok (.aload_n 0, 1) := by decide +kernel
theorem d_Lane_init_10 : decode b_Lane_init 10 = .ok (.ldc2_w 15, 3) := by decide +kernel
theorem d_Lane_init_13 : decode b_Lane_init 13 = .ok (.putfield 17, 3) := by decide +kernel
theorem d_Lane_init_16 : decode b_Lane_init 16 = .ok (.aload_n 0, 1) := by decide +kernel
theorem d_Lane_init_17 : decode b_Lane_init 17 = .ok (.iload_n 1, 1) := by decide +kernel
theorem d_Lane_init_18 : decode b_Lane_init 18 = .ok (.putfield 21, 3) := by decide +kernel
theorem d_Lane_init_21 : decode b_Lane_init 21 = .ok (.aload_n 0, 1) := by decide +kernel
theorem d_Lane_init_22 : decode b_Lane_init 22 = .ok (.aload_n 2, 1) := by decide +kernel
theorem d_Lane_init_23 : decode b_Lane_init 23 = .ok (.putfield 24, 3) := by decide +kernel
theorem d_Lane_init_26 : decode b_Lane_init 26 = .ok (.return_, 1) := by decide +kernel
theorem d_Lanes_init_0 : decode b_Lanes_init 0 = .ok (.aload_n 0, 1) := by decide +kernel
theorem d_Lanes_init_1 : decode b_Lanes_init 1 = .ok (.invokespecial 1, 3) := by decide +kernel
theorem d_Lanes_init_4 : decode b_Lanes_init 4 = .ok (.aload_n 0, 1) := by decide +kernel
theorem d_Lanes_init_5 : decode b_Lanes_init 5 = .ok (.sipush 256, 3) := by decide +kernel
theorem d_Lanes_init_8 : decode b_Lanes_init 8 = .ok (.anewarray 9, 3) := by decide +kernel
theorem d_Lanes_init_11 : decode b_Lanes_init 11 = .ok (.putfield 11, 3) := by decide +kernel
theorem d_Lanes_init_14 : decode b_Lanes_init 14 = .ok (.return_, 1) := by decide +kernel
theorem d_Receiver_init_0 : decode b_Receiver_init 0 = .ok (.aload_n 0, 1) := by decide +kernel
theorem d_Receiver_init_1 : decode b_Receiver_init 1 = .ok (.invokespecial 3, 3) := by decide +kernel
theorem d_Receiver_init_4 : decode b_Receiver_init 4 = .ok (.aload_n 0, 1) := by decide +kernel
theorem d_Receiver_init_5 : decode b_Receiver_init 5 = .ok (.new 9, 3) := by decide +kernel
theorem d_Receiver_init_8 : decode b_Receiver_init 8 = .ok (.dup, 1) := by decide +kernel
theorem d_Receiver_init_9 : decode b_Receiver_init 9 = .ok (.sipush 9400, 3) := by decide +kernel
theorem d_Receiver_init_12 : decode b_Receiver_init 12 = .ok (.invokespecial 11, 3) := by decide +kernel
theorem d_Receiver_init_15 : decode b_Receiver_init 15 = .ok (.putfield 14, 3) := by decide +kernel
theorem d_Receiver_init_18 : decode b_Receiver_init 18 = .ok (.aload_n 0, 1) := by decide +kernel
theorem d_Receiver_init_19 : decode b_Receiver_init 19 = .ok (.new 20, 3) := by decide +kernel
theorem d_Receiver_init_22 : decode b_Receiver_init 22 = .ok (.dup, 1) := by decide +kernel
theorem d_Receiver_init_23 : decode b_Receiver_init 23 = .ok (.invokespecial 22, 3) := by decide +kernel
theorem d_Receiver_init_26 : decode b_Receiver_init 26 = .ok (.putfield 23, 3) := by decide +kernel
theorem d_Receiver_init_29 : decode b_Receiver_init 29 = .ok (.aload_n 0, 1) := by decide +kernel
theorem d_Receiver_init_30 : decode b_Receiver_init 30 = .ok (.new 27, 3) := by decide +kernel
theorem d_Receiver_init_33 : decode b_Receiver_init 33 = .ok (.dup, 1) := by decide +kernel
theorem d_Receiver_init_34 : decode b_Receiver_init 34 = .ok (.invokespecial 29, 3) := by decide +kernel
theorem d_Receiver_init_37 : decode b_Receiver_init 37 = .ok (.putfield 30, 3) := by decide +kernel
theorem d_Receiver_init_40 : decode b_Receiver_init 40 = .ok (.aload_n 0, 1) := by decide +kernel
theorem d_Receiver_init_41 : decode b_Receiver_init 41 = .ok (.bipush 10, 2) := by decide +kernel
theorem d_Receiver_init_43 : decode b_Receiver_init 43 = .ok (.newarray .int, 2) := by decide +kernel
theorem d_Receiver_init_45 : decode b_Receiver_init 45 = .ok (.putfield 34, 3) := by decide +kernel
theorem d_Receiver_init_48 : decode b_Receiver_init 48 = .ok (.aload_n 0, 1) := by decide +kernel
theorem d_Receiver_init_49 : decode b_Receiver_init 49 = .ok (.bipush 16, 2) := by decide +kernel
theorem d_Receiver_init_51 : decode b_Receiver_init 51 = .ok (.anewarray 38, 3) := by decide +kernel
theorem d_Receiver_init_54 : decode b_Receiver_init 54 = .ok (.putfield 40, 3) := by decide +kernel
theorem d_Receiver_init_57 : decode b_Receiver_init 57 = .ok (.return_, 1) := by decide +kernel
theorem d_SS_init_0 : decode b_SS_init 0 = .ok (.aload_n 0, 1) := by decide +kernel
theorem d_SS_init_1 : decode b_SS_init 1 = .ok (.invokespecial 3, 3) := by decide +kernel
theorem d_SS_init_4 : decode b_SS_init 4 = .ok (.aload_n 0, 1) := by decide +kernel
theorem d_SS_init_5 : decode b_SS_init 5 = .ok (.new 9, 3) := by decide +kernel
theorem d_SS_init_8 : decode b_SS_init 8 = .ok (.dup, 1) := by decide +kernel
theorem d_SS_init_9 : decode b_SS_init 9 = .ok (.invokespecial 11, 3) := by decide +kernel
theorem d_SS_init_12 : decode b_SS_init 12 = .ok (.putfield 12, 3) := by decide +kernel
theorem d_SS_init_15 : decode b_SS_init 15 = .ok (.aload_n 0, 1) := by decide +kernel
theorem d_SS_init_16 : decode b_SS_init 16 = .ok (.new 16, 3) := by decide +kernel
theorem d_SS_init_19 : decode b_SS_init 19 = .ok (.dup, 1) := by decide +kernel
theorem d_SS_init_20 : decode b_SS_init 20 = .ok (.invokespecial 18, 3) := by decide +kernel
theorem d_SS_init_23 : decode b_SS_init 23 = .ok (.putfield 19, 3) := by decide +kernel
theorem d_SS_init_26 : decode b_SS_init 26 = .ok (.return_, 1) := by decide +kernel
theorem d_Tables_init_0 : decode b_Tables_init 0 = .ok (.aload_n 0, 1) := by decide +kernel
theorem d_Tables_init_1 : decode b_Tables_init 1 = .ok (.invokespecial 3, 3) := by decide +kernel
theorem d_Tables_init_4 : decode b_Tables_init 4 = .ok (.aload_n 0, 1) := by decide +kernel
theorem d_Tables_init_5 : decode b_Tables_init 5 = .ok (.iconst (-1), 1) := by decide +kernel
theorem d_Tables_init_6 : decode b_Tables_init 6 = .ok (.putfield 9, 3) := by decide +kernel
theorem d_Tables_init_9 : decode b_Tables_init 9 = .ok (.aload_n 0, 1) := by decide +kernel
theorem d_Tables_init_10 : decode b_Tables_init 10 = .ok (.new 15, 3) := by decide +kernel
theorem d_Tables_init_13 : decode b_Tables_init 13 = .ok (.dup, 1) := by decide +kernel
theorem d_Tables_init_14 : decode b_Tables_init 14 = .ok (.invokespecial 17, 3) := by decide +kernel
theorem d_Tables_init_17 : decode b_Tables_init 17 = .ok (.putfield 18, 3) := by decide +kernel
theorem d_Tables_init_20 : decode b_Tables_init 20 = .ok (.return_, 1) := by decide +kernel
/-! New objects: the class's constructors -/
theorem fs_Row : ∀ j, j < 2 → defaultValue (t_Row j) = vp_V [.null, .int 0] j := fun j hj => match j, hj with
  | 0, _ => rfl
  | 1, _ => rfl
  | k + 2, h => absurd h (by omega)
theorem fs_Lanes : ∀ j, j < 1 → defaultValue (t_Lanes j) = vp_V [.null] j := fun j hj => match j, hj with
  | 0, _ => rfl
  | k + 1, h => absurd h (by omega)
theorem fs_Tables : ∀ j, j < 2 → defaultValue (t_Tables j) = vp_V [.int 0, .null] j := fun j hj => match j, hj with
  | 0, _ => rfl
  | 1, _ => rfl
  | k + 2, h => absurd h (by omega)
theorem fs_AL : ∀ j, j < 3 → defaultValue (t_AL j) = vp_V [.null, .int 0, .int 0] j := fun j hj => match j, hj with
  | 0, _ => rfl
  | 1, _ => rfl
  | 2, _ => rfl
  | k + 3, h => absurd h (by omega)
theorem fs_Receiver : ∀ j, j < 5 → defaultValue (t_Receiver j) = vp_V [.null, .null, .null, .null, .null] j := fun j hj => match j, hj with
  | 0, _ => rfl
  | 1, _ => rfl
  | 2, _ => rfl
  | 3, _ => rfl
  | 4, _ => rfl
  | k + 5, h => absurd h (by omega)
theorem fs_SS : ∀ j, j < 2 → defaultValue (t_SS j) = vp_V [.null, .null] j := fun j hj => match j, hj with
  | 0, _ => rfl
  | 1, _ => rfl
  | k + 2, h => absurd h (by omega)
theorem fs_Writer : ∀ j, j < 6 → defaultValue (t_Writer j) = vp_V [.null, .null, .int 0, .int 0, .int 0, .int 0] j := fun j hj => match j, hj with
  | 0, _ => rfl
  | 1, _ => rfl
  | 2, _ => rfl
  | 3, _ => rfl
  | 4, _ => rfl
  | 5, _ => rfl
  | k + 6, h => absurd h (by omega)
theorem fs_Lane : ∀ j, j < 8 → defaultValue (t_Lane j) = vp_V [.int 0, .null, .int 0, .int 0, .long 0, .int 0, .null, .null] j := fun j hj => match j, hj with
  | 0, _ => rfl
  | 1, _ => rfl
  | 2, _ => rfl
  | 3, _ => rfl
  | 4, _ => rfl
  | 5, _ => rfl
  | 6, _ => rfl
  | 7, _ => rfl
  | k + 8, h => absurd h (by omega)
theorem fs_Draft : ∀ j, j < 3 → defaultValue (t_Draft j) = vp_V [.int 0, .int 0, .null] j := fun j hj => match j, hj with
  | 0, _ => rfl
  | 1, _ => rfl
  | 2, _ => rfl
  | k + 3, h => absurd h (by omega)
theorem fs_Mo : ∀ j, j < 54 → defaultValue (t_Mo j) = vp_V [.int 0, .null, .int 0, .null, .null, .null, .null, .null, .null, .null, .null, .null, .null, .null, .null, .null, .int 0, .null, .int 0, .int 0, .null, .null, .null, .null, .null, .null, .null, .null, .null, .null, .null, .null, .null, .null, .null, .null, .null, .null, .null, .null, .null, .null, .null, .null, .int 0, .int 0, .null, .null, .null, .null, .null, .null, .null, .int 0] j := fun j hj => match j, hj with
  | 0, _ => rfl
  | 1, _ => rfl
  | 2, _ => rfl
  | 3, _ => rfl
  | 4, _ => rfl
  | 5, _ => rfl
  | 6, _ => rfl
  | 7, _ => rfl
  | 8, _ => rfl
  | 9, _ => rfl
  | 10, _ => rfl
  | 11, _ => rfl
  | 12, _ => rfl
  | 13, _ => rfl
  | 14, _ => rfl
  | 15, _ => rfl
  | 16, _ => rfl
  | 17, _ => rfl
  | 18, _ => rfl
  | 19, _ => rfl
  | 20, _ => rfl
  | 21, _ => rfl
  | 22, _ => rfl
  | 23, _ => rfl
  | 24, _ => rfl
  | 25, _ => rfl
  | 26, _ => rfl
  | 27, _ => rfl
  | 28, _ => rfl
  | 29, _ => rfl
  | 30, _ => rfl
  | 31, _ => rfl
  | 32, _ => rfl
  | 33, _ => rfl
  | 34, _ => rfl
  | 35, _ => rfl
  | 36, _ => rfl
  | 37, _ => rfl
  | 38, _ => rfl
  | 39, _ => rfl
  | 40, _ => rfl
  | 41, _ => rfl
  | 42, _ => rfl
  | 43, _ => rfl
  | 44, _ => rfl
  | 45, _ => rfl
  | 46, _ => rfl
  | 47, _ => rfl
  | 48, _ => rfl
  | 49, _ => rfl
  | 50, _ => rfl
  | 51, _ => rfl
  | 52, _ => rfl
  | 53, _ => rfl
  | k + 54, h => absurd h (by omega)
set_option maxHeartbeats 4000000 in
set_option maxRecDepth 100000 in
theorem c_Lanes_init (l : Launch) (D : va_G) (B0 : State) (hG : zG B0) (sz : Nat) (cN : ClassId) (h : Nat)  : Met l y_Lanes_init [Cond.code y_Lanes_init b_Lanes_init 1 none] ({ frames := 1, cells := 1, slots := 256, locals := 12 }) (zMo [.ref h] D [(h, .inr (2, [.null]))] [(cN, .object "StreamSplitter$Lane")] sz B0) (va_Qv (fun (u : Nat) => True) (fun (u : Nat) t => zW D (va_A [(h, .inr (2, [.null]))] sz) [(h, .inr (2, [.ref u])), (u, .inl (cN, 256, .inr (.inr (.inr (.inr (fun _ => none))))))] [(cN, .object "StreamSplitter$Lane")] t) (va_A [(h, .inr (2, [.null]))] sz)) 1 256 (va_A [(h, .inr (2, [.null]))] sz) := by
  refine Met.ofW (cc := b_Lanes_init) (maxL := 1) (ret := none) (by decide) rfl ?_
  intro p e s m args below meth cd s₁ Bd hml hv
  obtain ⟨rfl, hsz, hP, hK, hN, hD0, hO⟩ := hv
  have hx := Bd.exec
  have hb := Bd.bytes
  have hr := Bd.returns
  have hts := hN.use (a := ([.ref h]).toArray)
  have hown : s.vm.findClass R_Lanes = some m.cls := findClass_of_methodNamed Bd.named
  have hlocks := Bd.notSynchronized
  have hin : meth.name = "<init>" := (name_of_methodNamed Bd.named Bd.method).1
  subst hsz
  have hD := hD0.self (sz := s.heap.size)
  have hAO := z_AO hD0 hO
  clear hD0
  have hA : ∀ q : Nat, s.heap.size ≤ q → va_A [(h, .inr (2, [.null]))] s.heap.size q := fun q h => Or.inr h
  have hS : va_S (va_A [(h, .inr (2, [.null]))] s.heap.size) s.heap s.heap [] := va_S.rf
  generalize hAe : va_A [(h, .inr (2, [.null]))] s.heap.size = A at hD hA hS hAO ⊢
  have hP : va_P D classes [(h, .inr (2, [.null]))] s.heap := hP
  have hl := lv_entry ([.ref h]) (n := 1) (Nat.le_of_ble_eq_true rfl)
  rw [lg_entry_eq]
  generalize (lg_sl ([.ref h]) ++ List.replicate (1 - (lg_sl ([.ref h])).length) Slot.unset).toArray = ls at hl ⊢
  have hl : lv_has ls 1 [(0, .ref h)] := hl
  refine lv_aload_n hx hb d_Lanes_init_0 rfl (lv_at hl 0 rfl) ?_
  refine W.objInit hx hb hown (hts _ wd_124) (hts _ wd_92) (hts _ wd_93) rfl (by rw [hml]; exact hl.1) rfl d_Lanes_init_1 (Nat.le_of_ble_eq_true rfl) (Nat.le_of_ble_eq_true rfl) ?_
  refine W.eq (g2 := F0 m 4 ls []) rfl ?_
  refine lv_aload_n hx hb d_Lanes_init_4 rfl (lv_at hl 0 rfl) ?_
  refine lv_sipush (v := 256) hx hb d_Lanes_init_5 (by decide) ?_
  refine z_newq hx hb hown (hts _ wd_125) (z_over hG hO (by decide +kernel)) hK hP hD hS hA 0 rfl (N' := 256) (by decide) (by decide) (by omega) (by show 0 + 1 ≤ 1; omega) (by show 0 + 256 ≤ 256; omega) d_Lanes_init_8 (fun q8 H hP hD hS => ?_)
  have hP : va_P D classes [(h, .inr (2, [.null])), (q8, .inl (cN, 256, .inr (.inr (.inr (.inr (fun _ => none))))))] H := hP
  have hD : va_D A [(h, .inr (2, [.null])), (q8, .inl (cN, 256, .inr (.inr (.inr (.inr (fun _ => none))))))] := hD
  refine va_putF (D := D) (ci := 2) (v := .ref q8) (ty := (.array (.object "StreamSplitter$Lane"))) (C := R_Lanes) (T := F_Lanes) (N := 1) hx hb hts i_Lanes t_Lanes t_Lanes_ok n_Lanes hown hK hP hD hS 0 rfl rfl 0 (by decide) (hts _ wd_127) (fun _ h9 => h9) rfl hin rfl (by decide +kernel) rfl rfl (Nat.le_of_ble_eq_true rfl) d_Lanes_init_11 (fun H locs hP hD hS => ?_)
  have hP : va_P D classes [(h, .inr (2, [.ref q8])), (q8, .inl (cN, 256, .inr (.inr (.inr (.inr (fun _ => none))))))] H := hP
  have hD : va_D A [(h, .inr (2, [.ref q8])), (q8, .inl (cN, 256, .inr (.inr (.inr (.inr (fun _ => none))))))] := hD
  have hP9 := hP.sub (ws' := [(h, .inr (2, [.ref q8])), (q8, .inl (cN, 256, .inr (.inr (.inr (.inr (fun _ => none))))))]) [0, 1] rfl
  have hD9 := hD.sub (ws' := [(h, .inr (2, [.ref q8])), (q8, .inl (cN, 256, .inr (.inr (.inr (.inr (fun _ => none))))))]) [0, 1] (by decide) rfl
  have hK9 := hK.sub (tys' := [(cN, .object "StreamSplitter$Lane")]) [0] rfl
  refine W.widen (k := 1) (n := 256) (by omega) (by omega) ?_
  exact W.vret hx hb hr (fun t ht hW => ⟨⟨q8, rfl, trivial, ⟨by rw [ht]; exact hP9, va_K.moved hW.alike hK9, hD9⟩⟩, hS.F ht⟩) hS.2.2 d_Lanes_init_14
set_option maxHeartbeats 4000000 in
set_option maxRecDepth 100000 in
theorem c_Tables_init (l : Launch) (D : va_G) (B0 : State) (hG : zG B0) (sz : Nat) (h e0 : Nat) (he0 : zE0 B0 e0) : Met l y_Tables_init [Cond.code y_Tables_init b_Tables_init 1 none] ({ frames := 4, cells := 1, slots := 3, locals := 72 }) (zMo [.ref h] D [(h, .inr (8, [.int 0, .null]))] [] sz B0) (va_Qv (fun (u : Nat) => True) (fun (u : Nat) t => zW D (va_A [(h, .inr (8, [.int 0, .null]))] sz) [(h, .inr (8, [.int (-1), .ref u])), (u, .inr (12, [.ref e0, .int 0, .int 0]))] [] t) (va_A [(h, .inr (8, [.int 0, .null]))] sz)) 1 3 (va_A [(h, .inr (8, [.int 0, .null]))] sz) := by
  refine Met.ofW (cc := b_Tables_init) (maxL := 1) (ret := none) (by decide) rfl ?_
  intro p e s m args below meth cd s₁ Bd hml hv
  obtain ⟨rfl, hsz, hP, hK, hN, hD0, hO⟩ := hv
  have hx := Bd.exec
  have hb := Bd.bytes
  have hr := Bd.returns
  have hts := hN.use (a := ([.ref h]).toArray)
  have hown : s.vm.findClass R_Tables = some m.cls := findClass_of_methodNamed Bd.named
  have hlocks := Bd.notSynchronized
  have hin : meth.name = "<init>" := (name_of_methodNamed Bd.named Bd.method).1
  subst hsz
  have hD := hD0.self (sz := s.heap.size)
  have hAO := z_AO hD0 hO
  clear hD0
  have hA : ∀ q : Nat, s.heap.size ≤ q → va_A [(h, .inr (8, [.int 0, .null]))] s.heap.size q := fun q h => Or.inr h
  have hS : va_S (va_A [(h, .inr (8, [.int 0, .null]))] s.heap.size) s.heap s.heap [] := va_S.rf
  generalize hAe : va_A [(h, .inr (8, [.int 0, .null]))] s.heap.size = A at hD hA hS hAO ⊢
  have hP : va_P D classes [(h, .inr (8, [.int 0, .null]))] s.heap := hP
  have hl := lv_entry ([.ref h]) (n := 1) (Nat.le_of_ble_eq_true rfl)
  rw [lg_entry_eq]
  generalize (lg_sl ([.ref h]) ++ List.replicate (1 - (lg_sl ([.ref h])).length) Slot.unset).toArray = ls at hl ⊢
  have hl : lv_has ls 1 [(0, .ref h)] := hl
  refine lv_aload_n hx hb d_Tables_init_0 rfl (lv_at hl 0 rfl) ?_
  refine W.objInit hx hb hown (hts _ wd_137) (hts _ wd_92) (hts _ wd_93) rfl (by rw [hml]; exact hl.1) rfl d_Tables_init_1 (Nat.le_of_ble_eq_true rfl) (Nat.le_of_ble_eq_true rfl) ?_
  refine W.eq (g2 := F0 m 4 ls []) rfl ?_
  refine lv_aload_n hx hb d_Tables_init_4 rfl (lv_at hl 0 rfl) ?_
  refine lv_iconst (v := (-1)) hx hb d_Tables_init_5 (by decide) ?_
  refine va_put (D := D) (ci := 8) (v := .int (-1)) (ty := .int) (C := R_Tables) (T := F_Tables) (N := 2) hx hb hts i_Tables t_Tables t_Tables_ok n_Tables hown hK hP hD hS 0 rfl rfl 0 (by decide) (hts _ wd_164) (fun _ h9 => h9) rfl (by decide +kernel) rfl rfl (Nat.le_of_ble_eq_true rfl) d_Tables_init_6 (fun H locs hP hD hS => ?_)
  have hP : va_P D classes [(h, .inr (8, [.int (-1), .null]))] H := hP
  have hD : va_D A [(h, .inr (8, [.int (-1), .null]))] := hD
  refine lv_aload_n hx hb d_Tables_init_9 rfl (lv_at hl 0 rfl) ?_
  refine va_new (ci := 12) (fs := [.null, .int 0, .int 0]) (C := R_AL) (T := F_AL) (N := 3) hx hb hts i_AL t_AL t_AL_ok hown (hts _ wd_138) (hts _ wd_139) (hts _ wd_66) hK hP hD hS hA rfl (fs_AL) (by show 0 + 1 ≤ 1; omega) (by show 0 + 3 ≤ 3; omega) d_Tables_init_10 (fun q10 H hP hD hS => ?_)
  have hP : va_P D classes [(h, .inr (8, [.int (-1), .null])), (q10, .inr (12, [.null, .int 0, .int 0]))] H := hP
  have hD : va_D A [(h, .inr (8, [.int (-1), .null])), (q10, .inr (12, [.null, .int 0, .int 0]))] := hD
  refine lv_dup hx hb d_Tables_init_13 rfl ?_
  have hPc := hP.sub (ws' := [(q10, .inr (12, [.null, .int 0, .int 0]))]) [1] rfl
  have hKc := hK.sub (tys' := []) [] rfl
  have hDc := hD.sub (ws' := [(q10, .inr (12, [.null, .int 0, .int 0]))]) [1] (by decide) rfl
  have hFc := va_free (wc := [(q10, .inr (12, [.null, .int 0, .int 0]))]) hD hS hA [1] rfl
  refine va_callv (va_runI (As := []) (rest := [.ref q10, .ref h]) ⟨hx, hb, hml, hown, hts⟩ (c_AL_init l D B0 hG H.size q10 e0 he0) (z_cI hN wd_142 wd_66 wd_140 hd_AL_init rfl rfl ⟨Nat.le_of_ble_eq_true rfl, Nat.le_of_ble_eq_true rfl⟩ wd_141 rfl) (z_preSo hPc hKc hN hDc hO hS hAO) rfl rfl hl.1 rfl (lv_room (Nat.le_of_ble_eq_true rfl)) d_Tables_init_14 ⟨Nat.le_of_ble_eq_true rfl, Nat.le_of_ble_eq_true rfl⟩) hS (fun q _ h => hFc q h) hFc (fun u14 t H locs ht hvm e14 hB hz1 hk1 hS => ?_)
  obtain ⟨hP1, hK1, hD1⟩ := hB
  rw [ht] at hP1
  obtain ⟨hP, hD⟩ := va_join (wr := [(h, .inr (8, [.int (-1), .null]))]) (w1 := [(q10, .inr (12, [.ref e0, .int 0, .int 0]))]) hP hD [1] [0] rfl rfl (by decide) (by decide) hk1 hFc hP1 hD1
  clear hk1 hP1 hD1 hFc hPc hDc hz1
  have hP : va_P D classes [(h, .inr (8, [.int (-1), .null])), (q10, .inr (12, [.ref e0, .int 0, .int 0]))] H := hP
  have hD : va_D A [(h, .inr (8, [.int (-1), .null])), (q10, .inr (12, [.ref e0, .int 0, .int 0]))] := hD
  refine va_put (D := D) (ci := 8) (v := .ref q10) (ty := (.object "java/util/ArrayList")) (C := R_Tables) (T := F_Tables) (N := 2) hx hb hts i_Tables t_Tables t_Tables_ok n_Tables hown hK hP hD hS 0 rfl rfl 1 (by decide) (hts _ wd_166) (fun _ h9 => h9) rfl (by decide +kernel) rfl rfl (Nat.le_of_ble_eq_true rfl) d_Tables_init_17 (fun H locs hP hD hS => ?_)
  have hP : va_P D classes [(h, .inr (8, [.int (-1), .ref q10])), (q10, .inr (12, [.ref e0, .int 0, .int 0]))] H := hP
  have hD : va_D A [(h, .inr (8, [.int (-1), .ref q10])), (q10, .inr (12, [.ref e0, .int 0, .int 0]))] := hD
  have hP9 := hP.sub (ws' := [(h, .inr (8, [.int (-1), .ref q10])), (q10, .inr (12, [.ref e0, .int 0, .int 0]))]) [0, 1] rfl
  have hD9 := hD.sub (ws' := [(h, .inr (8, [.int (-1), .ref q10])), (q10, .inr (12, [.ref e0, .int 0, .int 0]))]) [0, 1] (by decide) rfl
  have hK9 := hK.sub (tys' := []) [] rfl
  refine W.widen (k := 1) (n := 3) (by omega) (by omega) ?_
  exact W.vret hx hb hr (fun t ht hW => ⟨⟨q10, rfl, trivial, ⟨by rw [ht]; exact hP9, va_K.moved hW.alike hK9, hD9⟩⟩, hS.F ht⟩) hS.2.2 d_Tables_init_20
set_option maxHeartbeats 4000000 in
set_option maxRecDepth 100000 in
theorem c_Receiver_init (l : Launch) (D : va_G) (B0 : State) (hG : zG B0) (sz : Nat) (cB cI cN cQ : ClassId) (h e0 : Nat) (he0 : zE0 B0 e0) : Met l y_Receiver_init [Cond.code y_Receiver_init b_Receiver_init 1 none] ({ frames := 5, cells := 8, slots := 9694, locals := 92 }) (zMo [.ref h] D [(h, .inr (4, [.null, .null, .null, .null, .null]))] [(cB, .byte), (cI, .int), (cN, .object "StreamSplitter$Lane"), (cQ, .object "StreamSplitter$Piece")] sz B0) (va_Qv (fun (u : Nat → Nat) => True) (fun (u : Nat → Nat) t => zW D (va_A [(h, .inr (4, [.null, .null, .null, .null, .null]))] sz) [(h, .inr (4, [.ref (u 0), .ref (u 2), .ref (u 4), .ref (u 6), .ref (u 7)])), (u 0, .inr (0, [.ref (u 1), .int (nI 0)])), (u 1, .inl (cB, 9400, .inl (fun _ => 0))), (u 2, .inr (2, [.ref (u 3)])), (u 3, .inl (cN, 256, .inr (.inr (.inr (.inr (fun _ => none)))))), (u 4, .inr (8, [.int (-1), .ref (u 5)])), (u 5, .inr (12, [.ref e0, .int 0, .int 0])), (u 6, .inl (cI, 10, .inl (fun _ => 0))), (u 7, .inl (cQ, 16, .inr (.inr (.inr (.inr (fun _ => none))))))] [(cB, .byte), (cI, .int), (cN, .object "StreamSplitter$Lane"), (cQ, .object "StreamSplitter$Piece")] t) (va_A [(h, .inr (4, [.null, .null, .null, .null, .null]))] sz)) 8 9694 (va_A [(h, .inr (4, [.null, .null, .null, .null, .null]))] sz) := by
  refine Met.ofW (cc := b_Receiver_init) (maxL := 1) (ret := none) (by decide) rfl ?_
  intro p e s m args below meth cd s₁ Bd hml hv
  obtain ⟨rfl, hsz, hP, hK, hN, hD0, hO⟩ := hv
  have hx := Bd.exec
  have hb := Bd.bytes
  have hr := Bd.returns
  have hts := hN.use (a := ([.ref h]).toArray)
  have hown : s.vm.findClass R_Receiver = some m.cls := findClass_of_methodNamed Bd.named
  have hlocks := Bd.notSynchronized
  have hin : meth.name = "<init>" := (name_of_methodNamed Bd.named Bd.method).1
  subst hsz
  have hD := hD0.self (sz := s.heap.size)
  have hAO := z_AO hD0 hO
  clear hD0
  have hA : ∀ q : Nat, s.heap.size ≤ q → va_A [(h, .inr (4, [.null, .null, .null, .null, .null]))] s.heap.size q := fun q h => Or.inr h
  have hS : va_S (va_A [(h, .inr (4, [.null, .null, .null, .null, .null]))] s.heap.size) s.heap s.heap [] := va_S.rf
  generalize hAe : va_A [(h, .inr (4, [.null, .null, .null, .null, .null]))] s.heap.size = A at hD hA hS hAO ⊢
  have hP : va_P D classes [(h, .inr (4, [.null, .null, .null, .null, .null]))] s.heap := hP
  have hl := lv_entry ([.ref h]) (n := 1) (Nat.le_of_ble_eq_true rfl)
  rw [lg_entry_eq]
  generalize (lg_sl ([.ref h]) ++ List.replicate (1 - (lg_sl ([.ref h])).length) Slot.unset).toArray = ls at hl ⊢
  have hl : lv_has ls 1 [(0, .ref h)] := hl
  refine lv_aload_n hx hb d_Receiver_init_0 rfl (lv_at hl 0 rfl) ?_
  refine W.objInit hx hb hown (hts _ wd_99) (hts _ wd_92) (hts _ wd_93) rfl (by rw [hml]; exact hl.1) rfl d_Receiver_init_1 (Nat.le_of_ble_eq_true rfl) (Nat.le_of_ble_eq_true rfl) ?_
  refine W.eq (g2 := F0 m 4 ls []) rfl ?_
  refine lv_aload_n hx hb d_Receiver_init_4 rfl (lv_at hl 0 rfl) ?_
  refine va_new (ci := 0) (fs := [.null, .int 0]) (C := R_Row) (T := F_Row) (N := 2) hx hb hts i_Row t_Row t_Row_ok hown (hts _ wd_100) (hts _ wd_101) (hts _ wd_61) hK hP hD hS hA rfl (fs_Row) (by show 0 + 1 ≤ 8; omega) (by show 0 + 2 ≤ 9694; omega) d_Receiver_init_5 (fun q5 H hP hD hS => ?_)
  have hP : va_P D classes [(h, .inr (4, [.null, .null, .null, .null, .null])), (q5, .inr (0, [.null, .int 0]))] H := hP
  have hD : va_D A [(h, .inr (4, [.null, .null, .null, .null, .null])), (q5, .inr (0, [.null, .int 0]))] := hD
  refine lv_dup hx hb d_Receiver_init_8 rfl ?_
  refine lv_sipush (v := 9400) hx hb d_Receiver_init_9 (by decide) ?_
  have hPc := hP.sub (ws' := [(q5, .inr (0, [.null, .int 0]))]) [1] rfl
  have hKc := hK.sub (tys' := [(cB, .byte)]) [0] rfl
  have hDc := hD.sub (ws' := [(q5, .inr (0, [.null, .int 0]))]) [1] (by decide) rfl
  have hFc := va_free (wc := [(q5, .inr (0, [.null, .int 0]))]) hD hS hA [1] rfl
  refine va_callv (va_runI (As := [.int (nI 9400)]) (rest := [.ref q5, .ref h]) ⟨hx, hb, hml, hown, hts⟩ (c_Row_init l D H.size cB q5 9400 (by omega)) (z_cI hN wd_104 wd_61 wd_102 hd_Row_init rfl rfl ⟨Nat.le_of_ble_eq_true rfl, Nat.le_of_ble_eq_true rfl⟩ wd_103 rfl) (z_preSm hPc hKc hN hDc) rfl rfl hl.1 rfl (lv_room (Nat.le_of_ble_eq_true rfl)) d_Receiver_init_12 ⟨Nat.le_of_ble_eq_true rfl, Nat.le_of_ble_eq_true rfl⟩) hS (fun q _ h => hFc q h) hFc (fun qr t H locs ht hvm e12 hB hz1 hk1 hS => ?_)
  obtain ⟨hP1, hK1, hD1⟩ := hB
  rw [ht] at hP1
  obtain ⟨hP, hD⟩ := va_join (wr := [(h, .inr (4, [.null, .null, .null, .null, .null]))]) (w1 := [(q5, .inr (0, [.ref qr, .int 0])), (qr, .inl (cB, 9400, .inl (fun _ => 0)))]) hP hD [1] [0] rfl rfl (by decide) (by decide) hk1 hFc hP1 hD1
  clear hk1 hP1 hD1 hFc hPc hDc hz1
  have hP : va_P D classes [(h, .inr (4, [.null, .null, .null, .null, .null])), (q5, .inr (0, [.ref qr, .int 0])), (qr, .inl (cB, 9400, .inl (fun _ => 0)))] H := hP
  have hD : va_D A [(h, .inr (4, [.null, .null, .null, .null, .null])), (q5, .inr (0, [.ref qr, .int 0])), (qr, .inl (cB, 9400, .inl (fun _ => 0)))] := hD
  refine va_putF (D := D) (ci := 4) (v := .ref q5) (ty := (.object "StreamSplitter$Row")) (C := R_Receiver) (T := F_Receiver) (N := 5) hx hb hts i_Receiver t_Receiver t_Receiver_ok n_Receiver hown hK hP hD hS 0 rfl rfl 0 (by decide) (hts _ wd_175) (fun _ h9 => h9) rfl hin rfl (by decide +kernel) rfl rfl (Nat.le_of_ble_eq_true rfl) d_Receiver_init_15 (fun H locs hP hD hS => ?_)
  have hP : va_P D classes [(h, .inr (4, [.ref q5, .null, .null, .null, .null])), (q5, .inr (0, [.ref qr, .int 0])), (qr, .inl (cB, 9400, .inl (fun _ => 0)))] H := hP
  have hD : va_D A [(h, .inr (4, [.ref q5, .null, .null, .null, .null])), (q5, .inr (0, [.ref qr, .int 0])), (qr, .inl (cB, 9400, .inl (fun _ => 0)))] := hD
  refine lv_aload_n hx hb d_Receiver_init_18 rfl (lv_at hl 0 rfl) ?_
  refine va_new (ci := 2) (fs := [.null]) (C := R_Lanes) (T := F_Lanes) (N := 1) hx hb hts i_Lanes t_Lanes t_Lanes_ok hown (hts _ wd_119) (hts _ wd_120) (hts _ wd_62) hK hP hD hS hA rfl (fs_Lanes) (by show 0 + 1 + 1 + 1 ≤ 8; omega) (by show 0 + 2 + 9400 + 1 ≤ 9694; omega) d_Receiver_init_19 (fun q19 H hP hD hS => ?_)
  have hP : va_P D classes [(h, .inr (4, [.ref q5, .null, .null, .null, .null])), (q5, .inr (0, [.ref qr, .int 0])), (qr, .inl (cB, 9400, .inl (fun _ => 0))), (q19, .inr (2, [.null]))] H := hP
  have hD : va_D A [(h, .inr (4, [.ref q5, .null, .null, .null, .null])), (q5, .inr (0, [.ref qr, .int 0])), (qr, .inl (cB, 9400, .inl (fun _ => 0))), (q19, .inr (2, [.null]))] := hD
  refine lv_dup hx hb d_Receiver_init_22 rfl ?_
  have hPc := hP.sub (ws' := [(q19, .inr (2, [.null]))]) [3] rfl
  have hKc := hK.sub (tys' := [(cN, .object "StreamSplitter$Lane")]) [2] rfl
  have hDc := hD.sub (ws' := [(q19, .inr (2, [.null]))]) [3] (by decide) rfl
  have hFc := va_free (wc := [(q19, .inr (2, [.null]))]) hD hS hA [3] rfl
  refine va_callv (va_runIN (As := []) (rest := [.ref q19, .ref h]) ⟨hx, hb, hml, hown, hts⟩ (c_Lanes_init l D B0 hG H.size cN q19 ) (z_cIn hN wd_123 wd_62 wd_121 hd_Lanes_init rfl rfl ⟨Nat.le_of_ble_eq_true rfl, Nat.le_of_ble_eq_true rfl⟩ wd_122 rfl) (z_preSo hPc hKc hN hDc hO hS hAO) rfl rfl hl.1 rfl (lv_room (Nat.le_of_ble_eq_true rfl)) d_Receiver_init_23 ⟨Nat.le_of_ble_eq_true rfl, Nat.le_of_ble_eq_true rfl⟩) hS (fun q _ h => hFc q h) hFc (fun qh t H locs ht hvm e23 hB hz1 hk1 hS => ?_)
  obtain ⟨hP1, hK1, hD1⟩ := hB
  rw [ht] at hP1
  obtain ⟨hP, hD⟩ := va_join (wr := [(h, .inr (4, [.ref q5, .null, .null, .null, .null])), (q5, .inr (0, [.ref qr, .int 0])), (qr, .inl (cB, 9400, .inl (fun _ => 0)))]) (w1 := [(q19, .inr (2, [.ref qh])), (qh, .inl (cN, 256, .inr (.inr (.inr (.inr (fun _ => none))))))]) hP hD [3] [0, 1, 2] rfl rfl (by decide) (by decide) hk1 hFc hP1 hD1
  clear hk1 hP1 hD1 hFc hPc hDc hz1
  have hP : va_P D classes [(h, .inr (4, [.ref q5, .null, .null, .null, .null])), (q5, .inr (0, [.ref qr, .int 0])), (qr, .inl (cB, 9400, .inl (fun _ => 0))), (q19, .inr (2, [.ref qh])), (qh, .inl (cN, 256, .inr (.inr (.inr (.inr (fun _ => none))))))] H := hP
  have hD : va_D A [(h, .inr (4, [.ref q5, .null, .null, .null, .null])), (q5, .inr (0, [.ref qr, .int 0])), (qr, .inl (cB, 9400, .inl (fun _ => 0))), (q19, .inr (2, [.ref qh])), (qh, .inl (cN, 256, .inr (.inr (.inr (.inr (fun _ => none))))))] := hD
  refine va_putF (D := D) (ci := 4) (v := .ref q19) (ty := (.object "StreamSplitter$Lanes")) (C := R_Receiver) (T := F_Receiver) (N := 5) hx hb hts i_Receiver t_Receiver t_Receiver_ok n_Receiver hown hK hP hD hS 0 rfl rfl 1 (by decide) (hts _ wd_177) (fun _ h9 => h9) rfl hin rfl (by decide +kernel) rfl rfl (Nat.le_of_ble_eq_true rfl) d_Receiver_init_26 (fun H locs hP hD hS => ?_)
  have hP : va_P D classes [(h, .inr (4, [.ref q5, .ref q19, .null, .null, .null])), (q5, .inr (0, [.ref qr, .int 0])), (qr, .inl (cB, 9400, .inl (fun _ => 0))), (q19, .inr (2, [.ref qh])), (qh, .inl (cN, 256, .inr (.inr (.inr (.inr (fun _ => none))))))] H := hP
  have hD : va_D A [(h, .inr (4, [.ref q5, .ref q19, .null, .null, .null])), (q5, .inr (0, [.ref qr, .int 0])), (qr, .inl (cB, 9400, .inl (fun _ => 0))), (q19, .inr (2, [.ref qh])), (qh, .inl (cN, 256, .inr (.inr (.inr (.inr (fun _ => none))))))] := hD
  refine lv_aload_n hx hb d_Receiver_init_29 rfl (lv_at hl 0 rfl) ?_
  refine va_new (ci := 8) (fs := [.int 0, .null]) (C := R_Tables) (T := F_Tables) (N := 2) hx hb hts i_Tables t_Tables t_Tables_ok hown (hts _ wd_132) (hts _ wd_133) (hts _ wd_63) hK hP hD hS hA rfl (fs_Tables) (by show 0 + 1 + 1 + 1 + 1 + 1 ≤ 8; omega) (by show 0 + 2 + 9400 + 1 + 256 + 2 ≤ 9694; omega) d_Receiver_init_30 (fun q30 H hP hD hS => ?_)
  have hP : va_P D classes [(h, .inr (4, [.ref q5, .ref q19, .null, .null, .null])), (q5, .inr (0, [.ref qr, .int 0])), (qr, .inl (cB, 9400, .inl (fun _ => 0))), (q19, .inr (2, [.ref qh])), (qh, .inl (cN, 256, .inr (.inr (.inr (.inr (fun _ => none)))))), (q30, .inr (8, [.int 0, .null]))] H := hP
  have hD : va_D A [(h, .inr (4, [.ref q5, .ref q19, .null, .null, .null])), (q5, .inr (0, [.ref qr, .int 0])), (qr, .inl (cB, 9400, .inl (fun _ => 0))), (q19, .inr (2, [.ref qh])), (qh, .inl (cN, 256, .inr (.inr (.inr (.inr (fun _ => none)))))), (q30, .inr (8, [.int 0, .null]))] := hD
  refine lv_dup hx hb d_Receiver_init_33 rfl ?_
  have hPc := hP.sub (ws' := [(q30, .inr (8, [.int 0, .null]))]) [5] rfl
  have hKc := hK.sub (tys' := []) [] rfl
  have hDc := hD.sub (ws' := [(q30, .inr (8, [.int 0, .null]))]) [5] (by decide) rfl
  have hFc := va_free (wc := [(q30, .inr (8, [.int 0, .null]))]) hD hS hA [5] rfl
  refine va_callv (va_runIN (As := []) (rest := [.ref q30, .ref h]) ⟨hx, hb, hml, hown, hts⟩ (c_Tables_init l D B0 hG H.size q30 e0 he0) (z_cIn hN wd_136 wd_63 wd_134 hd_Tables_init rfl rfl ⟨Nat.le_of_ble_eq_true rfl, Nat.le_of_ble_eq_true rfl⟩ wd_135 rfl) (z_preSo hPc hKc hN hDc hO hS hAO) rfl rfl hl.1 rfl (lv_room (Nat.le_of_ble_eq_true rfl)) d_Receiver_init_34 ⟨Nat.le_of_ble_eq_true rfl, Nat.le_of_ble_eq_true rfl⟩) hS (fun q _ h => hFc q h) hFc (fun qt t H locs ht hvm e34 hB hz1 hk1 hS => ?_)
  obtain ⟨hP1, hK1, hD1⟩ := hB
  rw [ht] at hP1
  obtain ⟨hP, hD⟩ := va_join (wr := [(h, .inr (4, [.ref q5, .ref q19, .null, .null, .null])), (q5, .inr (0, [.ref qr, .int 0])), (qr, .inl (cB, 9400, .inl (fun _ => 0))), (q19, .inr (2, [.ref qh])), (qh, .inl (cN, 256, .inr (.inr (.inr (.inr (fun _ => none))))))]) (w1 := [(q30, .inr (8, [.int (-1), .ref qt])), (qt, .inr (12, [.ref e0, .int 0, .int 0]))]) hP hD [5] [0, 1, 2, 3, 4] rfl rfl (by decide) (by decide) hk1 hFc hP1 hD1
  clear hk1 hP1 hD1 hFc hPc hDc hz1
  have hP : va_P D classes [(h, .inr (4, [.ref q5, .ref q19, .null, .null, .null])), (q5, .inr (0, [.ref qr, .int 0])), (qr, .inl (cB, 9400, .inl (fun _ => 0))), (q19, .inr (2, [.ref qh])), (qh, .inl (cN, 256, .inr (.inr (.inr (.inr (fun _ => none)))))), (q30, .inr (8, [.int (-1), .ref qt])), (qt, .inr (12, [.ref e0, .int 0, .int 0]))] H := hP
  have hD : va_D A [(h, .inr (4, [.ref q5, .ref q19, .null, .null, .null])), (q5, .inr (0, [.ref qr, .int 0])), (qr, .inl (cB, 9400, .inl (fun _ => 0))), (q19, .inr (2, [.ref qh])), (qh, .inl (cN, 256, .inr (.inr (.inr (.inr (fun _ => none)))))), (q30, .inr (8, [.int (-1), .ref qt])), (qt, .inr (12, [.ref e0, .int 0, .int 0]))] := hD
  refine va_putF (D := D) (ci := 4) (v := .ref q30) (ty := (.object "StreamSplitter$Tables")) (C := R_Receiver) (T := F_Receiver) (N := 5) hx hb hts i_Receiver t_Receiver t_Receiver_ok n_Receiver hown hK hP hD hS 0 rfl rfl 2 (by decide) (hts _ wd_179) (fun _ h9 => h9) rfl hin rfl (by decide +kernel) rfl rfl (Nat.le_of_ble_eq_true rfl) d_Receiver_init_37 (fun H locs hP hD hS => ?_)
  have hP : va_P D classes [(h, .inr (4, [.ref q5, .ref q19, .ref q30, .null, .null])), (q5, .inr (0, [.ref qr, .int 0])), (qr, .inl (cB, 9400, .inl (fun _ => 0))), (q19, .inr (2, [.ref qh])), (qh, .inl (cN, 256, .inr (.inr (.inr (.inr (fun _ => none)))))), (q30, .inr (8, [.int (-1), .ref qt])), (qt, .inr (12, [.ref e0, .int 0, .int 0]))] H := hP
  have hD : va_D A [(h, .inr (4, [.ref q5, .ref q19, .ref q30, .null, .null])), (q5, .inr (0, [.ref qr, .int 0])), (qr, .inl (cB, 9400, .inl (fun _ => 0))), (q19, .inr (2, [.ref qh])), (qh, .inl (cN, 256, .inr (.inr (.inr (.inr (fun _ => none)))))), (q30, .inr (8, [.int (-1), .ref qt])), (qt, .inr (12, [.ref e0, .int 0, .int 0]))] := hD
  refine lv_aload_n hx hb d_Receiver_init_40 rfl (lv_at hl 0 rfl) ?_
  refine lv_bipush (v := 10) hx hb d_Receiver_init_41 (by decide) ?_
  refine z_newa (D := D) (atype := .int) (ty := .int) (N' := 10) (a0 := (10, .inl (fun _ => 0))) hx hb (hts _ wd_195) rfl hK hP hD hS hA 1 rfl (fun _ h => h) (fun _ => rfl) (by decide) (by decide) (Nat.le_of_ble_eq_true rfl) (by show 0 + 1 + 1 + 1 + 1 + 1 + 1 + 1 ≤ 8; omega) (by show 0 + 2 + 9400 + 1 + 256 + 2 + 3 + 10 ≤ 9694; omega) d_Receiver_init_43 (fun q43 H hP hD hS => ?_)
  have hP : va_P D classes [(h, .inr (4, [.ref q5, .ref q19, .ref q30, .null, .null])), (q5, .inr (0, [.ref qr, .int 0])), (qr, .inl (cB, 9400, .inl (fun _ => 0))), (q19, .inr (2, [.ref qh])), (qh, .inl (cN, 256, .inr (.inr (.inr (.inr (fun _ => none)))))), (q30, .inr (8, [.int (-1), .ref qt])), (qt, .inr (12, [.ref e0, .int 0, .int 0])), (q43, .inl (cI, 10, .inl (fun _ => 0)))] H := hP
  have hD : va_D A [(h, .inr (4, [.ref q5, .ref q19, .ref q30, .null, .null])), (q5, .inr (0, [.ref qr, .int 0])), (qr, .inl (cB, 9400, .inl (fun _ => 0))), (q19, .inr (2, [.ref qh])), (qh, .inl (cN, 256, .inr (.inr (.inr (.inr (fun _ => none)))))), (q30, .inr (8, [.int (-1), .ref qt])), (qt, .inr (12, [.ref e0, .int 0, .int 0])), (q43, .inl (cI, 10, .inl (fun _ => 0)))] := hD
  refine va_putF (D := D) (ci := 4) (v := .ref q43) (ty := (.array .int)) (C := R_Receiver) (T := F_Receiver) (N := 5) hx hb hts i_Receiver t_Receiver t_Receiver_ok n_Receiver hown hK hP hD hS 0 rfl rfl 3 (by decide) (hts _ wd_181) (fun _ h9 => h9) rfl hin rfl (by decide +kernel) rfl rfl (Nat.le_of_ble_eq_true rfl) d_Receiver_init_45 (fun H locs hP hD hS => ?_)
  have hP : va_P D classes [(h, .inr (4, [.ref q5, .ref q19, .ref q30, .ref q43, .null])), (q5, .inr (0, [.ref qr, .int 0])), (qr, .inl (cB, 9400, .inl (fun _ => 0))), (q19, .inr (2, [.ref qh])), (qh, .inl (cN, 256, .inr (.inr (.inr (.inr (fun _ => none)))))), (q30, .inr (8, [.int (-1), .ref qt])), (qt, .inr (12, [.ref e0, .int 0, .int 0])), (q43, .inl (cI, 10, .inl (fun _ => 0)))] H := hP
  have hD : va_D A [(h, .inr (4, [.ref q5, .ref q19, .ref q30, .ref q43, .null])), (q5, .inr (0, [.ref qr, .int 0])), (qr, .inl (cB, 9400, .inl (fun _ => 0))), (q19, .inr (2, [.ref qh])), (qh, .inl (cN, 256, .inr (.inr (.inr (.inr (fun _ => none)))))), (q30, .inr (8, [.int (-1), .ref qt])), (qt, .inr (12, [.ref e0, .int 0, .int 0])), (q43, .inl (cI, 10, .inl (fun _ => 0)))] := hD
  refine lv_aload_n hx hb d_Receiver_init_48 rfl (lv_at hl 0 rfl) ?_
  refine lv_bipush (v := 16) hx hb d_Receiver_init_49 (by decide) ?_
  refine z_newq hx hb hown (hts _ wd_173) (z_over hG hO (by decide +kernel)) hK hP hD hS hA 3 rfl (N' := 16) (by decide) (by decide) (by omega) (by show 0 + 1 + 1 + 1 + 1 + 1 + 1 + 1 + 1 ≤ 8; omega) (by show 0 + 2 + 9400 + 1 + 256 + 2 + 3 + 10 + 16 ≤ 9694; omega) d_Receiver_init_51 (fun q51 H hP hD hS => ?_)
  have hP : va_P D classes [(h, .inr (4, [.ref q5, .ref q19, .ref q30, .ref q43, .null])), (q5, .inr (0, [.ref qr, .int 0])), (qr, .inl (cB, 9400, .inl (fun _ => 0))), (q19, .inr (2, [.ref qh])), (qh, .inl (cN, 256, .inr (.inr (.inr (.inr (fun _ => none)))))), (q30, .inr (8, [.int (-1), .ref qt])), (qt, .inr (12, [.ref e0, .int 0, .int 0])), (q43, .inl (cI, 10, .inl (fun _ => 0))), (q51, .inl (cQ, 16, .inr (.inr (.inr (.inr (fun _ => none))))))] H := hP
  have hD : va_D A [(h, .inr (4, [.ref q5, .ref q19, .ref q30, .ref q43, .null])), (q5, .inr (0, [.ref qr, .int 0])), (qr, .inl (cB, 9400, .inl (fun _ => 0))), (q19, .inr (2, [.ref qh])), (qh, .inl (cN, 256, .inr (.inr (.inr (.inr (fun _ => none)))))), (q30, .inr (8, [.int (-1), .ref qt])), (qt, .inr (12, [.ref e0, .int 0, .int 0])), (q43, .inl (cI, 10, .inl (fun _ => 0))), (q51, .inl (cQ, 16, .inr (.inr (.inr (.inr (fun _ => none))))))] := hD
  refine va_putF (D := D) (ci := 4) (v := .ref q51) (ty := (.array (.object "StreamSplitter$Piece"))) (C := R_Receiver) (T := F_Receiver) (N := 5) hx hb hts i_Receiver t_Receiver t_Receiver_ok n_Receiver hown hK hP hD hS 0 rfl rfl 4 (by decide) (hts _ wd_183) (fun _ h9 => h9) rfl hin rfl (by decide +kernel) rfl rfl (Nat.le_of_ble_eq_true rfl) d_Receiver_init_54 (fun H locs hP hD hS => ?_)
  have hP : va_P D classes [(h, .inr (4, [.ref q5, .ref q19, .ref q30, .ref q43, .ref q51])), (q5, .inr (0, [.ref qr, .int 0])), (qr, .inl (cB, 9400, .inl (fun _ => 0))), (q19, .inr (2, [.ref qh])), (qh, .inl (cN, 256, .inr (.inr (.inr (.inr (fun _ => none)))))), (q30, .inr (8, [.int (-1), .ref qt])), (qt, .inr (12, [.ref e0, .int 0, .int 0])), (q43, .inl (cI, 10, .inl (fun _ => 0))), (q51, .inl (cQ, 16, .inr (.inr (.inr (.inr (fun _ => none))))))] H := hP
  have hD : va_D A [(h, .inr (4, [.ref q5, .ref q19, .ref q30, .ref q43, .ref q51])), (q5, .inr (0, [.ref qr, .int 0])), (qr, .inl (cB, 9400, .inl (fun _ => 0))), (q19, .inr (2, [.ref qh])), (qh, .inl (cN, 256, .inr (.inr (.inr (.inr (fun _ => none)))))), (q30, .inr (8, [.int (-1), .ref qt])), (qt, .inr (12, [.ref e0, .int 0, .int 0])), (q43, .inl (cI, 10, .inl (fun _ => 0))), (q51, .inl (cQ, 16, .inr (.inr (.inr (.inr (fun _ => none))))))] := hD
  have hP9 := hP.sub (ws' := [(h, .inr (4, [.ref q5, .ref q19, .ref q30, .ref q43, .ref q51])), (q5, .inr (0, [.ref qr, .int 0])), (qr, .inl (cB, 9400, .inl (fun _ => 0))), (q19, .inr (2, [.ref qh])), (qh, .inl (cN, 256, .inr (.inr (.inr (.inr (fun _ => none)))))), (q30, .inr (8, [.int (-1), .ref qt])), (qt, .inr (12, [.ref e0, .int 0, .int 0])), (q43, .inl (cI, 10, .inl (fun _ => 0))), (q51, .inl (cQ, 16, .inr (.inr (.inr (.inr (fun _ => none))))))]) [0, 1, 2, 3, 4, 5, 6, 7, 8] rfl
  have hD9 := hD.sub (ws' := [(h, .inr (4, [.ref q5, .ref q19, .ref q30, .ref q43, .ref q51])), (q5, .inr (0, [.ref qr, .int 0])), (qr, .inl (cB, 9400, .inl (fun _ => 0))), (q19, .inr (2, [.ref qh])), (qh, .inl (cN, 256, .inr (.inr (.inr (.inr (fun _ => none)))))), (q30, .inr (8, [.int (-1), .ref qt])), (qt, .inr (12, [.ref e0, .int 0, .int 0])), (q43, .inl (cI, 10, .inl (fun _ => 0))), (q51, .inl (cQ, 16, .inr (.inr (.inr (.inr (fun _ => none))))))]) [0, 1, 2, 3, 4, 5, 6, 7, 8] (by decide) rfl
  have hK9 := hK.sub (tys' := [(cB, .byte), (cI, .int), (cN, .object "StreamSplitter$Lane"), (cQ, .object "StreamSplitter$Piece")]) [0, 1, 2, 3] rfl
  refine W.widen (k := 8) (n := 9694) (by omega) (by omega) ?_
  exact W.vret hx hb hr (fun t ht hW => ⟨⟨(fun k => [q5, qr, q19, qh, q30, qt, q43, q51].getD k 0), rfl, trivial, ⟨by rw [ht]; exact hP9, va_K.moved hW.alike hK9, hD9⟩⟩, hS.F ht⟩) hS.2.2 d_Receiver_init_57
set_option maxHeartbeats 4000000 in
set_option maxRecDepth 100000 in
theorem c_SS_init (l : Launch) (D : va_G) (B0 : State) (hG : zG B0) (sz : Nat) (cB cI cN cQ : ClassId) (h e0 : Nat) (he0 : zE0 B0 e0) : Met l y_SS_init [Cond.code y_SS_init b_SS_init 1 none] ({ frames := 6, cells := 10, slots := 9702, locals := 112 }) (zMo [.ref h] D [(h, .inr (11, [.null, .null]))] [(cB, .byte), (cI, .int), (cN, .object "StreamSplitter$Lane"), (cQ, .object "StreamSplitter$Piece")] sz B0) (va_Qv (fun (u : Nat → Nat) => True) (fun (u : Nat → Nat) t => zW D (va_A [(h, .inr (11, [.null, .null]))] sz) [(h, .inr (11, [.ref (u 8), .ref (u 9)])), (u 8, .inr (4, [.ref (u 0), .ref (u 2), .ref (u 4), .ref (u 6), .ref (u 7)])), (u 0, .inr (0, [.ref (u 1), .int (nI 0)])), (u 1, .inl (cB, 9400, .inl (fun _ => 0))), (u 2, .inr (2, [.ref (u 3)])), (u 3, .inl (cN, 256, .inr (.inr (.inr (.inr (fun _ => none)))))), (u 4, .inr (8, [.int (-1), .ref (u 5)])), (u 5, .inr (12, [.ref e0, .int 0, .int 0])), (u 6, .inl (cI, 10, .inl (fun _ => 0))), (u 7, .inl (cQ, 16, .inr (.inr (.inr (.inr (fun _ => none)))))), (u 9, .inr (12, [.ref e0, .int 0, .int 0]))] [(cB, .byte), (cI, .int), (cN, .object "StreamSplitter$Lane"), (cQ, .object "StreamSplitter$Piece")] t) (va_A [(h, .inr (11, [.null, .null]))] sz)) 10 9702 (va_A [(h, .inr (11, [.null, .null]))] sz) := by
  refine Met.ofW (cc := b_SS_init) (maxL := 1) (ret := none) (by decide) rfl ?_
  intro p e s m args below meth cd s₁ Bd hml hv
  obtain ⟨rfl, hsz, hP, hK, hN, hD0, hO⟩ := hv
  have hx := Bd.exec
  have hb := Bd.bytes
  have hr := Bd.returns
  have hts := hN.use (a := ([.ref h]).toArray)
  have hown : s.vm.findClass R_SS = some m.cls := findClass_of_methodNamed Bd.named
  have hlocks := Bd.notSynchronized
  have hin : meth.name = "<init>" := (name_of_methodNamed Bd.named Bd.method).1
  subst hsz
  have hD := hD0.self (sz := s.heap.size)
  have hAO := z_AO hD0 hO
  clear hD0
  have hA : ∀ q : Nat, s.heap.size ≤ q → va_A [(h, .inr (11, [.null, .null]))] s.heap.size q := fun q h => Or.inr h
  have hS : va_S (va_A [(h, .inr (11, [.null, .null]))] s.heap.size) s.heap s.heap [] := va_S.rf
  generalize hAe : va_A [(h, .inr (11, [.null, .null]))] s.heap.size = A at hD hA hS hAO ⊢
  have hP : va_P D classes [(h, .inr (11, [.null, .null]))] s.heap := hP
  have hl := lv_entry ([.ref h]) (n := 1) (Nat.le_of_ble_eq_true rfl)
  rw [lg_entry_eq]
  generalize (lg_sl ([.ref h]) ++ List.replicate (1 - (lg_sl ([.ref h])).length) Slot.unset).toArray = ls at hl ⊢
  have hl : lv_has ls 1 [(0, .ref h)] := hl
  refine lv_aload_n hx hb d_SS_init_0 rfl (lv_at hl 0 rfl) ?_
  refine W.objInit hx hb hown (hts _ wd_91) (hts _ wd_92) (hts _ wd_93) rfl (by rw [hml]; exact hl.1) rfl d_SS_init_1 (Nat.le_of_ble_eq_true rfl) (Nat.le_of_ble_eq_true rfl) ?_
  refine W.eq (g2 := F0 m 4 ls []) rfl ?_
  refine lv_aload_n hx hb d_SS_init_4 rfl (lv_at hl 0 rfl) ?_
  refine va_new (ci := 4) (fs := [.null, .null, .null, .null, .null]) (C := R_Receiver) (T := F_Receiver) (N := 5) hx hb hts i_Receiver t_Receiver t_Receiver_ok hown (hts _ wd_94) (hts _ wd_95) (hts _ wd_60) hK hP hD hS hA rfl (fs_Receiver) (by show 0 + 1 ≤ 10; omega) (by show 0 + 5 ≤ 9702; omega) d_SS_init_5 (fun q5 H hP hD hS => ?_)
  have hP : va_P D classes [(h, .inr (11, [.null, .null])), (q5, .inr (4, [.null, .null, .null, .null, .null]))] H := hP
  have hD : va_D A [(h, .inr (11, [.null, .null])), (q5, .inr (4, [.null, .null, .null, .null, .null]))] := hD
  refine lv_dup hx hb d_SS_init_8 rfl ?_
  have hPc := hP.sub (ws' := [(q5, .inr (4, [.null, .null, .null, .null, .null]))]) [1] rfl
  have hKc := hK.sub (tys' := [(cB, .byte), (cI, .int), (cN, .object "StreamSplitter$Lane"), (cQ, .object "StreamSplitter$Piece")]) [0, 1, 2, 3] rfl
  have hDc := hD.sub (ws' := [(q5, .inr (4, [.null, .null, .null, .null, .null]))]) [1] (by decide) rfl
  have hFc := va_free (wc := [(q5, .inr (4, [.null, .null, .null, .null, .null]))]) hD hS hA [1] rfl
  refine va_callv (va_runIN (As := []) (rest := [.ref q5, .ref h]) ⟨hx, hb, hml, hown, hts⟩ (c_Receiver_init l D B0 hG H.size cB cI cN cQ q5 e0 he0) (z_cIn hN wd_98 wd_60 wd_96 hd_Receiver_init rfl rfl ⟨Nat.le_of_ble_eq_true rfl, Nat.le_of_ble_eq_true rfl⟩ wd_97 rfl) (z_preSo hPc hKc hN hDc hO hS hAO) rfl rfl hl.1 rfl (lv_room (Nat.le_of_ble_eq_true rfl)) d_SS_init_9 ⟨Nat.le_of_ble_eq_true rfl, Nat.le_of_ble_eq_true rfl⟩) hS (fun q _ h => hFc q h) hFc (fun v9 t H locs ht hvm e9 hB hz1 hk1 hS => ?_)
  obtain ⟨hP1, hK1, hD1⟩ := hB
  rw [ht] at hP1
  obtain ⟨hP, hD⟩ := va_join (wr := [(h, .inr (11, [.null, .null]))]) (w1 := [(q5, .inr (4, [.ref (v9 0), .ref (v9 2), .ref (v9 4), .ref (v9 6), .ref (v9 7)])), (v9 0, .inr (0, [.ref (v9 1), .int (nI 0)])), (v9 1, .inl (cB, 9400, .inl (fun _ => 0))), (v9 2, .inr (2, [.ref (v9 3)])), (v9 3, .inl (cN, 256, .inr (.inr (.inr (.inr (fun _ => none)))))), (v9 4, .inr (8, [.int (-1), .ref (v9 5)])), (v9 5, .inr (12, [.ref e0, .int 0, .int 0])), (v9 6, .inl (cI, 10, .inl (fun _ => 0))), (v9 7, .inl (cQ, 16, .inr (.inr (.inr (.inr (fun _ => none))))))]) hP hD [1] [0] rfl rfl (by decide) (by decide) hk1 hFc hP1 hD1
  clear hk1 hP1 hD1 hFc hPc hDc hz1
  have hP : va_P D classes [(h, .inr (11, [.null, .null])), (q5, .inr (4, [.ref (v9 0), .ref (v9 2), .ref (v9 4), .ref (v9 6), .ref (v9 7)])), (v9 0, .inr (0, [.ref (v9 1), .int (nI 0)])), (v9 1, .inl (cB, 9400, .inl (fun _ => 0))), (v9 2, .inr (2, [.ref (v9 3)])), (v9 3, .inl (cN, 256, .inr (.inr (.inr (.inr (fun _ => none)))))), (v9 4, .inr (8, [.int (-1), .ref (v9 5)])), (v9 5, .inr (12, [.ref e0, .int 0, .int 0])), (v9 6, .inl (cI, 10, .inl (fun _ => 0))), (v9 7, .inl (cQ, 16, .inr (.inr (.inr (.inr (fun _ => none))))))] H := hP
  have hD : va_D A [(h, .inr (11, [.null, .null])), (q5, .inr (4, [.ref (v9 0), .ref (v9 2), .ref (v9 4), .ref (v9 6), .ref (v9 7)])), (v9 0, .inr (0, [.ref (v9 1), .int (nI 0)])), (v9 1, .inl (cB, 9400, .inl (fun _ => 0))), (v9 2, .inr (2, [.ref (v9 3)])), (v9 3, .inl (cN, 256, .inr (.inr (.inr (.inr (fun _ => none)))))), (v9 4, .inr (8, [.int (-1), .ref (v9 5)])), (v9 5, .inr (12, [.ref e0, .int 0, .int 0])), (v9 6, .inl (cI, 10, .inl (fun _ => 0))), (v9 7, .inl (cQ, 16, .inr (.inr (.inr (.inr (fun _ => none))))))] := hD
  refine va_putF (D := D) (ci := 11) (v := .ref q5) (ty := (.object "StreamSplitter$Receiver")) (C := R_SS) (T := F_SS) (N := 2) hx hb hts i_SS t_SS t_SS_ok n_SS hown hK hP hD hS 0 rfl rfl 0 (by decide) (hts _ wd_198) (fun _ h9 => h9) rfl hin rfl (by decide +kernel) rfl rfl (Nat.le_of_ble_eq_true rfl) d_SS_init_12 (fun H locs hP hD hS => ?_)
  have hP : va_P D classes [(h, .inr (11, [.ref q5, .null])), (q5, .inr (4, [.ref (v9 0), .ref (v9 2), .ref (v9 4), .ref (v9 6), .ref (v9 7)])), (v9 0, .inr (0, [.ref (v9 1), .int (nI 0)])), (v9 1, .inl (cB, 9400, .inl (fun _ => 0))), (v9 2, .inr (2, [.ref (v9 3)])), (v9 3, .inl (cN, 256, .inr (.inr (.inr (.inr (fun _ => none)))))), (v9 4, .inr (8, [.int (-1), .ref (v9 5)])), (v9 5, .inr (12, [.ref e0, .int 0, .int 0])), (v9 6, .inl (cI, 10, .inl (fun _ => 0))), (v9 7, .inl (cQ, 16, .inr (.inr (.inr (.inr (fun _ => none))))))] H := hP
  have hD : va_D A [(h, .inr (11, [.ref q5, .null])), (q5, .inr (4, [.ref (v9 0), .ref (v9 2), .ref (v9 4), .ref (v9 6), .ref (v9 7)])), (v9 0, .inr (0, [.ref (v9 1), .int (nI 0)])), (v9 1, .inl (cB, 9400, .inl (fun _ => 0))), (v9 2, .inr (2, [.ref (v9 3)])), (v9 3, .inl (cN, 256, .inr (.inr (.inr (.inr (fun _ => none)))))), (v9 4, .inr (8, [.int (-1), .ref (v9 5)])), (v9 5, .inr (12, [.ref e0, .int 0, .int 0])), (v9 6, .inl (cI, 10, .inl (fun _ => 0))), (v9 7, .inl (cQ, 16, .inr (.inr (.inr (.inr (fun _ => none))))))] := hD
  refine lv_aload_n hx hb d_SS_init_15 rfl (lv_at hl 0 rfl) ?_
  refine va_new (ci := 12) (fs := [.null, .int 0, .int 0]) (C := R_AL) (T := F_AL) (N := 3) hx hb hts i_AL t_AL t_AL_ok hown (hts _ wd_196) (hts _ wd_139) (hts _ wd_66) hK hP hD hS hA rfl (fs_AL) (by show 0 + 1 + 8 + 1 ≤ 10; omega) (by show 0 + 5 + 9694 + 3 ≤ 9702; omega) d_SS_init_16 (fun q16 H hP hD hS => ?_)
  have hP : va_P D classes [(h, .inr (11, [.ref q5, .null])), (q5, .inr (4, [.ref (v9 0), .ref (v9 2), .ref (v9 4), .ref (v9 6), .ref (v9 7)])), (v9 0, .inr (0, [.ref (v9 1), .int (nI 0)])), (v9 1, .inl (cB, 9400, .inl (fun _ => 0))), (v9 2, .inr (2, [.ref (v9 3)])), (v9 3, .inl (cN, 256, .inr (.inr (.inr (.inr (fun _ => none)))))), (v9 4, .inr (8, [.int (-1), .ref (v9 5)])), (v9 5, .inr (12, [.ref e0, .int 0, .int 0])), (v9 6, .inl (cI, 10, .inl (fun _ => 0))), (v9 7, .inl (cQ, 16, .inr (.inr (.inr (.inr (fun _ => none)))))), (q16, .inr (12, [.null, .int 0, .int 0]))] H := hP
  have hD : va_D A [(h, .inr (11, [.ref q5, .null])), (q5, .inr (4, [.ref (v9 0), .ref (v9 2), .ref (v9 4), .ref (v9 6), .ref (v9 7)])), (v9 0, .inr (0, [.ref (v9 1), .int (nI 0)])), (v9 1, .inl (cB, 9400, .inl (fun _ => 0))), (v9 2, .inr (2, [.ref (v9 3)])), (v9 3, .inl (cN, 256, .inr (.inr (.inr (.inr (fun _ => none)))))), (v9 4, .inr (8, [.int (-1), .ref (v9 5)])), (v9 5, .inr (12, [.ref e0, .int 0, .int 0])), (v9 6, .inl (cI, 10, .inl (fun _ => 0))), (v9 7, .inl (cQ, 16, .inr (.inr (.inr (.inr (fun _ => none)))))), (q16, .inr (12, [.null, .int 0, .int 0]))] := hD
  refine lv_dup hx hb d_SS_init_19 rfl ?_
  have hPc := hP.sub (ws' := [(q16, .inr (12, [.null, .int 0, .int 0]))]) [10] rfl
  have hKc := hK.sub (tys' := []) [] rfl
  have hDc := hD.sub (ws' := [(q16, .inr (12, [.null, .int 0, .int 0]))]) [10] (by decide) rfl
  have hFc := va_free (wc := [(q16, .inr (12, [.null, .int 0, .int 0]))]) hD hS hA [10] rfl
  refine va_callv (va_runI (As := []) (rest := [.ref q16, .ref h]) ⟨hx, hb, hml, hown, hts⟩ (c_AL_init l D B0 hG H.size q16 e0 he0) (z_cI hN wd_142 wd_66 wd_197 hd_AL_init rfl rfl ⟨Nat.le_of_ble_eq_true rfl, Nat.le_of_ble_eq_true rfl⟩ wd_141 rfl) (z_preSo hPc hKc hN hDc hO hS hAO) rfl rfl hl.1 rfl (lv_room (Nat.le_of_ble_eq_true rfl)) d_SS_init_20 ⟨Nat.le_of_ble_eq_true rfl, Nat.le_of_ble_eq_true rfl⟩) hS (fun q _ h => hFc q h) hFc (fun u20 t H locs ht hvm e20 hB hz1 hk1 hS => ?_)
  obtain ⟨hP1, hK1, hD1⟩ := hB
  rw [ht] at hP1
  obtain ⟨hP, hD⟩ := va_join (wr := [(h, .inr (11, [.ref q5, .null])), (q5, .inr (4, [.ref (v9 0), .ref (v9 2), .ref (v9 4), .ref (v9 6), .ref (v9 7)])), (v9 0, .inr (0, [.ref (v9 1), .int (nI 0)])), (v9 1, .inl (cB, 9400, .inl (fun _ => 0))), (v9 2, .inr (2, [.ref (v9 3)])), (v9 3, .inl (cN, 256, .inr (.inr (.inr (.inr (fun _ => none)))))), (v9 4, .inr (8, [.int (-1), .ref (v9 5)])), (v9 5, .inr (12, [.ref e0, .int 0, .int 0])), (v9 6, .inl (cI, 10, .inl (fun _ => 0))), (v9 7, .inl (cQ, 16, .inr (.inr (.inr (.inr (fun _ => none))))))]) (w1 := [(q16, .inr (12, [.ref e0, .int 0, .int 0]))]) hP hD [10] [0, 1, 2, 3, 4, 5, 6, 7, 8, 9] rfl rfl (by decide) (by decide) hk1 hFc hP1 hD1
  clear hk1 hP1 hD1 hFc hPc hDc hz1
  have hP : va_P D classes [(h, .inr (11, [.ref q5, .null])), (q5, .inr (4, [.ref (v9 0), .ref (v9 2), .ref (v9 4), .ref (v9 6), .ref (v9 7)])), (v9 0, .inr (0, [.ref (v9 1), .int (nI 0)])), (v9 1, .inl (cB, 9400, .inl (fun _ => 0))), (v9 2, .inr (2, [.ref (v9 3)])), (v9 3, .inl (cN, 256, .inr (.inr (.inr (.inr (fun _ => none)))))), (v9 4, .inr (8, [.int (-1), .ref (v9 5)])), (v9 5, .inr (12, [.ref e0, .int 0, .int 0])), (v9 6, .inl (cI, 10, .inl (fun _ => 0))), (v9 7, .inl (cQ, 16, .inr (.inr (.inr (.inr (fun _ => none)))))), (q16, .inr (12, [.ref e0, .int 0, .int 0]))] H := hP
  have hD : va_D A [(h, .inr (11, [.ref q5, .null])), (q5, .inr (4, [.ref (v9 0), .ref (v9 2), .ref (v9 4), .ref (v9 6), .ref (v9 7)])), (v9 0, .inr (0, [.ref (v9 1), .int (nI 0)])), (v9 1, .inl (cB, 9400, .inl (fun _ => 0))), (v9 2, .inr (2, [.ref (v9 3)])), (v9 3, .inl (cN, 256, .inr (.inr (.inr (.inr (fun _ => none)))))), (v9 4, .inr (8, [.int (-1), .ref (v9 5)])), (v9 5, .inr (12, [.ref e0, .int 0, .int 0])), (v9 6, .inl (cI, 10, .inl (fun _ => 0))), (v9 7, .inl (cQ, 16, .inr (.inr (.inr (.inr (fun _ => none)))))), (q16, .inr (12, [.ref e0, .int 0, .int 0]))] := hD
  refine va_putF (D := D) (ci := 11) (v := .ref q16) (ty := (.object "java/util/ArrayList")) (C := R_SS) (T := F_SS) (N := 2) hx hb hts i_SS t_SS t_SS_ok n_SS hown hK hP hD hS 0 rfl rfl 1 (by decide) (hts _ wd_199) (fun _ h9 => h9) rfl hin rfl (by decide +kernel) rfl rfl (Nat.le_of_ble_eq_true rfl) d_SS_init_23 (fun H locs hP hD hS => ?_)
  have hP : va_P D classes [(h, .inr (11, [.ref q5, .ref q16])), (q5, .inr (4, [.ref (v9 0), .ref (v9 2), .ref (v9 4), .ref (v9 6), .ref (v9 7)])), (v9 0, .inr (0, [.ref (v9 1), .int (nI 0)])), (v9 1, .inl (cB, 9400, .inl (fun _ => 0))), (v9 2, .inr (2, [.ref (v9 3)])), (v9 3, .inl (cN, 256, .inr (.inr (.inr (.inr (fun _ => none)))))), (v9 4, .inr (8, [.int (-1), .ref (v9 5)])), (v9 5, .inr (12, [.ref e0, .int 0, .int 0])), (v9 6, .inl (cI, 10, .inl (fun _ => 0))), (v9 7, .inl (cQ, 16, .inr (.inr (.inr (.inr (fun _ => none)))))), (q16, .inr (12, [.ref e0, .int 0, .int 0]))] H := hP
  have hD : va_D A [(h, .inr (11, [.ref q5, .ref q16])), (q5, .inr (4, [.ref (v9 0), .ref (v9 2), .ref (v9 4), .ref (v9 6), .ref (v9 7)])), (v9 0, .inr (0, [.ref (v9 1), .int (nI 0)])), (v9 1, .inl (cB, 9400, .inl (fun _ => 0))), (v9 2, .inr (2, [.ref (v9 3)])), (v9 3, .inl (cN, 256, .inr (.inr (.inr (.inr (fun _ => none)))))), (v9 4, .inr (8, [.int (-1), .ref (v9 5)])), (v9 5, .inr (12, [.ref e0, .int 0, .int 0])), (v9 6, .inl (cI, 10, .inl (fun _ => 0))), (v9 7, .inl (cQ, 16, .inr (.inr (.inr (.inr (fun _ => none)))))), (q16, .inr (12, [.ref e0, .int 0, .int 0]))] := hD
  have hP9 := hP.sub (ws' := [(h, .inr (11, [.ref q5, .ref q16])), (q5, .inr (4, [.ref (v9 0), .ref (v9 2), .ref (v9 4), .ref (v9 6), .ref (v9 7)])), (v9 0, .inr (0, [.ref (v9 1), .int (nI 0)])), (v9 1, .inl (cB, 9400, .inl (fun _ => 0))), (v9 2, .inr (2, [.ref (v9 3)])), (v9 3, .inl (cN, 256, .inr (.inr (.inr (.inr (fun _ => none)))))), (v9 4, .inr (8, [.int (-1), .ref (v9 5)])), (v9 5, .inr (12, [.ref e0, .int 0, .int 0])), (v9 6, .inl (cI, 10, .inl (fun _ => 0))), (v9 7, .inl (cQ, 16, .inr (.inr (.inr (.inr (fun _ => none)))))), (q16, .inr (12, [.ref e0, .int 0, .int 0]))]) [0, 1, 2, 3, 4, 5, 6, 7, 8, 9, 10] rfl
  have hD9 := hD.sub (ws' := [(h, .inr (11, [.ref q5, .ref q16])), (q5, .inr (4, [.ref (v9 0), .ref (v9 2), .ref (v9 4), .ref (v9 6), .ref (v9 7)])), (v9 0, .inr (0, [.ref (v9 1), .int (nI 0)])), (v9 1, .inl (cB, 9400, .inl (fun _ => 0))), (v9 2, .inr (2, [.ref (v9 3)])), (v9 3, .inl (cN, 256, .inr (.inr (.inr (.inr (fun _ => none)))))), (v9 4, .inr (8, [.int (-1), .ref (v9 5)])), (v9 5, .inr (12, [.ref e0, .int 0, .int 0])), (v9 6, .inl (cI, 10, .inl (fun _ => 0))), (v9 7, .inl (cQ, 16, .inr (.inr (.inr (.inr (fun _ => none)))))), (q16, .inr (12, [.ref e0, .int 0, .int 0]))]) [0, 1, 2, 3, 4, 5, 6, 7, 8, 9, 10] (by decide) rfl
  have hK9 := hK.sub (tys' := [(cB, .byte), (cI, .int), (cN, .object "StreamSplitter$Lane"), (cQ, .object "StreamSplitter$Piece")]) [0, 1, 2, 3] rfl
  refine W.widen (k := 10) (n := 9702) (by omega) (by omega) ?_
  exact W.vret hx hb hr (fun t ht hW => ⟨⟨(fun k => if k = 8 then q5 else if k = 9 then q16 else v9 k), rfl, trivial, ⟨by rw [ht]; exact hP9, va_K.moved hW.alike hK9, hD9⟩⟩, hS.F ht⟩) hS.2.2 d_SS_init_26
set_option maxHeartbeats 4000000 in
set_option maxRecDepth 100000 in
theorem c_Lane_init0 (l : Launch) (D : va_G) (sz : Nat) (h : Nat) (v : Int32)  : Met l y_Lane_init [Cond.code y_Lane_init b_Lane_init 3 none] ({ frames := 1, cells := 0, slots := 0, locals := 12 }) (zM [.ref h, .int v, .null] D [(h, .inr (1, [.int 0, .null, .int 0, .int 0, .long 0, .int 0, .null, .null]))] [] sz) (va_Qv (fun (_ : Unit) => True) (fun (_u : Unit) t => zW D (va_A [(h, .inr (1, [.int 0, .null, .int 0, .int 0, .long 0, .int 0, .null, .null]))] sz) [(h, .inr (1, [.int v, .null, .int (-1), .int 0, .long (-1), .int 0, .null, .null]))] [] t) (va_A [(h, .inr (1, [.int 0, .null, .int 0, .int 0, .long 0, .int 0, .null, .null]))] sz)) 0 0 (va_A [(h, .inr (1, [.int 0, .null, .int 0, .int 0, .long 0, .int 0, .null, .null]))] sz) := by
  refine Met.ofW (cc := b_Lane_init) (maxL := 3) (ret := none) (by decide) rfl ?_
  intro p e s m args below meth cd s₁ Bd hml hv
  obtain ⟨rfl, hsz, hP, hK, hN, hD0⟩ := hv
  have hx := Bd.exec
  have hb := Bd.bytes
  have hr := Bd.returns
  have hts := hN.use (a := ([.ref h, .int v, .null]).toArray)
  have hown : s.vm.findClass R_Lane = some m.cls := findClass_of_methodNamed Bd.named
  have hlocks := Bd.notSynchronized
  have hin : meth.name = "<init>" := (name_of_methodNamed Bd.named Bd.method).1
  subst hsz
  have hD := hD0.self (sz := s.heap.size)
  clear hD0
  have hA : ∀ q : Nat, s.heap.size ≤ q → va_A [(h, .inr (1, [.int 0, .null, .int 0, .int 0, .long 0, .int 0, .null, .null]))] s.heap.size q := fun q h => Or.inr h
  have hS : va_S (va_A [(h, .inr (1, [.int 0, .null, .int 0, .int 0, .long 0, .int 0, .null, .null]))] s.heap.size) s.heap s.heap [] := va_S.rf
  generalize hAe : va_A [(h, .inr (1, [.int 0, .null, .int 0, .int 0, .long 0, .int 0, .null, .null]))] s.heap.size = A at hD hA hS ⊢
  have hP : va_P D classes [(h, .inr (1, [.int 0, .null, .int 0, .int 0, .long 0, .int 0, .null, .null]))] s.heap := hP
  have hl := lv_entry ([.ref h, .int v, .null]) (n := 3) (Nat.le_of_ble_eq_true rfl)
  rw [lg_entry_eq]
  generalize (lg_sl ([.ref h, .int v, .null]) ++ List.replicate (3 - (lg_sl ([.ref h, .int v, .null])).length) Slot.unset).toArray = ls at hl ⊢
  have hl : lv_has ls 3 [(0, .ref h), (1, .int v), (2, .null)] := hl
  refine lv_aload_n hx hb d_Lane_init_0 rfl (lv_at hl 0 rfl) ?_
  refine W.objInit hx hb hown (hts _ wd_238) (hts _ wd_92) (hts _ wd_93) rfl (by rw [hml]; exact hl.1) rfl d_Lane_init_1 (Nat.le_of_ble_eq_true rfl) (Nat.le_of_ble_eq_true rfl) ?_
  refine W.eq (g2 := F0 m 4 ls []) rfl ?_
  refine lv_aload_n hx hb d_Lane_init_4 rfl (lv_at hl 0 rfl) ?_
  refine lv_iconst (v := (-1)) hx hb d_Lane_init_5 (by decide) ?_
  refine va_put (D := D) (ci := 1) (v := .int (-1)) (ty := .int) (C := R_Lane) (T := F_Lane) (N := 8) hx hb hts i_Lane t_Lane t_Lane_ok n_Lane hown hK hP hD hS 0 rfl rfl 2 (by decide) (hts _ wd_248) (fun _ h9 => h9) rfl (by decide +kernel) rfl rfl (Nat.le_of_ble_eq_true rfl) d_Lane_init_6 (fun H locs hP hD hS => ?_)
  have hP : va_P D classes [(h, .inr (1, [.int 0, .null, .int (-1), .int 0, .long 0, .int 0, .null, .null]))] H := hP
  have hD : va_D A [(h, .inr (1, [.int 0, .null, .int (-1), .int 0, .long 0, .int 0, .null, .null]))] := hD
  refine lv_aload_n hx hb d_Lane_init_9 rfl (lv_at hl 0 rfl) ?_
  refine lv_ldc2 hx hb hown (hts _ wd_239) d_Lane_init_10 ?_
  refine va_put (D := D) (ci := 1) (v := .long (-1)) (ty := .long) (C := R_Lane) (T := F_Lane) (N := 8) hx hb hts i_Lane t_Lane t_Lane_ok n_Lane hown hK hP hD hS 0 rfl rfl 4 (by decide) (hts _ wd_251) (fun _ h9 => h9) rfl (by decide +kernel) rfl rfl (Nat.le_of_ble_eq_true rfl) d_Lane_init_13 (fun H locs hP hD hS => ?_)
  have hP : va_P D classes [(h, .inr (1, [.int 0, .null, .int (-1), .int 0, .long (-1), .int 0, .null, .null]))] H := hP
  have hD : va_D A [(h, .inr (1, [.int 0, .null, .int (-1), .int 0, .long (-1), .int 0, .null, .null]))] := hD
  refine lv_aload_n hx hb d_Lane_init_16 rfl (lv_at hl 0 rfl) ?_
  refine lv_iload_n hx hb d_Lane_init_17 rfl (lv_at hl 1 rfl) ?_
  refine va_putF (D := D) (ci := 1) (v := .int v) (ty := .int) (C := R_Lane) (T := F_Lane) (N := 8) hx hb hts i_Lane t_Lane t_Lane_ok n_Lane hown hK hP hD hS 0 rfl rfl 0 (by decide) (hts _ wd_240) (fun _ h9 => h9) rfl hin rfl (by decide +kernel) rfl rfl (Nat.le_of_ble_eq_true rfl) d_Lane_init_18 (fun H locs hP hD hS => ?_)
  have hP : va_P D classes [(h, .inr (1, [.int v, .null, .int (-1), .int 0, .long (-1), .int 0, .null, .null]))] H := hP
  have hD : va_D A [(h, .inr (1, [.int v, .null, .int (-1), .int 0, .long (-1), .int 0, .null, .null]))] := hD
  refine lv_aload_n hx hb d_Lane_init_21 rfl (lv_at hl 0 rfl) ?_
  refine lv_aload_nN hx hb d_Lane_init_22 rfl (lv_at hl 2 rfl) ?_
  refine va_putF (D := D) (ci := 1) (v := .null) (ty := (.object "StreamSplitter$Lane")) (C := R_Lane) (T := F_Lane) (N := 8) hx hb hts i_Lane t_Lane t_Lane_ok n_Lane hown hK hP hD hS 0 rfl rfl 1 (by decide) (hts _ wd_245) (fun _ h9 => h9) rfl hin rfl (by decide +kernel) rfl rfl (Nat.le_of_ble_eq_true rfl) d_Lane_init_23 (fun H locs hP hD hS => ?_)
  have hP : va_P D classes [(h, .inr (1, [.int v, .null, .int (-1), .int 0, .long (-1), .int 0, .null, .null]))] H := hP
  have hD : va_D A [(h, .inr (1, [.int v, .null, .int (-1), .int 0, .long (-1), .int 0, .null, .null]))] := hD
  have hP9 := hP.sub (ws' := [(h, .inr (1, [.int v, .null, .int (-1), .int 0, .long (-1), .int 0, .null, .null]))]) [0] rfl
  have hD9 := hD.sub (ws' := [(h, .inr (1, [.int v, .null, .int (-1), .int 0, .long (-1), .int 0, .null, .null]))]) [0] (by decide) rfl
  have hK9 := hK.sub (tys' := []) [] rfl
  exact W.vret hx hb hr (fun t ht hW => ⟨⟨(), rfl, trivial, ⟨by rw [ht]; exact hP9, va_K.moved hW.alike hK9, hD9⟩⟩, hS.F ht⟩) hS.2.2 d_Lane_init_26
set_option maxHeartbeats 4000000 in
set_option maxRecDepth 100000 in
theorem c_Lane_init1 (l : Launch) (D : va_G) (sz : Nat) (h nx : Nat) (v : Int32)  : Met l y_Lane_init [Cond.code y_Lane_init b_Lane_init 3 none] ({ frames := 1, cells := 0, slots := 0, locals := 12 }) (zM [.ref h, .int v, .ref nx] D [(h, .inr (1, [.int 0, .null, .int 0, .int 0, .long 0, .int 0, .null, .null]))] [] sz) (va_Qv (fun (_ : Unit) => True) (fun (_u : Unit) t => zW D (va_A [(h, .inr (1, [.int 0, .null, .int 0, .int 0, .long 0, .int 0, .null, .null]))] sz) [(h, .inr (1, [.int v, .ref nx, .int (-1), .int 0, .long (-1), .int 0, .null, .null]))] [] t) (va_A [(h, .inr (1, [.int 0, .null, .int 0, .int 0, .long 0, .int 0, .null, .null]))] sz)) 0 0 (va_A [(h, .inr (1, [.int 0, .null, .int 0, .int 0, .long 0, .int 0, .null, .null]))] sz) := by
  refine Met.ofW (cc := b_Lane_init) (maxL := 3) (ret := none) (by decide) rfl ?_
  intro p e s m args below meth cd s₁ Bd hml hv
  obtain ⟨rfl, hsz, hP, hK, hN, hD0⟩ := hv
  have hx := Bd.exec
  have hb := Bd.bytes
  have hr := Bd.returns
  have hts := hN.use (a := ([.ref h, .int v, .ref nx]).toArray)
  have hown : s.vm.findClass R_Lane = some m.cls := findClass_of_methodNamed Bd.named
  have hlocks := Bd.notSynchronized
  have hin : meth.name = "<init>" := (name_of_methodNamed Bd.named Bd.method).1
  subst hsz
  have hD := hD0.self (sz := s.heap.size)
  clear hD0
  have hA : ∀ q : Nat, s.heap.size ≤ q → va_A [(h, .inr (1, [.int 0, .null, .int 0, .int 0, .long 0, .int 0, .null, .null]))] s.heap.size q := fun q h => Or.inr h
  have hS : va_S (va_A [(h, .inr (1, [.int 0, .null, .int 0, .int 0, .long 0, .int 0, .null, .null]))] s.heap.size) s.heap s.heap [] := va_S.rf
  generalize hAe : va_A [(h, .inr (1, [.int 0, .null, .int 0, .int 0, .long 0, .int 0, .null, .null]))] s.heap.size = A at hD hA hS ⊢
  have hP : va_P D classes [(h, .inr (1, [.int 0, .null, .int 0, .int 0, .long 0, .int 0, .null, .null]))] s.heap := hP
  have hl := lv_entry ([.ref h, .int v, .ref nx]) (n := 3) (Nat.le_of_ble_eq_true rfl)
  rw [lg_entry_eq]
  generalize (lg_sl ([.ref h, .int v, .ref nx]) ++ List.replicate (3 - (lg_sl ([.ref h, .int v, .ref nx])).length) Slot.unset).toArray = ls at hl ⊢
  have hl : lv_has ls 3 [(0, .ref h), (1, .int v), (2, .ref nx)] := hl
  refine lv_aload_n hx hb d_Lane_init_0 rfl (lv_at hl 0 rfl) ?_
  refine W.objInit hx hb hown (hts _ wd_238) (hts _ wd_92) (hts _ wd_93) rfl (by rw [hml]; exact hl.1) rfl d_Lane_init_1 (Nat.le_of_ble_eq_true rfl) (Nat.le_of_ble_eq_true rfl) ?_
  refine W.eq (g2 := F0 m 4 ls []) rfl ?_
  refine lv_aload_n hx hb d_Lane_init_4 rfl (lv_at hl 0 rfl) ?_
  refine lv_iconst (v := (-1)) hx hb d_Lane_init_5 (by decide) ?_
  refine va_put (D := D) (ci := 1) (v := .int (-1)) (ty := .int) (C := R_Lane) (T := F_Lane) (N := 8) hx hb hts i_Lane t_Lane t_Lane_ok n_Lane hown hK hP hD hS 0 rfl rfl 2 (by decide) (hts _ wd_248) (fun _ h9 => h9) rfl (by decide +kernel) rfl rfl (Nat.le_of_ble_eq_true rfl) d_Lane_init_6 (fun H locs hP hD hS => ?_)
  have hP : va_P D classes [(h, .inr (1, [.int 0, .null, .int (-1), .int 0, .long 0, .int 0, .null, .null]))] H := hP
  have hD : va_D A [(h, .inr (1, [.int 0, .null, .int (-1), .int 0, .long 0, .int 0, .null, .null]))] := hD
  refine lv_aload_n hx hb d_Lane_init_9 rfl (lv_at hl 0 rfl) ?_
  refine lv_ldc2 hx hb hown (hts _ wd_239) d_Lane_init_10 ?_
  refine va_put (D := D) (ci := 1) (v := .long (-1)) (ty := .long) (C := R_Lane) (T := F_Lane) (N := 8) hx hb hts i_Lane t_Lane t_Lane_ok n_Lane hown hK hP hD hS 0 rfl rfl 4 (by decide) (hts _ wd_251) (fun _ h9 => h9) rfl (by decide +kernel) rfl rfl (Nat.le_of_ble_eq_true rfl) d_Lane_init_13 (fun H locs hP hD hS => ?_)
  have hP : va_P D classes [(h, .inr (1, [.int 0, .null, .int (-1), .int 0, .long (-1), .int 0, .null, .null]))] H := hP
  have hD : va_D A [(h, .inr (1, [.int 0, .null, .int (-1), .int 0, .long (-1), .int 0, .null, .null]))] := hD
  refine lv_aload_n hx hb d_Lane_init_16 rfl (lv_at hl 0 rfl) ?_
  refine lv_iload_n hx hb d_Lane_init_17 rfl (lv_at hl 1 rfl) ?_
  refine va_putF (D := D) (ci := 1) (v := .int v) (ty := .int) (C := R_Lane) (T := F_Lane) (N := 8) hx hb hts i_Lane t_Lane t_Lane_ok n_Lane hown hK hP hD hS 0 rfl rfl 0 (by decide) (hts _ wd_240) (fun _ h9 => h9) rfl hin rfl (by decide +kernel) rfl rfl (Nat.le_of_ble_eq_true rfl) d_Lane_init_18 (fun H locs hP hD hS => ?_)
  have hP : va_P D classes [(h, .inr (1, [.int v, .null, .int (-1), .int 0, .long (-1), .int 0, .null, .null]))] H := hP
  have hD : va_D A [(h, .inr (1, [.int v, .null, .int (-1), .int 0, .long (-1), .int 0, .null, .null]))] := hD
  refine lv_aload_n hx hb d_Lane_init_21 rfl (lv_at hl 0 rfl) ?_
  refine lv_aload_n hx hb d_Lane_init_22 rfl (lv_at hl 2 rfl) ?_
  refine va_putF (D := D) (ci := 1) (v := .ref nx) (ty := (.object "StreamSplitter$Lane")) (C := R_Lane) (T := F_Lane) (N := 8) hx hb hts i_Lane t_Lane t_Lane_ok n_Lane hown hK hP hD hS 0 rfl rfl 1 (by decide) (hts _ wd_245) (fun _ h9 => h9) rfl hin rfl (by decide +kernel) rfl rfl (Nat.le_of_ble_eq_true rfl) d_Lane_init_23 (fun H locs hP hD hS => ?_)
  have hP : va_P D classes [(h, .inr (1, [.int v, .ref nx, .int (-1), .int 0, .long (-1), .int 0, .null, .null]))] H := hP
  have hD : va_D A [(h, .inr (1, [.int v, .ref nx, .int (-1), .int 0, .long (-1), .int 0, .null, .null]))] := hD
  have hP9 := hP.sub (ws' := [(h, .inr (1, [.int v, .ref nx, .int (-1), .int 0, .long (-1), .int 0, .null, .null]))]) [0] rfl
  have hD9 := hD.sub (ws' := [(h, .inr (1, [.int v, .ref nx, .int (-1), .int 0, .long (-1), .int 0, .null, .null]))]) [0] (by decide) rfl
  have hK9 := hK.sub (tys' := []) [] rfl
  exact W.vret hx hb hr (fun t ht hW => ⟨⟨(), rfl, trivial, ⟨by rw [ht]; exact hP9, va_K.moved hW.alike hK9, hD9⟩⟩, hS.F ht⟩) hS.2.2 d_Lane_init_26
set_option maxHeartbeats 4000000 in
set_option maxRecDepth 100000 in
theorem c_Draft_init (l : Launch) (D : va_G) (B0 : State) (hG : zG B0) (sz : Nat) (h e0 : Nat) (nu pd : Int32) (he0 : zE0 B0 e0) : Met l y_Draft_init [Cond.code y_Draft_init b_Draft_init 3 none] ({ frames := 4, cells := 1, slots := 3, locals := 72 }) (zMo [.ref h, .int nu, .int pd] D [(h, .inr (9, [.int 0, .int 0, .null]))] [] sz B0) (va_Qv (fun (u : Nat) => True) (fun (u : Nat) t => zW D (va_A [(h, .inr (9, [.int 0, .int 0, .null]))] sz) [(h, .inr (9, [.int nu, .int pd, .ref u])), (u, .inr (12, [.ref e0, .int 0, .int 0]))] [] t) (va_A [(h, .inr (9, [.int 0, .int 0, .null]))] sz)) 1 3 (va_A [(h, .inr (9, [.int 0, .int 0, .null]))] sz) := by
  refine Met.ofW (cc := b_Draft_init) (maxL := 3) (ret := none) (by decide) rfl ?_
  intro p e s m args below meth cd s₁ Bd hml hv
  obtain ⟨rfl, hsz, hP, hK, hN, hD0, hO⟩ := hv
  have hx := Bd.exec
  have hb := Bd.bytes
  have hr := Bd.returns
  have hts := hN.use (a := ([.ref h, .int nu, .int pd]).toArray)
  have hown : s.vm.findClass R_Draft = some m.cls := findClass_of_methodNamed Bd.named
  have hlocks := Bd.notSynchronized
  have hin : meth.name = "<init>" := (name_of_methodNamed Bd.named Bd.method).1
  subst hsz
  have hD := hD0.self (sz := s.heap.size)
  have hAO := z_AO hD0 hO
  clear hD0
  have hA : ∀ q : Nat, s.heap.size ≤ q → va_A [(h, .inr (9, [.int 0, .int 0, .null]))] s.heap.size q := fun q h => Or.inr h
  have hS : va_S (va_A [(h, .inr (9, [.int 0, .int 0, .null]))] s.heap.size) s.heap s.heap [] := va_S.rf
  generalize hAe : va_A [(h, .inr (9, [.int 0, .int 0, .null]))] s.heap.size = A at hD hA hS hAO ⊢
  have hP : va_P D classes [(h, .inr (9, [.int 0, .int 0, .null]))] s.heap := hP
  have hl := lv_entry ([.ref h, .int nu, .int pd]) (n := 3) (Nat.le_of_ble_eq_true rfl)
  rw [lg_entry_eq]
  generalize (lg_sl ([.ref h, .int nu, .int pd]) ++ List.replicate (3 - (lg_sl ([.ref h, .int nu, .int pd])).length) Slot.unset).toArray = ls at hl ⊢
  have hl : lv_has ls 3 [(0, .ref h), (1, .int nu), (2, .int pd)] := hl
  refine lv_aload_n hx hb d_Draft_init_0 rfl (lv_at hl 0 rfl) ?_
  refine W.objInit hx hb hown (hts _ wd_900) (hts _ wd_92) (hts _ wd_93) rfl (by rw [hml]; exact hl.1) rfl d_Draft_init_1 (Nat.le_of_ble_eq_true rfl) (Nat.le_of_ble_eq_true rfl) ?_
  refine W.eq (g2 := F0 m 4 ls []) rfl ?_
  refine lv_aload_n hx hb d_Draft_init_4 rfl (lv_at hl 0 rfl) ?_
  refine va_new (ci := 12) (fs := [.null, .int 0, .int 0]) (C := R_AL) (T := F_AL) (N := 3) hx hb hts i_AL t_AL t_AL_ok hown (hts _ wd_901) (hts _ wd_139) (hts _ wd_66) hK hP hD hS hA rfl (fs_AL) (by show 0 + 1 ≤ 1; omega) (by show 0 + 3 ≤ 3; omega) d_Draft_init_5 (fun q5 H hP hD hS => ?_)
  have hP : va_P D classes [(h, .inr (9, [.int 0, .int 0, .null])), (q5, .inr (12, [.null, .int 0, .int 0]))] H := hP
  have hD : va_D A [(h, .inr (9, [.int 0, .int 0, .null])), (q5, .inr (12, [.null, .int 0, .int 0]))] := hD
  refine lv_dup hx hb d_Draft_init_8 rfl ?_
  have hPc := hP.sub (ws' := [(q5, .inr (12, [.null, .int 0, .int 0]))]) [1] rfl
  have hKc := hK.sub (tys' := []) [] rfl
  have hDc := hD.sub (ws' := [(q5, .inr (12, [.null, .int 0, .int 0]))]) [1] (by decide) rfl
  have hFc := va_free (wc := [(q5, .inr (12, [.null, .int 0, .int 0]))]) hD hS hA [1] rfl
  refine va_callv (va_runI (As := []) (rest := [.ref q5, .ref h]) ⟨hx, hb, hml, hown, hts⟩ (c_AL_init l D B0 hG H.size q5 e0 he0) (z_cI hN wd_142 wd_66 wd_902 hd_AL_init rfl rfl ⟨Nat.le_of_ble_eq_true rfl, Nat.le_of_ble_eq_true rfl⟩ wd_141 rfl) (z_preSo hPc hKc hN hDc hO hS hAO) rfl rfl hl.1 rfl (lv_room (Nat.le_of_ble_eq_true rfl)) d_Draft_init_9 ⟨Nat.le_of_ble_eq_true rfl, Nat.le_of_ble_eq_true rfl⟩) hS (fun q _ h => hFc q h) hFc (fun u9 t H locs ht hvm e9 hB hz1 hk1 hS => ?_)
  obtain ⟨hP1, hK1, hD1⟩ := hB
  rw [ht] at hP1
  obtain ⟨hP, hD⟩ := va_join (wr := [(h, .inr (9, [.int 0, .int 0, .null]))]) (w1 := [(q5, .inr (12, [.ref e0, .int 0, .int 0]))]) hP hD [1] [0] rfl rfl (by decide) (by decide) hk1 hFc hP1 hD1
  clear hk1 hP1 hD1 hFc hPc hDc hz1
  have hP : va_P D classes [(h, .inr (9, [.int 0, .int 0, .null])), (q5, .inr (12, [.ref e0, .int 0, .int 0]))] H := hP
  have hD : va_D A [(h, .inr (9, [.int 0, .int 0, .null])), (q5, .inr (12, [.ref e0, .int 0, .int 0]))] := hD
  refine va_putF (D := D) (ci := 9) (v := .ref q5) (ty := (.object "java/util/ArrayList")) (C := R_Draft) (T := F_Draft) (N := 3) hx hb hts i_Draft t_Draft t_Draft_ok n_Draft hown hK hP hD hS 0 rfl rfl 2 (by decide) (hts _ wd_908) (fun _ h9 => h9) rfl hin rfl (by decide +kernel) rfl rfl (Nat.le_of_ble_eq_true rfl) d_Draft_init_12 (fun H locs hP hD hS => ?_)
  have hP : va_P D classes [(h, .inr (9, [.int 0, .int 0, .ref q5])), (q5, .inr (12, [.ref e0, .int 0, .int 0]))] H := hP
  have hD : va_D A [(h, .inr (9, [.int 0, .int 0, .ref q5])), (q5, .inr (12, [.ref e0, .int 0, .int 0]))] := hD
  refine lv_aload_n hx hb d_Draft_init_15 rfl (lv_at hl 0 rfl) ?_
  refine lv_iload_n hx hb d_Draft_init_16 rfl (lv_at hl 1 rfl) ?_
  refine va_putF (D := D) (ci := 9) (v := .int nu) (ty := .int) (C := R_Draft) (T := F_Draft) (N := 3) hx hb hts i_Draft t_Draft t_Draft_ok n_Draft hown hK hP hD hS 0 rfl rfl 0 (by decide) (hts _ wd_903) (fun _ h9 => h9) rfl hin rfl (by decide +kernel) rfl rfl (Nat.le_of_ble_eq_true rfl) d_Draft_init_17 (fun H locs hP hD hS => ?_)
  have hP : va_P D classes [(h, .inr (9, [.int nu, .int 0, .ref q5])), (q5, .inr (12, [.ref e0, .int 0, .int 0]))] H := hP
  have hD : va_D A [(h, .inr (9, [.int nu, .int 0, .ref q5])), (q5, .inr (12, [.ref e0, .int 0, .int 0]))] := hD
  refine lv_aload_n hx hb d_Draft_init_20 rfl (lv_at hl 0 rfl) ?_
  refine lv_iload_n hx hb d_Draft_init_21 rfl (lv_at hl 2 rfl) ?_
  refine va_putF (D := D) (ci := 9) (v := .int pd) (ty := .int) (C := R_Draft) (T := F_Draft) (N := 3) hx hb hts i_Draft t_Draft t_Draft_ok n_Draft hown hK hP hD hS 0 rfl rfl 1 (by decide) (hts _ wd_905) (fun _ h9 => h9) rfl hin rfl (by decide +kernel) rfl rfl (Nat.le_of_ble_eq_true rfl) d_Draft_init_22 (fun H locs hP hD hS => ?_)
  have hP : va_P D classes [(h, .inr (9, [.int nu, .int pd, .ref q5])), (q5, .inr (12, [.ref e0, .int 0, .int 0]))] H := hP
  have hD : va_D A [(h, .inr (9, [.int nu, .int pd, .ref q5])), (q5, .inr (12, [.ref e0, .int 0, .int 0]))] := hD
  have hP9 := hP.sub (ws' := [(h, .inr (9, [.int nu, .int pd, .ref q5])), (q5, .inr (12, [.ref e0, .int 0, .int 0]))]) [0, 1] rfl
  have hD9 := hD.sub (ws' := [(h, .inr (9, [.int nu, .int pd, .ref q5])), (q5, .inr (12, [.ref e0, .int 0, .int 0]))]) [0, 1] (by decide) rfl
  have hK9 := hK.sub (tys' := []) [] rfl
  refine W.widen (k := 1) (n := 3) (by omega) (by omega) ?_
  exact W.vret hx hb hr (fun t ht hW => ⟨⟨q5, rfl, trivial, ⟨by rw [ht]; exact hP9, va_K.moved hW.alike hK9, hD9⟩⟩, hS.F ht⟩) hS.2.2 d_Draft_init_25
