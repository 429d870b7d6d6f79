theorem wd_1139 : (Jvm.Cond.fieldLink "StreamSplitterModel" (148 : Nat) "StreamSplitterModel" "written" "[I") ∈ lw_ok := List.mem_filter.mpr ⟨List.mem_of_getElem? (i := 1139) (by decide +kernel), rfl⟩
theorem wd_1452 : (Jvm.Cond.constantLong "StreamSplitterModel" (287 : Nat) (193 : Int64)) ∈ lw_ok := List.mem_filter.mpr ⟨List.mem_of_getElem? (i := 1452) (by decide +kernel), rfl⟩
theorem d_Mo_beginTable_0 : decode b_Mo_beginTable 0 = .ok (.aload_n 0, 1) := by decide +kernel
theorem d_Mo_beginTable_1 : decode b_Mo_beginTable 1 = .ok (.iconst 0, 1) := by decide +kernel
theorem d_Mo_beginTable_2 : decode b_Mo_beginTable 2 = .ok (.putfield 280, 3) := by decide +kernel
theorem d_Mo_beginTable_5 : decode b_Mo_beginTable 5 = .ok (.aload_n 0, 1) := by decide +kernel
theorem d_Mo_beginTable_6 : decode b_Mo_beginTable 6 = .ok (.lconst 0, 1) := by decide +kernel
theorem d_Mo_beginTable_7 : decode b_Mo_beginTable 7 = .ok (.iconst 1, 1) := by decide +kernel
theorem d_Mo_beginTable_8 : decode b_Mo_beginTable 8 = .ok (.invokevirtual 283, 3) := by decide +kernel
theorem d_Mo_beginTable_11 : decode b_Mo_beginTable 11 = .ok (.aload_n 0, 1) := by decide +kernel
theorem d_Mo_beginTable_12 : decode b_Mo_beginTable 12 = .ok (.iload_n 1, 1) := by decide +kernel
theorem d_Mo_beginTable_13 : decode b_Mo_beginTable 13 = .ok (.i2l, 1) := by decide +kernel
theorem d_Mo_beginTable_14 : decode b_Mo_beginTable 14 = .ok (.iconst 1, 1) := by decide +kernel
theorem d_Mo_beginTable_15 : decode b_Mo_beginTable 15 = .ok (.invokevirtual 283, 3) := by decide +kernel
theorem d_Mo_beginTable_18 : decode b_Mo_beginTable 18 = .ok (.aload_n 0, 1) := by decide +kernel
theorem d_Mo_beginTable_19 : decode b_Mo_beginTable 19 = .ok (.lconst 0, 1) := by decide +kernel
theorem d_Mo_beginTable_20 : decode b_Mo_beginTable 20 = .ok (.iconst 2, 1) := by decide +kernel
theorem d_Mo_beginTable_21 : decode b_Mo_beginTable 21 = .ok (.invokevirtual 283, 3) := by decide +kernel
theorem d_Mo_beginTable_24 : decode b_Mo_beginTable 24 = .ok (.aload_n 0, 1) := by decide +kernel
theorem d_Mo_beginTable_25 : decode b_Mo_beginTable 25 = .ok (.iload_n 2, 1) := by decide +kernel
theorem d_Mo_beginTable_26 : decode b_Mo_beginTable 26 = .ok (.i2l, 1) := by decide +kernel
theorem d_Mo_beginTable_27 : decode b_Mo_beginTable 27 = .ok (.iconst 2, 1) := by decide +kernel
theorem d_Mo_beginTable_28 : decode b_Mo_beginTable 28 = .ok (.invokevirtual 283, 3) := by decide +kernel
theorem d_Mo_beginTable_31 : decode b_Mo_beginTable 31 = .ok (.aload_n 0, 1) := by decide +kernel
theorem d_Mo_beginTable_32 : decode b_Mo_beginTable 32 = .ok (.ldc2_w 287, 3) := by decide +kernel
theorem d_Mo_beginTable_35 : decode b_Mo_beginTable 35 = .ok (.iload_n 3, 1) := by decide +kernel
theorem d_Mo_beginTable_36 : decode b_Mo_beginTable 36 = .ok (.i2l, 1) := by decide +kernel
theorem d_Mo_beginTable_37 : decode b_Mo_beginTable 37 = .ok (.iconst 1, 1) := by decide +kernel
theorem d_Mo_beginTable_38 : decode b_Mo_beginTable 38 = .ok (.lshl, 1) := by decide +kernel
theorem d_Mo_beginTable_39 : decode b_Mo_beginTable 39 = .ok (.lor, 1) := by decide +kernel
theorem d_Mo_beginTable_40 : decode b_Mo_beginTable 40 = .ok (.iconst 1, 1) := by decide +kernel
theorem d_Mo_beginTable_41 : decode b_Mo_beginTable 41 = .ok (.invokevirtual 283, 3) := by decide +kernel
theorem d_Mo_beginTable_44 : decode b_Mo_beginTable 44 = .ok (.aload_n 0, 1) := by decide +kernel
theorem d_Mo_beginTable_45 : decode b_Mo_beginTable 45 = .ok (.lconst 0, 1) := by decide +kernel
theorem d_Mo_beginTable_46 : decode b_Mo_beginTable 46 = .ok (.iconst 2, 1) := by decide +kernel
theorem d_Mo_beginTable_47 : decode b_Mo_beginTable 47 = .ok (.invokevirtual 283, 3) := by decide +kernel
theorem d_Mo_beginTable_50 : decode b_Mo_beginTable 50 = .ok (.return_, 1) := by decide +kernel
theorem d_Mo_seal_0 : decode b_Mo_seal 0 = .ok (.aload_n 0, 1) := by decide +kernel
theorem d_Mo_seal_1 : decode b_Mo_seal 1 = .ok (.iload_n 1, 1) := by decide +kernel
theorem d_Mo_seal_2 : decode b_Mo_seal 2 = .ok (.ifCond .lt 18, 3) := by decide +kernel
theorem d_Mo_seal_5 : decode b_Mo_seal 5 = .ok (.iload_n 1, 1) := by decide +kernel
theorem d_Mo_seal_6 : decode b_Mo_seal 6 = .ok (.iload_n 2, 1) := by decide +kernel
theorem d_Mo_seal_7 : decode b_Mo_seal 7 = .ok (.if_icmp .gt 13, 3) := by decide +kernel
theorem d_Mo_seal_10 : decode b_Mo_seal 10 = .ok (.iload_n 2, 1) := by decide +kernel
theorem d_Mo_seal_11 : decode b_Mo_seal 11 = .ok (.aload_n 0, 1) := by decide +kernel
theorem d_Mo_seal_12 : decode b_Mo_seal 12 = .ok (.getfield 159, 3) := by decide +kernel
theorem d_Mo_seal_15 : decode b_Mo_seal 15 = .ok (.iconst 4, 1) := by decide +kernel
theorem d_Mo_seal_16 : decode b_Mo_seal 16 = .ok (.isub, 1) := by decide +kernel
theorem d_Mo_seal_17 : decode b_Mo_seal 17 = .ok (.if_icmp .le 7, 3) := by decide +kernel
theorem d_Mo_seal_20 : decode b_Mo_seal 20 = .ok (.iconst 1, 1) := by decide +kernel
theorem d_Mo_seal_21 : decode b_Mo_seal 21 = .ok (.goto 4, 3) := by decide +kernel
theorem d_Mo_seal_24 : decode b_Mo_seal 24 = .ok (.iconst 0, 1) := by decide +kernel
theorem d_Mo_seal_25 : decode b_Mo_seal 25 = .ok (.putfield 156, 3) := by decide +kernel
theorem d_Mo_seal_28 : decode b_Mo_seal 28 = .ok (.aload_n 0, 1) := by decide +kernel
theorem d_Mo_seal_29 : decode b_Mo_seal 29 = .ok (.getfield 156, 3) := by decide +kernel
theorem d_Mo_seal_32 : decode b_Mo_seal 32 = .ok (.ifCond .ne 70, 3) := by decide +kernel
theorem d_Mo_seal_35 : decode b_Mo_seal 35 = .ok (.iconst (-1), 1) := by decide +kernel
theorem d_Mo_seal_36 : decode b_Mo_seal 36 = .ok (.istore_n 3, 1) := by decide +kernel
theorem d_Mo_seal_37 : decode b_Mo_seal 37 = .ok (.iload_n 1, 1) := by decide +kernel
theorem d_Mo_seal_38 : decode b_Mo_seal 38 = .ok (.istore 4, 2) := by decide +kernel
theorem d_Mo_seal_40 : decode b_Mo_seal 40 = .ok (.iload 4, 2) := by decide +kernel
theorem d_Mo_seal_42 : decode b_Mo_seal 42 = .ok (.iload_n 2, 1) := by decide +kernel
theorem d_Mo_seal_43 : decode b_Mo_seal 43 = .ok (.if_icmp .ge 21, 3) := by decide +kernel
theorem d_Mo_seal_46 : decode b_Mo_seal 46 = .ok (.iload_n 3, 1) := by decide +kernel
theorem d_Mo_seal_47 : decode b_Mo_seal 47 = .ok (.aload_n 0, 1) := by decide +kernel
theorem d_Mo_seal_48 : decode b_Mo_seal 48 = .ok (.getfield 7, 3) := by decide +kernel
theorem d_Mo_seal_51 : decode b_Mo_seal 51 = .ok (.iload 4, 2) := by decide +kernel
theorem d_Mo_seal_53 : decode b_Mo_seal 53 = .ok (.iaload, 1) := by decide +kernel
theorem d_Mo_seal_54 : decode b_Mo_seal 54 = .ok (.invokestatic 169, 3) := by decide +kernel
theorem d_Mo_seal_57 : decode b_Mo_seal 57 = .ok (.istore_n 3, 1) := by decide +kernel
theorem d_Mo_seal_58 : decode b_Mo_seal 58 = .ok (.iinc 4 1, 3) := by decide +kernel
theorem d_Mo_seal_61 : decode b_Mo_seal 61 = .ok (.goto (-21), 3) := by decide +kernel
theorem d_Mo_seal_64 : decode b_Mo_seal 64 = .ok (.iconst 0, 1) := by decide +kernel
theorem d_Mo_seal_65 : decode b_Mo_seal 65 = .ok (.istore 4, 2) := by decide +kernel
theorem d_Mo_seal_67 : decode b_Mo_seal 67 = .ok (.iload 4, 2) := by decide +kernel
theorem d_Mo_seal_69 : decode b_Mo_seal 69 = .ok (.iconst 4, 1) := by decide +kernel
theorem d_Mo_seal_70 : decode b_Mo_seal 70 = .ok (.if_icmp .ge 32, 3) := by decide +kernel
theorem d_Mo_seal_73 : decode b_Mo_seal 73 = .ok (.aload_n 0, 1) := by decide +kernel
theorem d_Mo_seal_74 : decode b_Mo_seal 74 = .ok (.getfield 7, 3) := by decide +kernel
theorem d_Mo_seal_77 : decode b_Mo_seal 77 = .ok (.iload_n 2, 1) := by decide +kernel
theorem d_Mo_seal_78 : decode b_Mo_seal 78 = .ok (.iload 4, 2) := by decide +kernel
theorem d_Mo_seal_80 : decode b_Mo_seal 80 = .ok (.iadd, 1) := by decide +kernel
theorem d_Mo_seal_81 : decode b_Mo_seal 81 = .ok (.iload_n 3, 1) := by decide +kernel
theorem d_Mo_seal_82 : decode b_Mo_seal 82 = .ok (.bipush 24, 2) := by decide +kernel
theorem d_Mo_seal_84 : decode b_Mo_seal 84 = .ok (.bipush 8, 2) := by decide +kernel
theorem d_Mo_seal_86 : decode b_Mo_seal 86 = .ok (.iload 4, 2) := by decide +kernel
theorem d_Mo_seal_88 : decode b_Mo_seal 88 = .ok (.imul, 1) := by decide +kernel
theorem d_Mo_seal_89 : decode b_Mo_seal 89 = .ok (.isub, 1) := by decide +kernel
theorem d_Mo_seal_90 : decode b_Mo_seal 90 = .ok (.ishr, 1) := by decide +kernel
theorem d_Mo_seal_91 : decode b_Mo_seal 91 = .ok (.sipush 255, 3) := by decide +kernel
theorem d_Mo_seal_94 : decode b_Mo_seal 94 = .ok (.iand, 1) := by decide +kernel
theorem d_Mo_seal_95 : decode b_Mo_seal 95 = .ok (.iastore, 1) := by decide +kernel
theorem d_Mo_seal_96 : decode b_Mo_seal 96 = .ok (.iinc 4 1, 3) := by decide +kernel
theorem d_Mo_seal_99 : decode b_Mo_seal 99 = .ok (.goto (-32), 3) := by decide +kernel
theorem d_Mo_seal_102 : decode b_Mo_seal 102 = .ok (.return_, 1) := by decide +kernel
theorem d_Mo_writePackets_0 : decode b_Mo_writePackets 0 = .ok (.iconst 0, 1) := by decide +kernel
theorem d_Mo_writePackets_1 : decode b_Mo_writePackets 1 = .ok (.istore_n 2, 1) := by decide +kernel
theorem d_Mo_writePackets_2 : decode b_Mo_writePackets 2 = .ok (.iload_n 2, 1) := by decide +kernel
theorem d_Mo_writePackets_3 : decode b_Mo_writePackets 3 = .ok (.aload_n 0, 1) := by decide +kernel
theorem d_Mo_writePackets_4 : decode b_Mo_writePackets 4 = .ok (.getfield 280, 3) := by decide +kernel
theorem d_Mo_writePackets_7 : decode b_Mo_writePackets 7 = .ok (.if_icmp .ge 256, 3) := by decide +kernel
theorem d_Mo_writePackets_10 : decode b_Mo_writePackets 10 = .ok (.aload_n 0, 1) := by decide +kernel
theorem d_Mo_writePackets_11 : decode b_Mo_writePackets 11 = .ok (.getfield 280, 3) := by decide +kernel
theorem d_Mo_writePackets_14 : decode b_Mo_writePackets 14 = .ok (.iload_n 2, 1) := by decide +kernel
theorem d_Mo_writePackets_15 : decode b_Mo_writePackets 15 = .ok (.isub, 1) := by decide +kernel
theorem d_Mo_writePackets_16 : decode b_Mo_writePackets 16 = .ok (.sipush 184, 3) := by decide +kernel
theorem d_Mo_writePackets_19 : decode b_Mo_writePackets 19 = .ok (.if_icmp .ge 12, 3) := by decide +kernel
theorem d_Mo_writePackets_22 : decode b_Mo_writePackets 22 = .ok (.aload_n 0, 1) := by decide +kernel
theorem d_Mo_writePackets_23 : decode b_Mo_writePackets 23 = .ok (.getfield 280, 3) := by decide +kernel
theorem d_Mo_writePackets_26 : decode b_Mo_writePackets 26 = .ok (.iload_n 2, 1) := by decide +kernel
theorem d_Mo_writePackets_27 : decode b_Mo_writePackets 27 = .ok (.isub, 1) := by decide +kernel
theorem d_Mo_writePackets_28 : decode b_Mo_writePackets 28 = .ok (.goto 6, 3) := by decide +kernel
theorem d_Mo_writePackets_31 : decode b_Mo_writePackets 31 = .ok (.sipush 184, 3) := by decide +kernel
theorem d_Mo_writePackets_34 : decode b_Mo_writePackets 34 = .ok (.istore_n 3, 1) := by decide +kernel
theorem d_Mo_writePackets_35 : decode b_Mo_writePackets 35 = .ok (.sipush 184, 3) := by decide +kernel
theorem d_Mo_writePackets_38 : decode b_Mo_writePackets 38 = .ok (.iload_n 3, 1) := by decide +kernel
theorem d_Mo_writePackets_39 : decode b_Mo_writePackets 39 = .ok (.isub, 1) := by decide +kernel
theorem d_Mo_writePackets_40 : decode b_Mo_writePackets 40 = .ok (.istore 4, 2) := by decide +kernel
theorem d_Mo_writePackets_42 : decode b_Mo_writePackets 42 = .ok (.aload_n 0, 1) := by decide +kernel
theorem d_Mo_writePackets_43 : decode b_Mo_writePackets 43 = .ok (.getfield 7, 3) := by decide +kernel
theorem d_Mo_writePackets_46 : decode b_Mo_writePackets 46 = .ok (.aload_n 0, 1) := by decide +kernel
theorem d_Mo_writePackets_47 : decode b_Mo_writePackets 47 = .ok (.getfield 159, 3) := by decide +kernel
theorem d_Mo_writePackets_50 : decode b_Mo_writePackets 50 = .ok (.bipush 71, 2) := by decide +kernel
theorem d_Mo_writePackets_52 : decode b_Mo_writePackets 52 = .ok (.iastore, 1) := by decide +kernel
theorem d_Mo_writePackets_53 : decode b_Mo_writePackets 53 = .ok (.aload_n 0, 1) := by decide +kernel
theorem d_Mo_writePackets_54 : decode b_Mo_writePackets 54 = .ok (.getfield 7, 3) := by decide +kernel
theorem d_Mo_writePackets_57 : decode b_Mo_writePackets 57 = .ok (.aload_n 0, 1) := by decide +kernel
theorem d_Mo_writePackets_58 : decode b_Mo_writePackets 58 = .ok (.getfield 159, 3) := by decide +kernel
theorem d_Mo_writePackets_61 : decode b_Mo_writePackets 61 = .ok (.iconst 1, 1) := by decide +kernel
theorem d_Mo_writePackets_62 : decode b_Mo_writePackets 62 = .ok (.iadd, 1) := by decide +kernel
theorem d_Mo_writePackets_63 : decode b_Mo_writePackets 63 = .ok (.iload_n 2, 1) := by decide +kernel
theorem d_Mo_writePackets_64 : decode b_Mo_writePackets 64 = .ok (.ifCond .ne 8, 3) := by decide +kernel
theorem d_Mo_writePackets_67 : decode b_Mo_writePackets 67 = .ok (.bipush 64, 2) := by decide +kernel
theorem d_Mo_writePackets_69 : decode b_Mo_writePackets 69 = .ok (.goto 4, 3) := by decide +kernel
theorem d_Mo_writePackets_72 : decode b_Mo_writePackets 72 = .ok (.iconst 0, 1) := by decide +kernel
theorem d_Mo_writePackets_73 : decode b_Mo_writePackets 73 = .ok (.iload_n 1, 1) := by decide +kernel
theorem d_Mo_writePackets_74 : decode b_Mo_writePackets 74 = .ok (.bipush 8, 2) := by decide +kernel
theorem d_Mo_writePackets_76 : decode b_Mo_writePackets 76 = .ok (.ishr, 1) := by decide +kernel
theorem d_Mo_writePackets_77 : decode b_Mo_writePackets 77 = .ok (.ior, 1) := by decide +kernel
theorem d_Mo_writePackets_78 : decode b_Mo_writePackets 78 = .ok (.iastore, 1) := by decide +kernel
theorem d_Mo_writePackets_79 : decode b_Mo_writePackets 79 = .ok (.aload_n 0, 1) := by decide +kernel
theorem d_Mo_writePackets_80 : decode b_Mo_writePackets 80 = .ok (.getfield 7, 3) := by decide +kernel
theorem d_Mo_writePackets_83 : decode b_Mo_writePackets 83 = .ok (.aload_n 0, 1) := by decide +kernel
theorem d_Mo_writePackets_84 : decode b_Mo_writePackets 84 = .ok (.getfield 159, 3) := by decide +kernel
theorem d_Mo_writePackets_87 : decode b_Mo_writePackets 87 = .ok (.iconst 2, 1) := by decide +kernel
theorem d_Mo_writePackets_88 : decode b_Mo_writePackets 88 = .ok (.iadd, 1) := by decide +kernel
theorem d_Mo_writePackets_89 : decode b_Mo_writePackets 89 = .ok (.iload_n 1, 1) := by decide +kernel
theorem d_Mo_writePackets_90 : decode b_Mo_writePackets 90 = .ok (.sipush 255, 3) := by decide +kernel
theorem d_Mo_writePackets_93 : decode b_Mo_writePackets 93 = .ok (.iand, 1) := by decide +kernel
theorem d_Mo_writePackets_94 : decode b_Mo_writePackets 94 = .ok (.iastore, 1) := by decide +kernel
theorem d_Mo_writePackets_95 : decode b_Mo_writePackets 95 = .ok (.aload_n 0, 1) := by decide +kernel
theorem d_Mo_writePackets_96 : decode b_Mo_writePackets 96 = .ok (.getfield 7, 3) := by decide +kernel
theorem d_Mo_writePackets_99 : decode b_Mo_writePackets 99 = .ok (.aload_n 0, 1) := by decide +kernel
theorem d_Mo_writePackets_100 : decode b_Mo_writePackets 100 = .ok (.getfield 159, 3) := by decide +kernel
theorem d_Mo_writePackets_103 : decode b_Mo_writePackets 103 = .ok (.iconst 3, 1) := by decide +kernel
theorem d_Mo_writePackets_104 : decode b_Mo_writePackets 104 = .ok (.iadd, 1) := by decide +kernel
theorem d_Mo_writePackets_105 : decode b_Mo_writePackets 105 = .ok (.iload 4, 2) := by decide +kernel
theorem d_Mo_writePackets_107 : decode b_Mo_writePackets 107 = .ok (.ifCond .le 8, 3) := by decide +kernel
theorem d_Mo_writePackets_110 : decode b_Mo_writePackets 110 = .ok (.bipush 48, 2) := by decide +kernel
theorem d_Mo_writePackets_112 : decode b_Mo_writePackets 112 = .ok (.goto 5, 3) := by decide +kernel
theorem d_Mo_writePackets_115 : decode b_Mo_writePackets 115 = .ok (.bipush 16, 2) := by decide +kernel
theorem d_Mo_writePackets_117 : decode b_Mo_writePackets 117 = .ok (.aload_n 0, 1) := by decide +kernel
theorem d_Mo_writePackets_118 : decode b_Mo_writePackets 118 = .ok (.getfield 148, 3) := by decide +kernel
theorem d_Mo_writePackets_121 : decode b_Mo_writePackets 121 = .ok (.iload_n 1, 1) := by decide +kernel
theorem d_Mo_writePackets_122 : decode b_Mo_writePackets 122 = .ok (.iaload, 1) := by decide +kernel
theorem d_Mo_writePackets_123 : decode b_Mo_writePackets 123 = .ok (.bipush 16, 2) := by decide +kernel
theorem d_Mo_writePackets_125 : decode b_Mo_writePackets 125 = .ok (.irem, 1) := by decide +kernel
theorem d_Mo_writePackets_126 : decode b_Mo_writePackets 126 = .ok (.ior, 1) := by decide +kernel
theorem d_Mo_writePackets_127 : decode b_Mo_writePackets 127 = .ok (.iastore, 1) := by decide +kernel
theorem d_Mo_writePackets_128 : decode b_Mo_writePackets 128 = .ok (.aload_n 0, 1) := by decide +kernel
theorem d_Mo_writePackets_129 : decode b_Mo_writePackets 129 = .ok (.getfield 148, 3) := by decide +kernel
theorem d_Mo_writePackets_132 : decode b_Mo_writePackets 132 = .ok (.iload_n 1, 1) := by decide +kernel
theorem d_Mo_writePackets_133 : decode b_Mo_writePackets 133 = .ok (.dup2, 1) := by decide +kernel
theorem d_Mo_writePackets_134 : decode b_Mo_writePackets 134 = .ok (.iaload, 1) := by decide +kernel
theorem d_Mo_writePackets_135 : decode b_Mo_writePackets 135 = .ok (.iconst 1, 1) := by decide +kernel
theorem d_Mo_writePackets_136 : decode b_Mo_writePackets 136 = .ok (.iadd, 1) := by decide +kernel
theorem d_Mo_writePackets_137 : decode b_Mo_writePackets 137 = .ok (.iastore, 1) := by decide +kernel
theorem d_Mo_writePackets_138 : decode b_Mo_writePackets 138 = .ok (.iload 4, 2) := by decide +kernel
theorem d_Mo_writePackets_140 : decode b_Mo_writePackets 140 = .ok (.ifCond .le 18, 3) := by decide +kernel
theorem d_Mo_writePackets_143 : decode b_Mo_writePackets 143 = .ok (.aload_n 0, 1) := by decide +kernel
theorem d_Mo_writePackets_144 : decode b_Mo_writePackets 144 = .ok (.getfield 7, 3) := by decide +kernel
theorem d_Mo_writePackets_147 : decode b_Mo_writePackets 147 = .ok (.aload_n 0, 1) := by decide +kernel
theorem d_Mo_writePackets_148 : decode b_Mo_writePackets 148 = .ok (.getfield 159, 3) := by decide +kernel
theorem d_Mo_writePackets_151 : decode b_Mo_writePackets 151 = .ok (.iconst 4, 1) := by decide +kernel
theorem d_Mo_writePackets_152 : decode b_Mo_writePackets 152 = .ok (.iadd, 1) := by decide +kernel
theorem d_Mo_writePackets_153 : decode b_Mo_writePackets 153 = .ok (.iload 4, 2) := by decide +kernel
theorem d_Mo_writePackets_155 : decode b_Mo_writePackets 155 = .ok (.iconst 1, 1) := by decide +kernel
theorem d_Mo_writePackets_156 : decode b_Mo_writePackets 156 = .ok (.isub, 1) := by decide +kernel
theorem d_Mo_writePackets_157 : decode b_Mo_writePackets 157 = .ok (.iastore, 1) := by decide +kernel
theorem d_Mo_writePackets_158 : decode b_Mo_writePackets 158 = .ok (.iconst 1, 1) := by decide +kernel
theorem d_Mo_writePackets_159 : decode b_Mo_writePackets 159 = .ok (.istore 5, 2) := by decide +kernel
theorem d_Mo_writePackets_161 : decode b_Mo_writePackets 161 = .ok (.iload 5, 2) := by decide +kernel
theorem d_Mo_writePackets_163 : decode b_Mo_writePackets 163 = .ok (.iload 4, 2) := by decide +kernel
theorem d_Mo_writePackets_165 : decode b_Mo_writePackets 165 = .ok (.if_icmp .ge 36, 3) := by decide +kernel
theorem d_Mo_writePackets_168 : decode b_Mo_writePackets 168 = .ok (.aload_n 0, 1) := by decide +kernel
theorem d_Mo_writePackets_169 : decode b_Mo_writePackets 169 = .ok (.getfield 7, 3) := by decide +kernel
theorem d_Mo_writePackets_172 : decode b_Mo_writePackets 172 = .ok (.aload_n 0, 1) := by decide +kernel
theorem d_Mo_writePackets_173 : decode b_Mo_writePackets 173 = .ok (.getfield 159, 3) := by decide +kernel
theorem d_Mo_writePackets_176 : decode b_Mo_writePackets 176 = .ok (.iconst 4, 1) := by decide +kernel
theorem d_Mo_writePackets_177 : decode b_Mo_writePackets 177 = .ok (.iadd, 1) := by decide +kernel
theorem d_Mo_writePackets_178 : decode b_Mo_writePackets 178 = .ok (.iload 5, 2) := by decide +kernel
theorem d_Mo_writePackets_180 : decode b_Mo_writePackets 180 = .ok (.iadd, 1) := by decide +kernel
theorem d_Mo_writePackets_181 : decode b_Mo_writePackets 181 = .ok (.iload 5, 2) := by decide +kernel
theorem d_Mo_writePackets_183 : decode b_Mo_writePackets 183 = .ok (.iconst 1, 1) := by decide +kernel
theorem d_Mo_writePackets_184 : decode b_Mo_writePackets 184 = .ok (.if_icmp .ne 7, 3) := by decide +kernel
theorem d_Mo_writePackets_187 : decode b_Mo_writePackets 187 = .ok (.iconst 0, 1) := by decide +kernel
theorem d_Mo_writePackets_188 : decode b_Mo_writePackets 188 = .ok (.goto 6, 3) := by decide +kernel
theorem d_Mo_writePackets_191 : decode b_Mo_writePackets 191 = .ok (.sipush 255, 3) := by decide +kernel
theorem d_Mo_writePackets_194 : decode b_Mo_writePackets 194 = .ok (.iastore, 1) := by decide +kernel
theorem d_Mo_writePackets_195 : decode b_Mo_writePackets 195 = .ok (.iinc 5 1, 3) := by decide +kernel
theorem d_Mo_writePackets_198 : decode b_Mo_writePackets 198 = .ok (.goto (-37), 3) := by decide +kernel
theorem d_Mo_writePackets_201 : decode b_Mo_writePackets 201 = .ok (.iconst 0, 1) := by decide +kernel
theorem d_Mo_writePackets_202 : decode b_Mo_writePackets 202 = .ok (.istore 5, 2) := by decide +kernel
theorem d_Mo_writePackets_204 : decode b_Mo_writePackets 204 = .ok (.iload 5, 2) := by decide +kernel
theorem d_Mo_writePackets_206 : decode b_Mo_writePackets 206 = .ok (.iload_n 3, 1) := by decide +kernel
theorem d_Mo_writePackets_207 : decode b_Mo_writePackets 207 = .ok (.if_icmp .ge 35, 3) := by decide +kernel
theorem d_Mo_writePackets_210 : decode b_Mo_writePackets 210 = .ok (.aload_n 0, 1) := by decide +kernel
theorem d_Mo_writePackets_211 : decode b_Mo_writePackets 211 = .ok (.getfield 7, 3) := by decide +kernel
theorem d_Mo_writePackets_214 : decode b_Mo_writePackets 214 = .ok (.aload_n 0, 1) := by decide +kernel
theorem d_Mo_writePackets_215 : decode b_Mo_writePackets 215 = .ok (.getfield 159, 3) := by decide +kernel
theorem d_Mo_writePackets_218 : decode b_Mo_writePackets 218 = .ok (.iconst 4, 1) := by decide +kernel
theorem d_Mo_writePackets_219 : decode b_Mo_writePackets 219 = .ok (.iadd, 1) := by decide +kernel
theorem d_Mo_writePackets_220 : decode b_Mo_writePackets 220 = .ok (.iload 4, 2) := by decide +kernel
theorem d_Mo_writePackets_222 : decode b_Mo_writePackets 222 = .ok (.iadd, 1) := by decide +kernel
theorem d_Mo_writePackets_223 : decode b_Mo_writePackets 223 = .ok (.iload 5, 2) := by decide +kernel
theorem d_Mo_writePackets_225 : decode b_Mo_writePackets 225 = .ok (.iadd, 1) := by decide +kernel
theorem d_Mo_writePackets_226 : decode b_Mo_writePackets 226 = .ok (.aload_n 0, 1) := by decide +kernel
theorem d_Mo_writePackets_227 : decode b_Mo_writePackets 227 = .ok (.getfield 151, 3) := by decide +kernel
theorem d_Mo_writePackets_230 : decode b_Mo_writePackets 230 = .ok (.iload_n 2, 1) := by decide +kernel
theorem d_Mo_writePackets_231 : decode b_Mo_writePackets 231 = .ok (.iload 5, 2) := by decide +kernel
theorem d_Mo_writePackets_233 : decode b_Mo_writePackets 233 = .ok (.iadd, 1) := by decide +kernel
theorem d_Mo_writePackets_234 : decode b_Mo_writePackets 234 = .ok (.iaload, 1) := by decide +kernel
theorem d_Mo_writePackets_235 : decode b_Mo_writePackets 235 = .ok (.iastore, 1) := by decide +kernel
theorem d_Mo_writePackets_236 : decode b_Mo_writePackets 236 = .ok (.iinc 5 1, 3) := by decide +kernel
theorem d_Mo_writePackets_239 : decode b_Mo_writePackets 239 = .ok (.goto (-35), 3) := by decide +kernel
theorem d_Mo_writePackets_242 : decode b_Mo_writePackets 242 = .ok (.aload_n 0, 1) := by decide +kernel
theorem d_Mo_writePackets_243 : decode b_Mo_writePackets 243 = .ok (.aload_n 0, 1) := by decide +kernel
theorem d_Mo_writePackets_244 : decode b_Mo_writePackets 244 = .ok (.getfield 159, 3) := by decide +kernel
theorem d_Mo_writePackets_247 : decode b_Mo_writePackets 247 = .ok (.sipush 188, 3) := by decide +kernel
theorem d_Mo_writePackets_250 : decode b_Mo_writePackets 250 = .ok (.iadd, 1) := by decide +kernel
theorem d_Mo_writePackets_251 : decode b_Mo_writePackets 251 = .ok (.putfield 159, 3) := by decide +kernel
theorem d_Mo_writePackets_254 : decode b_Mo_writePackets 254 = .ok (.iinc 2 184, 6) := by decide +kernel
theorem d_Mo_writePackets_260 : decode b_Mo_writePackets 260 = .ok (.goto (-258), 3) := by decide +kernel
theorem d_Mo_writePackets_263 : decode b_Mo_writePackets 263 = .ok (.return_, 1) := by decide +kernel
/-! The reference writes packets -/
theorem rl_at {f : Nat → Int32} {L : List Int32} {x : Int32} {k : Nat} (h : rl f L) (hk : k = L.length) : rl (upd f k x) (L ++ [x]) := by
  subst hk
  exact rl_snoc h
theorem mw_same {f : Nat → Int32} {k : Nat} {v : Int32} (h : f k = v) : upd f k v = f := by
  funext i
  by_cases c : i = k
  · subst c; rw [pk_us, h]
  · rw [pk_un c]
theorem mw_uu {f : Nat → Int32} {k : Nat} {v w : Int32} : upd (upd f k v) k w = upd f k w := by
  funext i
  by_cases c : i = k
  · subst c; rw [pk_us, pk_us]
  · rw [pk_un c, pk_un c, pk_un c]
theorem mw_hd {g : Nat → Int32} {X : List Int32} {a b c : Int32} (hg : rl g X) : rl (upd (upd (upd (upd g X.length 71) (X.length + 1) a) (X.length + 2) b) (X.length + 3) c) (X ++ [71, a, b, c]) := by
  have h := rl_at (x := c) (k := X.length + 3) (rl_at (x := b) (k := X.length + 2) (rl_at (x := a) (k := X.length + 1) (rl_at (x := 71) hg rfl) (by simp)) (by simp)) (by simp)
  simpa using h
theorem mw_i0 {X H9 : List Int32} {nn : Nat} (h : ¬ nn < 184) : X ++ H9 = X ++ (H9 ++ (stL (184 - nn)).take 1) := by
  rw [show 184 - nn = 0 by omega]
  simp [stL]
theorem mw_i1 {X H9 : List Int32} {nn : Nat} (h : nn < 184) : (X ++ H9) ++ [nI (184 - nn - 1)] = X ++ (H9 ++ (stL (184 - nn)).take 1) := by
  rw [st_take (less := 184 - nn) (k := 0) (by omega)]
  simp
theorem mw_st {X Y H9 : List Int32} {n k : Nat} (hY : Y = X ++ (H9 ++ (stL n).take k)) (h : k < n) (h1 : 1 ≤ k) : Y ++ [if k = 1 then 0 else 255] = X ++ (H9 ++ (stL n).take (k + 1)) := by
  rw [st_take h, hY, if_neg (show ¬ k = 0 by omega)]
  simp
theorem mw_len {X Y : List Int32} {pid w nn n k : Nat} {b : Bool} (hY : Y = X ++ (hd4 pid b w nn ++ (stL n).take k)) (h : k ≤ n) : X.length + 4 + k = Y.length := by
  rw [hY]
  simp [hd4, st_len]
  omega
theorem mw_p0 {X Y P : List Int32} {pid w nn k : Nat} {b : Bool} (hY : Y = X ++ (hd4 pid b w nn ++ (stL (184 - nn)).take k)) (h : 184 - nn ≤ k) : Y = X ++ (hdL pid b w nn ++ P.take 0) := by
  rw [hY, List.take_of_length_le (by rw [st_len]; exact h), hdL, List.take_zero, List.append_nil]
theorem mw_pl {X Y P : List Int32} {pid w nn k : Nat} {b : Bool} (hY : Y = X ++ (hdL pid b w nn ++ P.take k)) (hk : k ≤ P.length) : X.length + 4 + (184 - nn) + k = Y.length := by
  rw [hY, List.length_append, List.length_append, hd_len, List.length_take, Nat.min_eq_left hk]
  omega
theorem mw_pp {X Y P : List Int32} {pid w nn k : Nat} {b : Bool} (hY : Y = X ++ (hdL pid b w nn ++ P.take k)) (hk : k < P.length) : Y ++ [P.getD k 0] = X ++ (hdL pid b w nn ++ P.take (k + 1)) := by
  have e : P.take (k + 1) = P.take k ++ [P.getD k 0] := by
    rw [List.take_succ]
    congr 1
    simp [List.getD, List.getElem?_eq_getElem hk]
  rw [e, hY]
  simp
theorem mw_at {L P : List Int32} {j nn k : Nat} (hp : P = (L.drop (184 * j)).take nn) (hk : k < nn) : L.getD (184 * j + k) 0 = P.getD k 0 := by
  subst hp
  simp only [List.getD]
  rw [List.getElem?_take, if_pos hk, List.getElem?_drop]
theorem pp_in2 (pid w0 tot : Nat) : ∀ (xs : List Int32) (i : Nat), i % 184 ≠ 0 → i % 184 + xs.length ≤ 184 → ppL pid w0 tot i xs = xs
  | [], _, _, _ => rfl
  | x :: xs, i, h, h2 => by
    rw [List.length_cons] at h2
    simp only [ppL, if_neg h, List.nil_append]
    congr 1
    cases xs with
    | nil => rfl
    | cons y ys =>
      rw [List.length_cons] at h2
      exact pp_in2 pid w0 tot (y :: ys) (i + 1) (by omega) (by rw [List.length_cons]; omega)
theorem mw_step {T X Y L P : List Int32} {pid w0 nn k j : Nat} (hX : X = T ++ ppL pid w0 L.length 0 (L.take (184 * j))) (h : 184 * j < L.length) (hnn : nn = min 184 (L.length - 184 * j)) (hp : P = (L.drop (184 * j)).take nn) (hY : Y = X ++ (hdL pid (decide (184 * j = 0)) (w0 + j) nn ++ P.take k)) (hk : k = nn) : Y = T ++ ppL pid w0 L.length 0 (L.take (184 * (j + 1))) := by
  have hPl : P.length = nn := by rw [hp, List.length_take, List.length_drop]; omega
  have e1 : L.take (184 * (j + 1)) = L.take (184 * j) ++ P := by
    rw [show 184 * (j + 1) = 184 * j + 184 by omega, List.take_add, hp]
    congr 1
    by_cases c : nn = 184
    · rw [c]
    · rw [List.take_of_length_le (by rw [List.length_drop]; omega), List.take_of_length_le (by rw [List.length_drop]; omega)]
  have e2 : (L.take (184 * j)).length = 184 * j := by rw [List.length_take]; omega
  have e3 : ppL pid w0 L.length (184 * j) P = hdL pid (decide (184 * j = 0)) (w0 + j) nn ++ P := by
    cases P with
    | nil => simp at hPl; omega
    | cons x xs =>
      rw [List.length_cons] at hPl
      simp only [ppL]
      rw [if_pos (by omega), pp_in2 pid w0 L.length xs _ (by omega) (by omega), ← hnn, show 184 * j / 184 = j by omega]
  rw [e1, pp_app, e2, Nat.zero_add, e3, ← List.append_assoc, ← hX, hY, List.take_of_length_le (by omega)]
/-! seal and bitsOf -/
def mk_c (f : Nat → Int32) (k : Nat) : Nat → Int32
  | 0 => -1
  | j + 1 => ck_m (f (k + j)) (mk_c f k j) 8
def ms_b (x : Int32) (j : Nat) : Int32 := (x >>> ((24 - 8 * nI j) &&& 31)) &&& 255
def ms_f (f : Nat → Int32) (k : Nat) (x : Int32) : Nat → Nat → Int32
  | 0 => f
  | j + 1 => upd (ms_f f k x j) (k + j) (ms_b x j)
theorem sl_in {i c : Int32} {n : Nat} (hn : n ≤ 9400) (h2 : ¬ i < 0) (h7 : ¬ c < i) (h17 : c ≤ nI n - 4) : ∃ k m : Nat, i = nI k ∧ c = nI m ∧ k ≤ m ∧ m + 4 ≤ n := by
  have a1 := Int32.le_iff_toInt_le.mp (Int32.not_lt.mp h2)
  have a2 := Int32.le_iff_toInt_le.mp (Int32.not_lt.mp h7)
  have a3 := Int32.le_iff_toInt_le.mp h17
  have e4 : (nI n - 4).toInt = (n : Int) - 4 := pk_sub_toInt (a := n) (b := 4) (by omega) (by omega)
  rw [e4] at a3
  have a0 : (0 : Int32).toInt = 0 := rfl
  rw [a0] at a1
  have f : ∀ x : Int32, 0 ≤ x.toInt → x.toInt ≤ 9400 → x = nI x.toInt.toNat := by
    intro x h0 h9
    apply Int32.toInt_inj.mp
    show x.toInt = (Int32.ofNat x.toInt.toNat).toInt
    rw [Int32.toInt_ofNat_of_lt (by omega)]
    omega
  exact ⟨i.toInt.toNat, c.toInt.toNat, f i a1 (by omega), f c (by omega) (by omega), by omega, by omega⟩
def mb_b (f : Nat → Int32) (k : Nat) : Int64 := ((f (k / 8) >>> ((7 - nI (k % 8)) &&& 31)) &&& 1).toInt64
def mb_l (f : Nat → Int32) (k : Nat) : Nat → Int64
  | 0 => 0
  | j + 1 => 2 * mb_l f k j + mb_b f (k + j)

set_option maxHeartbeats 4000000 in
set_option maxRecDepth 100000 in
theorem c_Mo_writePackets (l : Launch) (D : va_G) (sz : Nat) (cI : ClassId) (h : Nat) (r : Nat → Nat) (th le lv pg pn pl : Int32) (L : List Int32) (ro : Nat → Int32) (T : List Int32) (tp : Nat → Int32) (w0 pid : Nat) (wr : Nat → Int32) (hro : rl ro L) (hL : L.length ≤ 4200) (htp : rl tp T) (hT : T.length + 188 * ((L.length + 183) / 184) ≤ 9400) (hpid : pid < 8192) (hw : wr pid = nI w0) (hw0 : w0 < 2 ^ 29) : Met l y_Mo_writePackets [Cond.code y_Mo_writePackets b_Mo_writePackets 6 none] ({ frames := 0, cells := 0, slots := 0, locals := 0 }) (zM [.ref h, .int (nI pid)] D [(h, .inr (13, mO r th (nI T.length) le lv pg pn pl (nI L.length))), (r 1, .inl (cI, 9400, .inl tp)), (r 51, .inl (cI, 8192, .inl wr)), (r 52, .inl (cI, 4200, .inl ro))] [(cI, .int)] sz) (va_Qv (fun (u : Nat → Int32) => rl u (T ++ ppL pid w0 L.length 0 L)) (fun (u : Nat → Int32) t => zW D (va_A [(h, .inr (13, mO r th (nI T.length) le lv pg pn pl (nI L.length))), (r 1, .inl (cI, 9400, .inl tp)), (r 51, .inl (cI, 8192, .inl wr)), (r 52, .inl (cI, 4200, .inl ro))] sz) [(h, .inr (13, mO r th (nI (T ++ ppL pid w0 L.length 0 L).length) le lv pg pn pl (nI L.length))), (r 1, .inl (cI, 9400, .inl u)), (r 51, .inl (cI, 8192, .inl (upd wr pid (nI (w0 + (L.length + 183) / 184))))), (r 52, .inl (cI, 4200, .inl ro))] [(cI, .int)] t) (va_A [(h, .inr (13, mO r th (nI T.length) le lv pg pn pl (nI L.length))), (r 1, .inl (cI, 9400, .inl tp)), (r 51, .inl (cI, 8192, .inl wr)), (r 52, .inl (cI, 4200, .inl ro))] sz)) 0 0 (va_A [(h, .inr (13, mO r th (nI T.length) le lv pg pn pl (nI L.length))), (r 1, .inl (cI, 9400, .inl tp)), (r 51, .inl (cI, 8192, .inl wr)), (r 52, .inl (cI, 4200, .inl ro))] sz) := by
  refine Met.ofW (cc := b_Mo_writePackets) (maxL := 6) (ret := none) (by decide) rfl ?_
  intro p e s m args below meth cd s₁ Bd hml hv
  obtain ⟨rfl, hsz, hP, hK, hN, hD0⟩ := hv
  have hx := Bd.exec
  have hb := Bd.bytes
  have hr := Bd.returns
  have hts := hN.use (a := ([.ref h, .int (nI pid)]).toArray)
  have hown : s.vm.findClass R_Mo = some m.cls := findClass_of_methodNamed Bd.named
  have hlocks := Bd.notSynchronized
  subst hsz
  have hD := hD0.self (sz := s.heap.size)
  clear hD0
  have hA : ∀ q : Nat, s.heap.size ≤ q → va_A [(h, .inr (13, mO r th (nI T.length) le lv pg pn pl (nI L.length))), (r 1, .inl (cI, 9400, .inl tp)), (r 51, .inl (cI, 8192, .inl wr)), (r 52, .inl (cI, 4200, .inl ro))] s.heap.size q := fun q h => Or.inr h
  have hS : va_S (va_A [(h, .inr (13, mO r th (nI T.length) le lv pg pn pl (nI L.length))), (r 1, .inl (cI, 9400, .inl tp)), (r 51, .inl (cI, 8192, .inl wr)), (r 52, .inl (cI, 4200, .inl ro))] s.heap.size) s.heap s.heap [] := va_S.rf
  generalize hAe : va_A [(h, .inr (13, mO r th (nI T.length) le lv pg pn pl (nI L.length))), (r 1, .inl (cI, 9400, .inl tp)), (r 51, .inl (cI, 8192, .inl wr)), (r 52, .inl (cI, 4200, .inl ro))] s.heap.size = A at hD hA hS ⊢
  have hP : va_P D classes [(h, .inr (13, mO r th (nI T.length) le lv pg pn pl (nI L.length))), (r 1, .inl (cI, 9400, .inl tp)), (r 51, .inl (cI, 8192, .inl wr)), (r 52, .inl (cI, 4200, .inl ro))] s.heap := hP
  have hl := lv_entry ([.ref h, .int (nI pid)]) (n := 6) (Nat.le_of_ble_eq_true rfl)
  rw [lg_entry_eq]
  generalize (lg_sl ([.ref h, .int (nI pid)]) ++ List.replicate (6 - (lg_sl ([.ref h, .int (nI pid)])).length) Slot.unset).toArray = ls at hl ⊢
  have hl : lv_has ls 6 [(0, .ref h), (1, .int (nI pid))] := hl
  refine lv_iconst (v := 0) hx hb d_Mo_writePackets_0 (by decide) ?_
  refine lv_istore_n (lv' := [(2, .int 0), (0, .ref h), (1, .int (nI pid))]) hx hb d_Mo_writePackets_1 rfl hl (by decide) rfl (fun ls hl => ?_)
  have loop2 : ∀ (N : Nat) (j : Nat) (X : List Int32) (g : Nat → Int32) (H : Heap) (locs : List Loc) (ls : Array Slot) (hm : L.length + 184 - 184 * j < N) (hj : 184 * j < L.length + 184) (hX : X = T ++ ppL pid w0 L.length 0 (L.take (184 * j))) (hXl : X.length = T.length + 188 * j) (hg : rl g X) (hl : lv_has ls 6 [(0, .ref h), (1, .int (nI pid)), (2, .int (nI (184 * j)))]) (hP : va_P D classes [(h, .inr (13, mO r th (nI X.length) le lv pg pn pl (nI L.length))), (r 1, .inl (cI, 9400, .inl g)), (r 51, .inl (cI, 8192, .inl (upd wr pid (nI (w0 + j))))), (r 52, .inl (cI, 4200, .inl ro))] H) (hD : va_D A [(h, .inr (13, mO r th (nI X.length) le lv pg pn pl (nI L.length))), (r 1, .inl (cI, 9400, .inl g)), (r 51, .inl (cI, 8192, .inl (upd wr pid (nI (w0 + j))))), (r 52, .inl (cI, 4200, .inl ro))]) (hS : va_S A s.heap H locs), W p l e ({ frames := 0, cells := 0, slots := 0, locals := 0 }) s m ([.ref h, .int (nI pid)]).toArray below meth cd H locs 0 0 (MQ below (va_Qv (fun (u : Nat → Int32) => rl u (T ++ ppL pid w0 L.length 0 L)) (fun (u : Nat → Int32) t => zW D (A) [(h, .inr (13, mO r th (nI (T ++ ppL pid w0 L.length 0 L).length) le lv pg pn pl (nI L.length))), (r 1, .inl (cI, 9400, .inl u)), (r 51, .inl (cI, 8192, .inl (upd wr pid (nI (w0 + (L.length + 183) / 184))))), (r 52, .inl (cI, 4200, .inl ro))] [(cI, .int)] t) (A)) ([.ref h, .int (nI pid)]).toArray s 0 0 (A)) (F0 m 2 ls []) := by
    intro N2
    induction N2 with
    | zero => intro j X g H locs ls hm hj hX hXl hg hl hP hD hS; exact absurd hm (Nat.not_lt_zero _)
    | succ N2 ih2 =>
      intro j X g H locs ls hm hj hX hXl hg hl hP hD hS
      refine lv_iload_n hx hb d_Mo_writePackets_2 rfl (lv_at hl 2 rfl) ?_
      refine lv_aload_n hx hb d_Mo_writePackets_3 rfl (lv_at hl 0 rfl) ?_
      refine va_get (D := D) (ci := 13) (v := .int (nI L.length)) (C := R_Mo) (T := F_Mo) (N := 54) hx hb hts i_Mo hown hK hP 0 rfl rfl 53 (by decide) (hts _ wd_1141) (fun _ h9 => h9) rfl d_Mo_writePackets_4 ?_
      refine lv_icmp_ge (tgt := 263) hx hb d_Mo_writePackets_7 rfl (fun h7 => ?_) (fun h7 => ?_)
      · have h7 : L.length ≤ 184 * j := (nI_leI (by omega) (by omega)).mp h7
        have eX : X = (T ++ ppL pid w0 L.length 0 L) := by rw [hX, List.take_of_length_le h7]
        have ej : j = (L.length + 183) / 184 := by omega
        rw [eX, ej] at hP hD
        have hP9 := hP.sub (ws' := [(h, .inr (13, mO r th (nI (T ++ ppL pid w0 L.length 0 L).length) le lv pg pn pl (nI L.length))), (r 1, .inl (cI, 9400, .inl g)), (r 51, .inl (cI, 8192, .inl (upd wr pid (nI (w0 + (L.length + 183) / 184))))), (r 52, .inl (cI, 4200, .inl ro))]) [0, 1, 2, 3] rfl
        have hD9 := hD.sub (ws' := [(h, .inr (13, mO r th (nI (T ++ ppL pid w0 L.length 0 L).length) le lv pg pn pl (nI L.length))), (r 1, .inl (cI, 9400, .inl g)), (r 51, .inl (cI, 8192, .inl (upd wr pid (nI (w0 + (L.length + 183) / 184))))), (r 52, .inl (cI, 4200, .inl ro))]) [0, 1, 2, 3] (by decide) rfl
        have hK9 := hK.sub (tys' := [(cI, .int)]) [0] rfl
        exact W.vret hx hb hr (fun t ht hW => ⟨⟨g, rfl, (by dsimp only; rw [← eX]; exact hg), ⟨by rw [ht]; exact hP9, va_K.moved hW.alike hK9, hD9⟩⟩, hS.F ht⟩) hS.2.2 d_Mo_writePackets_263
      · have h7 : 184 * j < L.length := by have := mt (nI_leI (by omega) (by omega)).mpr h7; omega
        obtain ⟨nn, hnn⟩ : ∃ nn, nn = min 184 (L.length - 184 * j) := ⟨_, rfl⟩
        obtain ⟨P, hpp⟩ : ∃ P, P = (L.drop (184 * j)).take nn := ⟨_, rfl⟩
        have hpl : P.length = nn := by rw [hpp, List.length_take, List.length_drop]; omega
        refine lv_aload_n hx hb d_Mo_writePackets_10 rfl (lv_at hl 0 rfl) ?_
        refine va_get (D := D) (ci := 13) (v := .int (nI L.length)) (C := R_Mo) (T := F_Mo) (N := 54) hx hb hts i_Mo hown hK hP 0 rfl rfl 53 (by decide) (hts _ wd_1141) (fun _ h9 => h9) rfl d_Mo_writePackets_11 ?_
        refine lv_iload_n hx hb d_Mo_writePackets_14 rfl (lv_at hl 2 rfl) ?_
        refine lv_isub hx hb d_Mo_writePackets_15 ?_
        refine z_topi (w := nI (L.length - 184 * j)) (pk_sub (by omega)) ?_
        refine lv_sipush (v := 184) hx hb d_Mo_writePackets_16 (by decide) ?_
        suffices key19 : W p l e ({ frames := 0, cells := 0, slots := 0, locals := 0 }) s m ([.ref h, .int (nI pid)]).toArray below meth cd H locs 0 0 (MQ below (va_Qv (fun (u : Nat → Int32) => rl u (T ++ ppL pid w0 L.length 0 L)) (fun (u : Nat → Int32) t => zW D (A) [(h, .inr (13, mO r th (nI (T ++ ppL pid w0 L.length 0 L).length) le lv pg pn pl (nI L.length))), (r 1, .inl (cI, 9400, .inl u)), (r 51, .inl (cI, 8192, .inl (upd wr pid (nI (w0 + (L.length + 183) / 184))))), (r 52, .inl (cI, 4200, .inl ro))] [(cI, .int)] t) (A)) ([.ref h, .int (nI pid)]).toArray s 0 0 (A)) (F0 m 34 ls [.int (nI nn)]) by
          refine lv_icmp_ge (tgt := 31) hx hb d_Mo_writePackets_19 rfl (fun h19 => ?_) (fun h19 => ?_)
          · refine lv_sipush (v := 184) hx hb d_Mo_writePackets_31 (by decide) ?_
            refine z_topi (w := (nI nn)) (by rw [hnn, Nat.min_eq_left ((nI_leI (a := 184) (by omega) (by omega)).mp h19)]; rfl) ?_
            exact key19
          · refine lv_aload_n hx hb d_Mo_writePackets_22 rfl (lv_at hl 0 rfl) ?_
            refine va_get (D := D) (ci := 13) (v := .int (nI L.length)) (C := R_Mo) (T := F_Mo) (N := 54) hx hb hts i_Mo hown hK hP 0 rfl rfl 53 (by decide) (hts _ wd_1141) (fun _ h9 => h9) rfl d_Mo_writePackets_23 ?_
            refine lv_iload_n hx hb d_Mo_writePackets_26 rfl (lv_at hl 2 rfl) ?_
            refine lv_isub hx hb d_Mo_writePackets_27 ?_
            refine z_topi (w := nI (L.length - 184 * j)) (pk_sub (by omega)) ?_
            refine lv_goto (tgt := 34) hx hb d_Mo_writePackets_28 rfl ?_
            refine z_topi (w := (nI nn)) (by rw [hnn, Nat.min_eq_right (by have := mt (nI_leI (a := 184) (b := L.length - 184 * j) (by omega) (by omega)).mpr h19; omega)]) ?_
            exact key19
        refine lv_istore_n (lv' := [(3, .int (nI nn)), (0, .ref h), (1, .int (nI pid)), (2, .int (nI (184 * j)))]) hx hb d_Mo_writePackets_34 rfl hl (by decide) rfl (fun ls hl => ?_)
        refine lv_sipush (v := 184) hx hb d_Mo_writePackets_35 (by decide) ?_
        refine lv_iload_n hx hb d_Mo_writePackets_38 rfl (lv_at hl 0 rfl) ?_
        refine lv_isub hx hb d_Mo_writePackets_39 ?_
        refine z_topi (w := nI (184 - nn)) (pk_sub (a := 184) (by omega)) ?_
        refine lv_istore (lv' := [(4, .int (nI (184 - nn))), (3, .int (nI nn)), (0, .ref h), (1, .int (nI pid)), (2, .int (nI (184 * j)))]) hx hb d_Mo_writePackets_40 hl (by decide) rfl (fun ls hl => ?_)
        refine lv_aload_n hx hb d_Mo_writePackets_42 rfl (lv_at hl 2 rfl) ?_
        refine va_get (D := D) (ci := 13) (v := .ref (r 1)) (C := R_Mo) (T := F_Mo) (N := 54) hx hb hts i_Mo hown hK hP 0 rfl rfl 1 (by decide) (hts _ wd_1089) (fun _ h9 => h9) rfl d_Mo_writePackets_43 ?_
        refine lv_aload_n hx hb d_Mo_writePackets_46 rfl (lv_at hl 2 rfl) ?_
        refine va_get (D := D) (ci := 13) (v := .int (nI X.length)) (C := R_Mo) (T := F_Mo) (N := 54) hx hb hts i_Mo hown hK hP 0 rfl rfl 2 (by decide) (hts _ wd_1090) (fun _ h9 => h9) rfl d_Mo_writePackets_47 ?_
        refine lv_bipush (v := 71) hx hb d_Mo_writePackets_50 (by decide) ?_
        refine z_iast hx hb hK hP hD hS 1 0 rfl rfl X.length rfl (by omega) (by omega) d_Mo_writePackets_52 (fun H locs hP hD hS => ?_)
        have hP : va_P D classes [(h, .inr (13, mO r th (nI X.length) le lv pg pn pl (nI L.length))), (r 1, .inl (cI, 9400, .inl (upd g X.length 71))), (r 51, .inl (cI, 8192, .inl (upd wr pid (nI (w0 + j))))), (r 52, .inl (cI, 4200, .inl ro))] H := hP
        have hD : va_D A [(h, .inr (13, mO r th (nI X.length) le lv pg pn pl (nI L.length))), (r 1, .inl (cI, 9400, .inl (upd g X.length 71))), (r 51, .inl (cI, 8192, .inl (upd wr pid (nI (w0 + j))))), (r 52, .inl (cI, 4200, .inl ro))] := hD
        refine lv_aload_n hx hb d_Mo_writePackets_53 rfl (lv_at hl 2 rfl) ?_
        refine va_get (D := D) (ci := 13) (v := .ref (r 1)) (C := R_Mo) (T := F_Mo) (N := 54) hx hb hts i_Mo hown hK hP 0 rfl rfl 1 (by decide) (hts _ wd_1089) (fun _ h9 => h9) rfl d_Mo_writePackets_54 ?_
        refine lv_aload_n hx hb d_Mo_writePackets_57 rfl (lv_at hl 2 rfl) ?_
        refine va_get (D := D) (ci := 13) (v := .int (nI X.length)) (C := R_Mo) (T := F_Mo) (N := 54) hx hb hts i_Mo hown hK hP 0 rfl rfl 2 (by decide) (hts _ wd_1090) (fun _ h9 => h9) rfl d_Mo_writePackets_58 ?_
        refine lv_iconst (v := 1) hx hb d_Mo_writePackets_61 (by decide) ?_
        refine lv_iadd hx hb d_Mo_writePackets_62 ?_
        refine z_topi (w := nI (X.length + 1)) (nI_1 _) ?_
        refine lv_iload_n hx hb d_Mo_writePackets_63 rfl (lv_at hl 4 rfl) ?_
        suffices key64 : W p l e ({ frames := 0, cells := 0, slots := 0, locals := 0 }) s m ([.ref h, .int (nI pid)]).toArray below meth cd H locs 0 0 (MQ below (va_Qv (fun (u : Nat → Int32) => rl u (T ++ ppL pid w0 L.length 0 L)) (fun (u : Nat → Int32) t => zW D (A) [(h, .inr (13, mO r th (nI (T ++ ppL pid w0 L.length 0 L).length) le lv pg pn pl (nI L.length))), (r 1, .inl (cI, 9400, .inl u)), (r 51, .inl (cI, 8192, .inl (upd wr pid (nI (w0 + (L.length + 183) / 184))))), (r 52, .inl (cI, 4200, .inl ro))] [(cI, .int)] t) (A)) ([.ref h, .int (nI pid)]).toArray s 0 0 (A)) (F0 m 73 ls [.int (if decide (184 * j = 0) = true then 64 else 0), .int (nI (X.length + 1)), .ref (r 1)]) by
          refine lv_if_ne (tgt := 72) hx hb d_Mo_writePackets_64 rfl (fun h64 => ?_) (fun h64 => ?_)
          · refine lv_iconst (v := 0) hx hb d_Mo_writePackets_72 (by decide) ?_
            refine z_topi (w := (if decide (184 * j = 0) = true then 64 else 0)) ((if_neg (fun z => h64 (by rw [of_decide_eq_true z]; rfl))).symm) ?_
            exact key64
          · refine lv_bipush (v := 64) hx hb d_Mo_writePackets_67 (by decide) ?_
            refine lv_goto (tgt := 73) hx hb d_Mo_writePackets_69 rfl ?_
            refine z_topi (w := (if decide (184 * j = 0) = true then 64 else 0)) ((if_pos (decide_eq_true ((nI_eq (b := 0) (by omega) (by omega)).mp h64))).symm) ?_
            exact key64
        refine lv_iload_n hx hb d_Mo_writePackets_73 rfl (lv_at hl 3 rfl) ?_
        refine lv_bipush (v := 8) hx hb d_Mo_writePackets_74 (by decide) ?_
        refine lv_ishr hx hb d_Mo_writePackets_76 ?_
        refine z_topi (w := nI (pid / 256)) (wr_shr8 (by omega)) ?_
        refine lv_ior hx hb d_Mo_writePackets_77 ?_
        refine z_iast hx hb hK hP hD hS 1 0 rfl rfl (X.length + 1) rfl (by omega) (by omega) d_Mo_writePackets_78 (fun H locs hP hD hS => ?_)
        have hP : va_P D classes [(h, .inr (13, mO r th (nI X.length) le lv pg pn pl (nI L.length))), (r 1, .inl (cI, 9400, .inl (upd (upd g X.length 71) (X.length + 1) ((if decide (184 * j = 0) = true then 64 else 0) ||| (nI (pid / 256)))))), (r 51, .inl (cI, 8192, .inl (upd wr pid (nI (w0 + j))))), (r 52, .inl (cI, 4200, .inl ro))] H := hP
        have hD : va_D A [(h, .inr (13, mO r th (nI X.length) le lv pg pn pl (nI L.length))), (r 1, .inl (cI, 9400, .inl (upd (upd g X.length 71) (X.length + 1) ((if decide (184 * j = 0) = true then 64 else 0) ||| (nI (pid / 256)))))), (r 51, .inl (cI, 8192, .inl (upd wr pid (nI (w0 + j))))), (r 52, .inl (cI, 4200, .inl ro))] := hD
        refine lv_aload_n hx hb d_Mo_writePackets_79 rfl (lv_at hl 2 rfl) ?_
        refine va_get (D := D) (ci := 13) (v := .ref (r 1)) (C := R_Mo) (T := F_Mo) (N := 54) hx hb hts i_Mo hown hK hP 0 rfl rfl 1 (by decide) (hts _ wd_1089) (fun _ h9 => h9) rfl d_Mo_writePackets_80 ?_
        refine lv_aload_n hx hb d_Mo_writePackets_83 rfl (lv_at hl 2 rfl) ?_
        refine va_get (D := D) (ci := 13) (v := .int (nI X.length)) (C := R_Mo) (T := F_Mo) (N := 54) hx hb hts i_Mo hown hK hP 0 rfl rfl 2 (by decide) (hts _ wd_1090) (fun _ h9 => h9) rfl d_Mo_writePackets_84 ?_
        refine lv_iconst (v := 2) hx hb d_Mo_writePackets_87 (by decide) ?_
        refine lv_iadd hx hb d_Mo_writePackets_88 ?_
        refine z_topi (w := nI (X.length + 2)) (nI_add _ 2) ?_
        refine lv_iload_n hx hb d_Mo_writePackets_89 rfl (lv_at hl 3 rfl) ?_
        refine lv_sipush (v := 255) hx hb d_Mo_writePackets_90 (by decide) ?_
        refine lv_iand hx hb d_Mo_writePackets_93 ?_
        refine z_topi (w := nI (pid % 256)) (wr_256 (by omega)) ?_
        refine z_iast hx hb hK hP hD hS 1 0 rfl rfl (X.length + 2) rfl (by omega) (by omega) d_Mo_writePackets_94 (fun H locs hP hD hS => ?_)
        have hP : va_P D classes [(h, .inr (13, mO r th (nI X.length) le lv pg pn pl (nI L.length))), (r 1, .inl (cI, 9400, .inl (upd (upd (upd g X.length 71) (X.length + 1) ((if decide (184 * j = 0) = true then 64 else 0) ||| (nI (pid / 256)))) (X.length + 2) (nI (pid % 256))))), (r 51, .inl (cI, 8192, .inl (upd wr pid (nI (w0 + j))))), (r 52, .inl (cI, 4200, .inl ro))] H := hP
        have hD : va_D A [(h, .inr (13, mO r th (nI X.length) le lv pg pn pl (nI L.length))), (r 1, .inl (cI, 9400, .inl (upd (upd (upd g X.length 71) (X.length + 1) ((if decide (184 * j = 0) = true then 64 else 0) ||| (nI (pid / 256)))) (X.length + 2) (nI (pid % 256))))), (r 51, .inl (cI, 8192, .inl (upd wr pid (nI (w0 + j))))), (r 52, .inl (cI, 4200, .inl ro))] := hD
        refine lv_aload_n hx hb d_Mo_writePackets_95 rfl (lv_at hl 2 rfl) ?_
        refine va_get (D := D) (ci := 13) (v := .ref (r 1)) (C := R_Mo) (T := F_Mo) (N := 54) hx hb hts i_Mo hown hK hP 0 rfl rfl 1 (by decide) (hts _ wd_1089) (fun _ h9 => h9) rfl d_Mo_writePackets_96 ?_
        refine lv_aload_n hx hb d_Mo_writePackets_99 rfl (lv_at hl 2 rfl) ?_
        refine va_get (D := D) (ci := 13) (v := .int (nI X.length)) (C := R_Mo) (T := F_Mo) (N := 54) hx hb hts i_Mo hown hK hP 0 rfl rfl 2 (by decide) (hts _ wd_1090) (fun _ h9 => h9) rfl d_Mo_writePackets_100 ?_
        refine lv_iconst (v := 3) hx hb d_Mo_writePackets_103 (by decide) ?_
        refine lv_iadd hx hb d_Mo_writePackets_104 ?_
        refine z_topi (w := nI (X.length + 3)) (nI_add _ 3) ?_
        refine lv_iload hx hb d_Mo_writePackets_105 (lv_at hl 0 rfl) ?_
        suffices key107 : W p l e ({ frames := 0, cells := 0, slots := 0, locals := 0 }) s m ([.ref h, .int (nI pid)]).toArray below meth cd H locs 0 0 (MQ below (va_Qv (fun (u : Nat → Int32) => rl u (T ++ ppL pid w0 L.length 0 L)) (fun (u : Nat → Int32) t => zW D (A) [(h, .inr (13, mO r th (nI (T ++ ppL pid w0 L.length 0 L).length) le lv pg pn pl (nI L.length))), (r 1, .inl (cI, 9400, .inl u)), (r 51, .inl (cI, 8192, .inl (upd wr pid (nI (w0 + (L.length + 183) / 184))))), (r 52, .inl (cI, 4200, .inl ro))] [(cI, .int)] t) (A)) ([.ref h, .int (nI pid)]).toArray s 0 0 (A)) (F0 m 117 ls [.int (if nn < 184 then 48 else 16), .int (nI (X.length + 3)), .ref (r 1)]) by
          refine lv_if_le (tgt := 115) hx hb d_Mo_writePackets_107 rfl (fun h107 => ?_) (fun h107 => ?_)
          · refine lv_bipush (v := 16) hx hb d_Mo_writePackets_115 (by decide) ?_
            refine z_topi (w := (if nn < 184 then 48 else 16)) ((if_neg (wp_le h107 (by omega))).symm) ?_
            exact key107
          · refine lv_bipush (v := 48) hx hb d_Mo_writePackets_110 (by decide) ?_
            refine lv_goto (tgt := 117) hx hb d_Mo_writePackets_112 rfl ?_
            refine z_topi (w := (if nn < 184 then 48 else 16)) ((if_pos (wp_gt h107 (by omega))).symm) ?_
            exact key107
        refine lv_aload_n hx hb d_Mo_writePackets_117 rfl (lv_at hl 2 rfl) ?_
        refine va_get (D := D) (ci := 13) (v := .ref (r 51)) (C := R_Mo) (T := F_Mo) (N := 54) hx hb hts i_Mo hown hK hP 0 rfl rfl 51 (by decide) (hts _ wd_1139) (fun _ h9 => h9) rfl d_Mo_writePackets_118 ?_
        refine lv_iload_n hx hb d_Mo_writePackets_121 rfl (lv_at hl 3 rfl) ?_
        refine z_iald hx hb hK hP 2 0 rfl rfl pid rfl (by omega) (by omega) d_Mo_writePackets_122 ?_
        refine z_topi (w := nI (w0 + j)) pk_us ?_
        refine lv_bipush (v := 16) hx hb d_Mo_writePackets_123 (by decide) ?_
        refine lv_irem hx hb d_Mo_writePackets_125 (by decide) ?_
        refine z_topi (w := nI ((w0 + j) % 16)) (pk_rem (d := 16) (by omega) (by omega) (by omega)) ?_
        refine lv_ior hx hb d_Mo_writePackets_126 ?_
        refine z_iast hx hb hK hP hD hS 1 0 rfl rfl (X.length + 3) rfl (by omega) (by omega) d_Mo_writePackets_127 (fun H locs hP hD hS => ?_)
        have hP : va_P D classes [(h, .inr (13, mO r th (nI X.length) le lv pg pn pl (nI L.length))), (r 1, .inl (cI, 9400, .inl (upd (upd (upd (upd g X.length 71) (X.length + 1) ((if decide (184 * j = 0) = true then 64 else 0) ||| (nI (pid / 256)))) (X.length + 2) (nI (pid % 256))) (X.length + 3) ((if nn < 184 then 48 else 16) ||| (nI ((w0 + j) % 16)))))), (r 51, .inl (cI, 8192, .inl (upd wr pid (nI (w0 + j))))), (r 52, .inl (cI, 4200, .inl ro))] H := hP
        have hD : va_D A [(h, .inr (13, mO r th (nI X.length) le lv pg pn pl (nI L.length))), (r 1, .inl (cI, 9400, .inl (upd (upd (upd (upd g X.length 71) (X.length + 1) ((if decide (184 * j = 0) = true then 64 else 0) ||| (nI (pid / 256)))) (X.length + 2) (nI (pid % 256))) (X.length + 3) ((if nn < 184 then 48 else 16) ||| (nI ((w0 + j) % 16)))))), (r 51, .inl (cI, 8192, .inl (upd wr pid (nI (w0 + j))))), (r 52, .inl (cI, 4200, .inl ro))] := hD
        have hg1 : rl _ (X ++ hd4 pid (decide (184 * j = 0)) (w0 + j) nn) := mw_hd (a := (if decide (184 * j = 0) = true then 64 else 0) ||| nI (pid / 256)) (b := nI (pid % 256)) (c := (if nn < 184 then 48 else 16) ||| nI ((w0 + j) % 16)) hg
        generalize hge : upd (upd (upd (upd g X.length 71) (X.length + 1) ((if decide (184 * j = 0) = true then 64 else 0) ||| nI (pid / 256))) (X.length + 2) (nI (pid % 256))) (X.length + 3) ((if nn < 184 then 48 else 16) ||| nI ((w0 + j) % 16)) = g1 at hP hD hg1
        refine lv_aload_n hx hb d_Mo_writePackets_128 rfl (lv_at hl 2 rfl) ?_
        refine va_get (D := D) (ci := 13) (v := .ref (r 51)) (C := R_Mo) (T := F_Mo) (N := 54) hx hb hts i_Mo hown hK hP 0 rfl rfl 51 (by decide) (hts _ wd_1139) (fun _ h9 => h9) rfl d_Mo_writePackets_129 ?_
        refine lv_iload_n hx hb d_Mo_writePackets_132 rfl (lv_at hl 3 rfl) ?_
        refine lv_dup2_11 hx hb d_Mo_writePackets_133 rfl rfl ?_
        refine z_iald hx hb hK hP 2 0 rfl rfl pid rfl (by omega) (by omega) d_Mo_writePackets_134 ?_
        refine z_topi (w := nI (w0 + j)) pk_us ?_
        refine lv_iconst (v := 1) hx hb d_Mo_writePackets_135 (by decide) ?_
        refine lv_iadd hx hb d_Mo_writePackets_136 ?_
        refine z_topi (w := nI (w0 + (j + 1))) (nI_1 (w0 + j)) ?_
        refine z_iast hx hb hK hP hD hS 2 0 rfl rfl pid rfl (by omega) (by omega) d_Mo_writePackets_137 (fun H locs hP hD hS => ?_)
        have hP : va_P D classes [(h, .inr (13, mO r th (nI X.length) le lv pg pn pl (nI L.length))), (r 1, .inl (cI, 9400, .inl g1)), (r 51, .inl (cI, 8192, .inl (upd (upd wr pid (nI (w0 + j))) pid (nI (w0 + (j + 1)))))), (r 52, .inl (cI, 4200, .inl ro))] H := hP
        have hD : va_D A [(h, .inr (13, mO r th (nI X.length) le lv pg pn pl (nI L.length))), (r 1, .inl (cI, 9400, .inl g1)), (r 51, .inl (cI, 8192, .inl (upd (upd wr pid (nI (w0 + j))) pid (nI (w0 + (j + 1)))))), (r 52, .inl (cI, 4200, .inl ro))] := hD
        rw [show upd (upd wr pid (nI (w0 + j))) pid (nI (w0 + (j + 1))) = upd wr pid (nI (w0 + (j + 1))) from mw_uu] at hP hD
        have hP : va_P D classes [(h, .inr (13, mO r th (nI X.length) le lv pg pn pl (nI L.length))), (r 1, .inl (cI, 9400, .inl g1)), (r 51, .inl (cI, 8192, .inl (upd wr pid (nI (w0 + (j + 1)))))), (r 52, .inl (cI, 4200, .inl ro))] H := hP
        have hD : va_D A [(h, .inr (13, mO r th (nI X.length) le lv pg pn pl (nI L.length))), (r 1, .inl (cI, 9400, .inl g1)), (r 51, .inl (cI, 8192, .inl (upd wr pid (nI (w0 + (j + 1)))))), (r 52, .inl (cI, 4200, .inl ro))] := hD
        refine lv_iload hx hb d_Mo_writePackets_138 (lv_at hl 0 rfl) ?_
        refine lv_if_le (tgt := 158) hx hb d_Mo_writePackets_140 rfl (fun h140 => ?_) (fun h140 => ?_)
        · have h140 : ¬ nn < 184 := wp_le h140 (by omega)
          refine lv_iconst (v := 1) hx hb d_Mo_writePackets_158 (by decide) ?_
          refine lv_istore (lv' := [(5, .int 1), (4, .int (nI (184 - nn))), (3, .int (nI nn)), (0, .ref h), (1, .int (nI pid)), (2, .int (nI (184 * j)))]) hx hb d_Mo_writePackets_159 hl (by decide) rfl (fun ls hl => ?_)
          have loop161 : ∀ (N : Nat) (k : Nat) (Y : List Int32) (g : Nat → Int32) (H : Heap) (locs : List Loc) (ls : Array Slot) (hm : 185 - k < N) (hk1 : 1 ≤ k) (hk2 : k ≤ 185) (hY : Y = X ++ (hd4 pid (decide (184 * j = 0)) (w0 + j) nn ++ (stL (184 - nn)).take k)) (hg : rl g Y) (hl : lv_has ls 6 [(0, .ref h), (1, .int (nI pid)), (2, .int (nI (184 * j))), (3, .int (nI nn)), (4, .int (nI (184 - nn))), (5, .int (nI k))]) (hP : va_P D classes [(h, .inr (13, mO r th (nI X.length) le lv pg pn pl (nI L.length))), (r 1, .inl (cI, 9400, .inl g)), (r 51, .inl (cI, 8192, .inl (upd wr pid (nI (w0 + (j + 1)))))), (r 52, .inl (cI, 4200, .inl ro))] H) (hD : va_D A [(h, .inr (13, mO r th (nI X.length) le lv pg pn pl (nI L.length))), (r 1, .inl (cI, 9400, .inl g)), (r 51, .inl (cI, 8192, .inl (upd wr pid (nI (w0 + (j + 1)))))), (r 52, .inl (cI, 4200, .inl ro))]) (hS : va_S A s.heap H locs), W p l e ({ frames := 0, cells := 0, slots := 0, locals := 0 }) s m ([.ref h, .int (nI pid)]).toArray below meth cd H locs 0 0 (MQ below (va_Qv (fun (u : Nat → Int32) => rl u (T ++ ppL pid w0 L.length 0 L)) (fun (u : Nat → Int32) t => zW D (A) [(h, .inr (13, mO r th (nI (T ++ ppL pid w0 L.length 0 L).length) le lv pg pn pl (nI L.length))), (r 1, .inl (cI, 9400, .inl u)), (r 51, .inl (cI, 8192, .inl (upd wr pid (nI (w0 + (L.length + 183) / 184))))), (r 52, .inl (cI, 4200, .inl ro))] [(cI, .int)] t) (A)) ([.ref h, .int (nI pid)]).toArray s 0 0 (A)) (F0 m 161 ls []) := by
            intro N161
            induction N161 with
            | zero => intro k Y g H locs ls hm hk1 hk2 hY hg hl hP hD hS; exact absurd hm (Nat.not_lt_zero _)
            | succ N161 ih161 =>
              intro k Y g H locs ls hm hk1 hk2 hY hg hl hP hD hS
              refine lv_iload hx hb d_Mo_writePackets_161 (lv_at hl 5 rfl) ?_
              refine lv_iload hx hb d_Mo_writePackets_163 (lv_at hl 4 rfl) ?_
              refine lv_icmp_ge (tgt := 201) hx hb d_Mo_writePackets_165 rfl (fun h165 => ?_) (fun h165 => ?_)
              · have h165 := (nI_leI (by omega) (by omega)).mp h165
                refine lv_iconst (v := 0) hx hb d_Mo_writePackets_201 (by decide) ?_
                refine lv_istore (lv' := [(5, .int 0), (0, .ref h), (1, .int (nI pid)), (2, .int (nI (184 * j))), (3, .int (nI nn)), (4, .int (nI (184 - nn)))]) hx hb d_Mo_writePackets_202 hl (by decide) rfl (fun ls hl => ?_)
                have loop204 : ∀ (N : Nat) (k : Nat) (Y : List Int32) (g : Nat → Int32) (H : Heap) (locs : List Loc) (ls : Array Slot) (hm : nn - k < N) (hk : k ≤ nn) (hY : Y = X ++ (hdL pid (decide (184 * j = 0)) (w0 + j) nn ++ P.take k)) (hg : rl g Y) (hl : lv_has ls 6 [(0, .ref h), (1, .int (nI pid)), (2, .int (nI (184 * j))), (3, .int (nI nn)), (4, .int (nI (184 - nn))), (5, .int (nI k))]) (hP : va_P D classes [(h, .inr (13, mO r th (nI X.length) le lv pg pn pl (nI L.length))), (r 1, .inl (cI, 9400, .inl g)), (r 51, .inl (cI, 8192, .inl (upd wr pid (nI (w0 + (j + 1)))))), (r 52, .inl (cI, 4200, .inl ro))] H) (hD : va_D A [(h, .inr (13, mO r th (nI X.length) le lv pg pn pl (nI L.length))), (r 1, .inl (cI, 9400, .inl g)), (r 51, .inl (cI, 8192, .inl (upd wr pid (nI (w0 + (j + 1)))))), (r 52, .inl (cI, 4200, .inl ro))]) (hS : va_S A s.heap H locs), W p l e ({ frames := 0, cells := 0, slots := 0, locals := 0 }) s m ([.ref h, .int (nI pid)]).toArray below meth cd H locs 0 0 (MQ below (va_Qv (fun (u : Nat → Int32) => rl u (T ++ ppL pid w0 L.length 0 L)) (fun (u : Nat → Int32) t => zW D (A) [(h, .inr (13, mO r th (nI (T ++ ppL pid w0 L.length 0 L).length) le lv pg pn pl (nI L.length))), (r 1, .inl (cI, 9400, .inl u)), (r 51, .inl (cI, 8192, .inl (upd wr pid (nI (w0 + (L.length + 183) / 184))))), (r 52, .inl (cI, 4200, .inl ro))] [(cI, .int)] t) (A)) ([.ref h, .int (nI pid)]).toArray s 0 0 (A)) (F0 m 204 ls []) := by
                  intro N204
                  induction N204 with
                  | zero => intro k Y g H locs ls hm hk hY hg hl hP hD hS; exact absurd hm (Nat.not_lt_zero _)
                  | succ N204 ih204 =>
                    intro k Y g H locs ls hm hk hY hg hl hP hD hS
                    refine lv_iload hx hb d_Mo_writePackets_204 (lv_at hl 5 rfl) ?_
                    refine lv_iload_n hx hb d_Mo_writePackets_206 rfl (lv_at hl 3 rfl) ?_
                    refine lv_icmp_ge (tgt := 242) hx hb d_Mo_writePackets_207 rfl (fun h207 => ?_) (fun h207 => ?_)
                    · have h207 := (nI_leI (by omega) (by omega)).mp h207
                      have hyl := mw_pl hY (by omega)
                      refine lv_aload_n hx hb d_Mo_writePackets_242 rfl (lv_at hl 0 rfl) ?_
                      refine lv_aload_n hx hb d_Mo_writePackets_243 rfl (lv_at hl 0 rfl) ?_
                      refine va_get (D := D) (ci := 13) (v := .int (nI X.length)) (C := R_Mo) (T := F_Mo) (N := 54) hx hb hts i_Mo hown hK hP 0 rfl rfl 2 (by decide) (hts _ wd_1090) (fun _ h9 => h9) rfl d_Mo_writePackets_244 ?_
                      refine lv_sipush (v := 188) hx hb d_Mo_writePackets_247 (by decide) ?_
                      refine lv_iadd hx hb d_Mo_writePackets_250 ?_
                      refine z_topi (w := nI Y.length) (by rw [show Y.length = X.length + 188 by omega]; exact nI_add _ 188) ?_
                      refine va_put (D := D) (ci := 13) (v := .int (nI Y.length)) (ty := .int) (C := R_Mo) (T := F_Mo) (N := 54) hx hb hts i_Mo t_Mo t_Mo_ok n_Mo hown hK hP hD hS 0 rfl rfl 2 (by decide) (hts _ wd_1090) (fun _ h9 => h9) rfl (by decide +kernel) rfl rfl (Nat.le_of_ble_eq_true rfl) d_Mo_writePackets_251 (fun H locs hP hD hS => ?_)
                      have hP : va_P D classes [(h, .inr (13, mO r th (nI Y.length) le lv pg pn pl (nI L.length))), (r 1, .inl (cI, 9400, .inl g)), (r 51, .inl (cI, 8192, .inl (upd wr pid (nI (w0 + (j + 1)))))), (r 52, .inl (cI, 4200, .inl ro))] H := hP
                      have hD : va_D A [(h, .inr (13, mO r th (nI Y.length) le lv pg pn pl (nI L.length))), (r 1, .inl (cI, 9400, .inl g)), (r 51, .inl (cI, 8192, .inl (upd wr pid (nI (w0 + (j + 1)))))), (r 52, .inl (cI, 4200, .inl ro))] := hD
                      refine lv_iincW (k := 2) (v := nI (184 * (j + 1))) (lv' := [(2, .int (nI (184 * (j + 1)))), (0, .ref h), (1, .int (nI pid)), (3, .int (nI nn)), (4, .int (nI (184 - nn))), (5, .int (nI k))]) hx hb d_Mo_writePackets_254 hl rfl (by rw [show 184 * (j + 1) = 184 * j + 184 by omega]; exact nI_add _ 184) (by decide) rfl (fun ls hl => ?_)
                      refine lv_goto (tgt := 2) hx hb d_Mo_writePackets_260 rfl ?_
                      exact ih2 (j + 1) Y g H locs ls (by omega) (by omega) (mw_step hX (by omega) hnn hpp hY (by omega)) (by omega) hg (lv_sub hl [1, 2, 0] rfl) hP hD hS
                    · have h207 := mt (nI_leI (by omega) (by omega)).mpr h207
                      have hyl := mw_pl hY (by omega)
                      refine lv_aload_n hx hb d_Mo_writePackets_210 rfl (lv_at hl 0 rfl) ?_
                      refine va_get (D := D) (ci := 13) (v := .ref (r 1)) (C := R_Mo) (T := F_Mo) (N := 54) hx hb hts i_Mo hown hK hP 0 rfl rfl 1 (by decide) (hts _ wd_1089) (fun _ h9 => h9) rfl d_Mo_writePackets_211 ?_
                      refine lv_aload_n hx hb d_Mo_writePackets_214 rfl (lv_at hl 0 rfl) ?_
                      refine va_get (D := D) (ci := 13) (v := .int (nI X.length)) (C := R_Mo) (T := F_Mo) (N := 54) hx hb hts i_Mo hown hK hP 0 rfl rfl 2 (by decide) (hts _ wd_1090) (fun _ h9 => h9) rfl d_Mo_writePackets_215 ?_
                      refine lv_iconst (v := 4) hx hb d_Mo_writePackets_218 (by decide) ?_
                      refine lv_iadd hx hb d_Mo_writePackets_219 ?_
                      refine z_topi (w := nI (X.length + 4)) (nI_add _ 4) ?_
                      refine lv_iload hx hb d_Mo_writePackets_220 (lv_at hl 4 rfl) ?_
                      refine lv_iadd hx hb d_Mo_writePackets_222 ?_
                      refine z_topi (w := nI (X.length + 4 + (184 - nn))) (nI_add _ _) ?_
                      refine lv_iload hx hb d_Mo_writePackets_223 (lv_at hl 5 rfl) ?_
                      refine lv_iadd hx hb d_Mo_writePackets_225 ?_
                      refine z_topi (w := nI (X.length + 4 + (184 - nn) + k)) (nI_add _ _) ?_
                      refine lv_aload_n hx hb d_Mo_writePackets_226 rfl (lv_at hl 0 rfl) ?_
                      refine va_get (D := D) (ci := 13) (v := .ref (r 52)) (C := R_Mo) (T := F_Mo) (N := 54) hx hb hts i_Mo hown hK hP 0 rfl rfl 52 (by decide) (hts _ wd_1140) (fun _ h9 => h9) rfl d_Mo_writePackets_227 ?_
                      refine lv_iload_n hx hb d_Mo_writePackets_230 rfl (lv_at hl 2 rfl) ?_
                      refine lv_iload hx hb d_Mo_writePackets_231 (lv_at hl 5 rfl) ?_
                      refine lv_iadd hx hb d_Mo_writePackets_233 ?_
                      refine z_topi (w := nI (184 * j + k)) (nI_add _ _) ?_
                      refine z_iald hx hb hK hP 3 0 rfl rfl (184 * j + k) rfl (by omega) (by omega) d_Mo_writePackets_234 ?_
                      refine z_topi (w := P.getD k 0) (by rw [hro _ (by omega)]; exact mw_at hpp (by omega)) ?_
                      refine z_iast hx hb hK hP hD hS 1 0 rfl rfl (X.length + 4 + (184 - nn) + k) rfl (by omega) (by omega) d_Mo_writePackets_235 (fun H locs hP hD hS => ?_)
                      have hP : va_P D classes [(h, .inr (13, mO r th (nI X.length) le lv pg pn pl (nI L.length))), (r 1, .inl (cI, 9400, .inl (upd g (X.length + 4 + (184 - nn) + k) (P.getD k 0)))), (r 51, .inl (cI, 8192, .inl (upd wr pid (nI (w0 + (j + 1)))))), (r 52, .inl (cI, 4200, .inl ro))] H := hP
                      have hD : va_D A [(h, .inr (13, mO r th (nI X.length) le lv pg pn pl (nI L.length))), (r 1, .inl (cI, 9400, .inl (upd g (X.length + 4 + (184 - nn) + k) (P.getD k 0)))), (r 51, .inl (cI, 8192, .inl (upd wr pid (nI (w0 + (j + 1)))))), (r 52, .inl (cI, 4200, .inl ro))] := hD
                      refine lv_iinc (k := 5) (v := nI (k + 1)) (lv' := [(5, .int (nI (k + 1))), (0, .ref h), (1, .int (nI pid)), (2, .int (nI (184 * j))), (3, .int (nI nn)), (4, .int (nI (184 - nn)))]) hx hb d_Mo_writePackets_236 hl rfl (nI_1 k) (by decide) rfl (fun ls hl => ?_)
                      refine lv_goto (tgt := 204) hx hb d_Mo_writePackets_239 rfl ?_
                      exact ih204 (k + 1) (Y ++ [P.getD k 0]) (upd g (X.length + 4 + (184 - nn) + k) (P.getD k 0)) H locs ls (by omega) (by omega) (mw_pp hY (by omega)) (rl_at hg hyl) (lv_sub hl [1, 2, 3, 4, 5, 0] rfl) hP hD hS
                exact loop204 _ 0 Y g H locs ls (Nat.lt_succ_self _) (Nat.zero_le _) (mw_p0 hY h165) hg (lv_sub hl [1, 2, 3, 4, 5, 0] rfl) hP hD hS
              · have h165 := mt (nI_leI (by omega) (by omega)).mpr h165
                have hyl := mw_len hY (by omega)
                refine lv_aload_n hx hb d_Mo_writePackets_168 rfl (lv_at hl 0 rfl) ?_
                refine va_get (D := D) (ci := 13) (v := .ref (r 1)) (C := R_Mo) (T := F_Mo) (N := 54) hx hb hts i_Mo hown hK hP 0 rfl rfl 1 (by decide) (hts _ wd_1089) (fun _ h9 => h9) rfl d_Mo_writePackets_169 ?_
                refine lv_aload_n hx hb d_Mo_writePackets_172 rfl (lv_at hl 0 rfl) ?_
                refine va_get (D := D) (ci := 13) (v := .int (nI X.length)) (C := R_Mo) (T := F_Mo) (N := 54) hx hb hts i_Mo hown hK hP 0 rfl rfl 2 (by decide) (hts _ wd_1090) (fun _ h9 => h9) rfl d_Mo_writePackets_173 ?_
                refine lv_iconst (v := 4) hx hb d_Mo_writePackets_176 (by decide) ?_
                refine lv_iadd hx hb d_Mo_writePackets_177 ?_
                refine z_topi (w := nI (X.length + 4)) (nI_add _ 4) ?_
                refine lv_iload hx hb d_Mo_writePackets_178 (lv_at hl 5 rfl) ?_
                refine lv_iadd hx hb d_Mo_writePackets_180 ?_
                refine z_topi (w := nI (X.length + 4 + k)) (nI_add _ _) ?_
                refine lv_iload hx hb d_Mo_writePackets_181 (lv_at hl 5 rfl) ?_
                refine lv_iconst (v := 1) hx hb d_Mo_writePackets_183 (by decide) ?_
                suffices key184 : W p l e ({ frames := 0, cells := 0, slots := 0, locals := 0 }) s m ([.ref h, .int (nI pid)]).toArray below meth cd H locs 0 0 (MQ below (va_Qv (fun (u : Nat → Int32) => rl u (T ++ ppL pid w0 L.length 0 L)) (fun (u : Nat → Int32) t => zW D (A) [(h, .inr (13, mO r th (nI (T ++ ppL pid w0 L.length 0 L).length) le lv pg pn pl (nI L.length))), (r 1, .inl (cI, 9400, .inl u)), (r 51, .inl (cI, 8192, .inl (upd wr pid (nI (w0 + (L.length + 183) / 184))))), (r 52, .inl (cI, 4200, .inl ro))] [(cI, .int)] t) (A)) ([.ref h, .int (nI pid)]).toArray s 0 0 (A)) (F0 m 194 ls [.int (if k = 1 then 0 else 255), .int (nI (X.length + 4 + k)), .ref (r 1)]) by
                  refine lv_icmp_ne (tgt := 191) hx hb d_Mo_writePackets_184 rfl (fun h184 => ?_) (fun h184 => ?_)
                  · refine lv_sipush (v := 255) hx hb d_Mo_writePackets_191 (by decide) ?_
                    refine z_topi (w := (if k = 1 then 0 else 255)) ((if_neg (mt (fun z => by rw [z]; rfl) h184)).symm) ?_
                    exact key184
                  · refine lv_iconst (v := 0) hx hb d_Mo_writePackets_187 (by decide) ?_
                    refine lv_goto (tgt := 194) hx hb d_Mo_writePackets_188 rfl ?_
                    refine z_topi (w := (if k = 1 then 0 else 255)) ((if_pos ((nI_eq (b := 1) (by omega) (by omega)).mp h184)).symm) ?_
                    exact key184
                refine z_iast hx hb hK hP hD hS 1 0 rfl rfl (X.length + 4 + k) rfl (by omega) (by omega) d_Mo_writePackets_194 (fun H locs hP hD hS => ?_)
                have hP : va_P D classes [(h, .inr (13, mO r th (nI X.length) le lv pg pn pl (nI L.length))), (r 1, .inl (cI, 9400, .inl (upd g (X.length + 4 + k) (if k = 1 then 0 else 255)))), (r 51, .inl (cI, 8192, .inl (upd wr pid (nI (w0 + (j + 1)))))), (r 52, .inl (cI, 4200, .inl ro))] H := hP
                have hD : va_D A [(h, .inr (13, mO r th (nI X.length) le lv pg pn pl (nI L.length))), (r 1, .inl (cI, 9400, .inl (upd g (X.length + 4 + k) (if k = 1 then 0 else 255)))), (r 51, .inl (cI, 8192, .inl (upd wr pid (nI (w0 + (j + 1)))))), (r 52, .inl (cI, 4200, .inl ro))] := hD
                refine lv_iinc (k := 5) (v := nI (k + 1)) (lv' := [(5, .int (nI (k + 1))), (0, .ref h), (1, .int (nI pid)), (2, .int (nI (184 * j))), (3, .int (nI nn)), (4, .int (nI (184 - nn)))]) hx hb d_Mo_writePackets_195 hl rfl (nI_1 k) (by decide) rfl (fun ls hl => ?_)
                refine lv_goto (tgt := 161) hx hb d_Mo_writePackets_198 rfl ?_
                exact ih161 (k + 1) (Y ++ [if k = 1 then 0 else 255]) (upd g (X.length + 4 + k) (if k = 1 then 0 else 255)) H locs ls (by omega) (by omega) (by omega) (mw_st hY (by omega) hk1) (rl_at hg hyl) (lv_sub hl [1, 2, 3, 4, 5, 0] rfl) hP hD hS
          exact loop161 _ 1 (X ++ hd4 pid (decide (184 * j = 0)) (w0 + j) nn) g1 H locs ls (Nat.lt_succ_self _) (Nat.le_refl _) (by omega) (mw_i0 h140) hg1 (lv_sub hl [3, 4, 5, 2, 1, 0] rfl) hP hD hS
        · have h140 : nn < 184 := wp_gt h140 (by omega)
          refine lv_aload_n hx hb d_Mo_writePackets_143 rfl (lv_at hl 2 rfl) ?_
          refine va_get (D := D) (ci := 13) (v := .ref (r 1)) (C := R_Mo) (T := F_Mo) (N := 54) hx hb hts i_Mo hown hK hP 0 rfl rfl 1 (by decide) (hts _ wd_1089) (fun _ h9 => h9) rfl d_Mo_writePackets_144 ?_
          refine lv_aload_n hx hb d_Mo_writePackets_147 rfl (lv_at hl 2 rfl) ?_
          refine va_get (D := D) (ci := 13) (v := .int (nI X.length)) (C := R_Mo) (T := F_Mo) (N := 54) hx hb hts i_Mo hown hK hP 0 rfl rfl 2 (by decide) (hts _ wd_1090) (fun _ h9 => h9) rfl d_Mo_writePackets_148 ?_
          refine lv_iconst (v := 4) hx hb d_Mo_writePackets_151 (by decide) ?_
          refine lv_iadd hx hb d_Mo_writePackets_152 ?_
          refine z_topi (w := nI (X.length + 4)) (nI_add _ 4) ?_
          refine lv_iload hx hb d_Mo_writePackets_153 (lv_at hl 0 rfl) ?_
          refine lv_iconst (v := 1) hx hb d_Mo_writePackets_155 (by decide) ?_
          refine lv_isub hx hb d_Mo_writePackets_156 ?_
          refine z_topi (w := nI (184 - nn - 1)) (pk_sub (b := 1) (by omega)) ?_
          refine z_iast hx hb hK hP hD hS 1 0 rfl rfl (X.length + 4) rfl (by omega) (by omega) d_Mo_writePackets_157 (fun H locs hP hD hS => ?_)
          have hP : va_P D classes [(h, .inr (13, mO r th (nI X.length) le lv pg pn pl (nI L.length))), (r 1, .inl (cI, 9400, .inl (upd g1 (X.length + 4) (nI (184 - nn - 1))))), (r 51, .inl (cI, 8192, .inl (upd wr pid (nI (w0 + (j + 1)))))), (r 52, .inl (cI, 4200, .inl ro))] H := hP
          have hD : va_D A [(h, .inr (13, mO r th (nI X.length) le lv pg pn pl (nI L.length))), (r 1, .inl (cI, 9400, .inl (upd g1 (X.length + 4) (nI (184 - nn - 1))))), (r 51, .inl (cI, 8192, .inl (upd wr pid (nI (w0 + (j + 1)))))), (r 52, .inl (cI, 4200, .inl ro))] := hD
          refine lv_iconst (v := 1) hx hb d_Mo_writePackets_158 (by decide) ?_
          refine lv_istore (lv' := [(5, .int 1), (4, .int (nI (184 - nn))), (3, .int (nI nn)), (0, .ref h), (1, .int (nI pid)), (2, .int (nI (184 * j)))]) hx hb d_Mo_writePackets_159 hl (by decide) rfl (fun ls hl => ?_)
          have loop161 : ∀ (N : Nat) (k : Nat) (Y : List Int32) (g : Nat → Int32) (H : Heap) (locs : List Loc) (ls : Array Slot) (hm : 185 - k < N) (hk1 : 1 ≤ k) (hk2 : k ≤ 185) (hY : Y = X ++ (hd4 pid (decide (184 * j = 0)) (w0 + j) nn ++ (stL (184 - nn)).take k)) (hg : rl g Y) (hl : lv_has ls 6 [(0, .ref h), (1, .int (nI pid)), (2, .int (nI (184 * j))), (3, .int (nI nn)), (4, .int (nI (184 - nn))), (5, .int (nI k))]) (hP : va_P D classes [(h, .inr (13, mO r th (nI X.length) le lv pg pn pl (nI L.length))), (r 1, .inl (cI, 9400, .inl g)), (r 51, .inl (cI, 8192, .inl (upd wr pid (nI (w0 + (j + 1)))))), (r 52, .inl (cI, 4200, .inl ro))] H) (hD : va_D A [(h, .inr (13, mO r th (nI X.length) le lv pg pn pl (nI L.length))), (r 1, .inl (cI, 9400, .inl g)), (r 51, .inl (cI, 8192, .inl (upd wr pid (nI (w0 + (j + 1)))))), (r 52, .inl (cI, 4200, .inl ro))]) (hS : va_S A s.heap H locs), W p l e ({ frames := 0, cells := 0, slots := 0, locals := 0 }) s m ([.ref h, .int (nI pid)]).toArray below meth cd H locs 0 0 (MQ below (va_Qv (fun (u : Nat → Int32) => rl u (T ++ ppL pid w0 L.length 0 L)) (fun (u : Nat → Int32) t => zW D (A) [(h, .inr (13, mO r th (nI (T ++ ppL pid w0 L.length 0 L).length) le lv pg pn pl (nI L.length))), (r 1, .inl (cI, 9400, .inl u)), (r 51, .inl (cI, 8192, .inl (upd wr pid (nI (w0 + (L.length + 183) / 184))))), (r 52, .inl (cI, 4200, .inl ro))] [(cI, .int)] t) (A)) ([.ref h, .int (nI pid)]).toArray s 0 0 (A)) (F0 m 161 ls []) := by
            intro N161
            induction N161 with
            | zero => intro k Y g H locs ls hm hk1 hk2 hY hg hl hP hD hS; exact absurd hm (Nat.not_lt_zero _)
            | succ N161 ih161 =>
              intro k Y g H locs ls hm hk1 hk2 hY hg hl hP hD hS
              refine lv_iload hx hb d_Mo_writePackets_161 (lv_at hl 5 rfl) ?_
              refine lv_iload hx hb d_Mo_writePackets_163 (lv_at hl 4 rfl) ?_
              refine lv_icmp_ge (tgt := 201) hx hb d_Mo_writePackets_165 rfl (fun h165 => ?_) (fun h165 => ?_)
              · have h165 := (nI_leI (by omega) (by omega)).mp h165
                refine lv_iconst (v := 0) hx hb d_Mo_writePackets_201 (by decide) ?_
                refine lv_istore (lv' := [(5, .int 0), (0, .ref h), (1, .int (nI pid)), (2, .int (nI (184 * j))), (3, .int (nI nn)), (4, .int (nI (184 - nn)))]) hx hb d_Mo_writePackets_202 hl (by decide) rfl (fun ls hl => ?_)
                have loop204 : ∀ (N : Nat) (k : Nat) (Y : List Int32) (g : Nat → Int32) (H : Heap) (locs : List Loc) (ls : Array Slot) (hm : nn - k < N) (hk : k ≤ nn) (hY : Y = X ++ (hdL pid (decide (184 * j = 0)) (w0 + j) nn ++ P.take k)) (hg : rl g Y) (hl : lv_has ls 6 [(0, .ref h), (1, .int (nI pid)), (2, .int (nI (184 * j))), (3, .int (nI nn)), (4, .int (nI (184 - nn))), (5, .int (nI k))]) (hP : va_P D classes [(h, .inr (13, mO r th (nI X.length) le lv pg pn pl (nI L.length))), (r 1, .inl (cI, 9400, .inl g)), (r 51, .inl (cI, 8192, .inl (upd wr pid (nI (w0 + (j + 1)))))), (r 52, .inl (cI, 4200, .inl ro))] H) (hD : va_D A [(h, .inr (13, mO r th (nI X.length) le lv pg pn pl (nI L.length))), (r 1, .inl (cI, 9400, .inl g)), (r 51, .inl (cI, 8192, .inl (upd wr pid (nI (w0 + (j + 1)))))), (r 52, .inl (cI, 4200, .inl ro))]) (hS : va_S A s.heap H locs), W p l e ({ frames := 0, cells := 0, slots := 0, locals := 0 }) s m ([.ref h, .int (nI pid)]).toArray below meth cd H locs 0 0 (MQ below (va_Qv (fun (u : Nat → Int32) => rl u (T ++ ppL pid w0 L.length 0 L)) (fun (u : Nat → Int32) t => zW D (A) [(h, .inr (13, mO r th (nI (T ++ ppL pid w0 L.length 0 L).length) le lv pg pn pl (nI L.length))), (r 1, .inl (cI, 9400, .inl u)), (r 51, .inl (cI, 8192, .inl (upd wr pid (nI (w0 + (L.length + 183) / 184))))), (r 52, .inl (cI, 4200, .inl ro))] [(cI, .int)] t) (A)) ([.ref h, .int (nI pid)]).toArray s 0 0 (A)) (F0 m 204 ls []) := by
                  intro N204
                  induction N204 with
                  | zero => intro k Y g H locs ls hm hk hY hg hl hP hD hS; exact absurd hm (Nat.not_lt_zero _)
                  | succ N204 ih204 =>
                    intro k Y g H locs ls hm hk hY hg hl hP hD hS
                    refine lv_iload hx hb d_Mo_writePackets_204 (lv_at hl 5 rfl) ?_
                    refine lv_iload_n hx hb d_Mo_writePackets_206 rfl (lv_at hl 3 rfl) ?_
                    refine lv_icmp_ge (tgt := 242) hx hb d_Mo_writePackets_207 rfl (fun h207 => ?_) (fun h207 => ?_)
                    · have h207 := (nI_leI (by omega) (by omega)).mp h207
                      have hyl := mw_pl hY (by omega)
                      refine lv_aload_n hx hb d_Mo_writePackets_242 rfl (lv_at hl 0 rfl) ?_
                      refine lv_aload_n hx hb d_Mo_writePackets_243 rfl (lv_at hl 0 rfl) ?_
                      refine va_get (D := D) (ci := 13) (v := .int (nI X.length)) (C := R_Mo) (T := F_Mo) (N := 54) hx hb hts i_Mo hown hK hP 0 rfl rfl 2 (by decide) (hts _ wd_1090) (fun _ h9 => h9) rfl d_Mo_writePackets_244 ?_
                      refine lv_sipush (v := 188) hx hb d_Mo_writePackets_247 (by decide) ?_
                      refine lv_iadd hx hb d_Mo_writePackets_250 ?_
                      refine z_topi (w := nI Y.length) (by rw [show Y.length = X.length + 188 by omega]; exact nI_add _ 188) ?_
                      refine va_put (D := D) (ci := 13) (v := .int (nI Y.length)) (ty := .int) (C := R_Mo) (T := F_Mo) (N := 54) hx hb hts i_Mo t_Mo t_Mo_ok n_Mo hown hK hP hD hS 0 rfl rfl 2 (by decide) (hts _ wd_1090) (fun _ h9 => h9) rfl (by decide +kernel) rfl rfl (Nat.le_of_ble_eq_true rfl) d_Mo_writePackets_251 (fun H locs hP hD hS => ?_)
                      have hP : va_P D classes [(h, .inr (13, mO r th (nI Y.length) le lv pg pn pl (nI L.length))), (r 1, .inl (cI, 9400, .inl g)), (r 51, .inl (cI, 8192, .inl (upd wr pid (nI (w0 + (j + 1)))))), (r 52, .inl (cI, 4200, .inl ro))] H := hP
                      have hD : va_D A [(h, .inr (13, mO r th (nI Y.length) le lv pg pn pl (nI L.length))), (r 1, .inl (cI, 9400, .inl g)), (r 51, .inl (cI, 8192, .inl (upd wr pid (nI (w0 + (j + 1)))))), (r 52, .inl (cI, 4200, .inl ro))] := hD
                      refine lv_iincW (k := 2) (v := nI (184 * (j + 1))) (lv' := [(2, .int (nI (184 * (j + 1)))), (0, .ref h), (1, .int (nI pid)), (3, .int (nI nn)), (4, .int (nI (184 - nn))), (5, .int (nI k))]) hx hb d_Mo_writePackets_254 hl rfl (by rw [show 184 * (j + 1) = 184 * j + 184 by omega]; exact nI_add _ 184) (by decide) rfl (fun ls hl => ?_)
                      refine lv_goto (tgt := 2) hx hb d_Mo_writePackets_260 rfl ?_
                      exact ih2 (j + 1) Y g H locs ls (by omega) (by omega) (mw_step hX (by omega) hnn hpp hY (by omega)) (by omega) hg (lv_sub hl [1, 2, 0] rfl) hP hD hS
                    · have h207 := mt (nI_leI (by omega) (by omega)).mpr h207
                      have hyl := mw_pl hY (by omega)
                      refine lv_aload_n hx hb d_Mo_writePackets_210 rfl (lv_at hl 0 rfl) ?_
                      refine va_get (D := D) (ci := 13) (v := .ref (r 1)) (C := R_Mo) (T := F_Mo) (N := 54) hx hb hts i_Mo hown hK hP 0 rfl rfl 1 (by decide) (hts _ wd_1089) (fun _ h9 => h9) rfl d_Mo_writePackets_211 ?_
                      refine lv_aload_n hx hb d_Mo_writePackets_214 rfl (lv_at hl 0 rfl) ?_
                      refine va_get (D := D) (ci := 13) (v := .int (nI X.length)) (C := R_Mo) (T := F_Mo) (N := 54) hx hb hts i_Mo hown hK hP 0 rfl rfl 2 (by decide) (hts _ wd_1090) (fun _ h9 => h9) rfl d_Mo_writePackets_215 ?_
                      refine lv_iconst (v := 4) hx hb d_Mo_writePackets_218 (by decide) ?_
                      refine lv_iadd hx hb d_Mo_writePackets_219 ?_
                      refine z_topi (w := nI (X.length + 4)) (nI_add _ 4) ?_
                      refine lv_iload hx hb d_Mo_writePackets_220 (lv_at hl 4 rfl) ?_
                      refine lv_iadd hx hb d_Mo_writePackets_222 ?_
                      refine z_topi (w := nI (X.length + 4 + (184 - nn))) (nI_add _ _) ?_
                      refine lv_iload hx hb d_Mo_writePackets_223 (lv_at hl 5 rfl) ?_
                      refine lv_iadd hx hb d_Mo_writePackets_225 ?_
                      refine z_topi (w := nI (X.length + 4 + (184 - nn) + k)) (nI_add _ _) ?_
                      refine lv_aload_n hx hb d_Mo_writePackets_226 rfl (lv_at hl 0 rfl) ?_
                      refine va_get (D := D) (ci := 13) (v := .ref (r 52)) (C := R_Mo) (T := F_Mo) (N := 54) hx hb hts i_Mo hown hK hP 0 rfl rfl 52 (by decide) (hts _ wd_1140) (fun _ h9 => h9) rfl d_Mo_writePackets_227 ?_
                      refine lv_iload_n hx hb d_Mo_writePackets_230 rfl (lv_at hl 2 rfl) ?_
                      refine lv_iload hx hb d_Mo_writePackets_231 (lv_at hl 5 rfl) ?_
                      refine lv_iadd hx hb d_Mo_writePackets_233 ?_
                      refine z_topi (w := nI (184 * j + k)) (nI_add _ _) ?_
                      refine z_iald hx hb hK hP 3 0 rfl rfl (184 * j + k) rfl (by omega) (by omega) d_Mo_writePackets_234 ?_
                      refine z_topi (w := P.getD k 0) (by rw [hro _ (by omega)]; exact mw_at hpp (by omega)) ?_
                      refine z_iast hx hb hK hP hD hS 1 0 rfl rfl (X.length + 4 + (184 - nn) + k) rfl (by omega) (by omega) d_Mo_writePackets_235 (fun H locs hP hD hS => ?_)
                      have hP : va_P D classes [(h, .inr (13, mO r th (nI X.length) le lv pg pn pl (nI L.length))), (r 1, .inl (cI, 9400, .inl (upd g (X.length + 4 + (184 - nn) + k) (P.getD k 0)))), (r 51, .inl (cI, 8192, .inl (upd wr pid (nI (w0 + (j + 1)))))), (r 52, .inl (cI, 4200, .inl ro))] H := hP
                      have hD : va_D A [(h, .inr (13, mO r th (nI X.length) le lv pg pn pl (nI L.length))), (r 1, .inl (cI, 9400, .inl (upd g (X.length + 4 + (184 - nn) + k) (P.getD k 0)))), (r 51, .inl (cI, 8192, .inl (upd wr pid (nI (w0 + (j + 1)))))), (r 52, .inl (cI, 4200, .inl ro))] := hD
                      refine lv_iinc (k := 5) (v := nI (k + 1)) (lv' := [(5, .int (nI (k + 1))), (0, .ref h), (1, .int (nI pid)), (2, .int (nI (184 * j))), (3, .int (nI nn)), (4, .int (nI (184 - nn)))]) hx hb d_Mo_writePackets_236 hl rfl (nI_1 k) (by decide) rfl (fun ls hl => ?_)
                      refine lv_goto (tgt := 204) hx hb d_Mo_writePackets_239 rfl ?_
                      exact ih204 (k + 1) (Y ++ [P.getD k 0]) (upd g (X.length + 4 + (184 - nn) + k) (P.getD k 0)) H locs ls (by omega) (by omega) (mw_pp hY (by omega)) (rl_at hg hyl) (lv_sub hl [1, 2, 3, 4, 5, 0] rfl) hP hD hS
                exact loop204 _ 0 Y g H locs ls (Nat.lt_succ_self _) (Nat.zero_le _) (mw_p0 hY h165) hg (lv_sub hl [1, 2, 3, 4, 5, 0] rfl) hP hD hS
              · have h165 := mt (nI_leI (by omega) (by omega)).mpr h165
                have hyl := mw_len hY (by omega)
                refine lv_aload_n hx hb d_Mo_writePackets_168 rfl (lv_at hl 0 rfl) ?_
                refine va_get (D := D) (ci := 13) (v := .ref (r 1)) (C := R_Mo) (T := F_Mo) (N := 54) hx hb hts i_Mo hown hK hP 0 rfl rfl 1 (by decide) (hts _ wd_1089) (fun _ h9 => h9) rfl d_Mo_writePackets_169 ?_
                refine lv_aload_n hx hb d_Mo_writePackets_172 rfl (lv_at hl 0 rfl) ?_
                refine va_get (D := D) (ci := 13) (v := .int (nI X.length)) (C := R_Mo) (T := F_Mo) (N := 54) hx hb hts i_Mo hown hK hP 0 rfl rfl 2 (by decide) (hts _ wd_1090) (fun _ h9 => h9) rfl d_Mo_writePackets_173 ?_
                refine lv_iconst (v := 4) hx hb d_Mo_writePackets_176 (by decide) ?_
                refine lv_iadd hx hb d_Mo_writePackets_177 ?_
                refine z_topi (w := nI (X.length + 4)) (nI_add _ 4) ?_
                refine lv_iload hx hb d_Mo_writePackets_178 (lv_at hl 5 rfl) ?_
                refine lv_iadd hx hb d_Mo_writePackets_180 ?_
                refine z_topi (w := nI (X.length + 4 + k)) (nI_add _ _) ?_
                refine lv_iload hx hb d_Mo_writePackets_181 (lv_at hl 5 rfl) ?_
                refine lv_iconst (v := 1) hx hb d_Mo_writePackets_183 (by decide) ?_
                suffices key184 : W p l e ({ frames := 0, cells := 0, slots := 0, locals := 0 }) s m ([.ref h, .int (nI pid)]).toArray below meth cd H locs 0 0 (MQ below (va_Qv (fun (u : Nat → Int32) => rl u (T ++ ppL pid w0 L.length 0 L)) (fun (u : Nat → Int32) t => zW D (A) [(h, .inr (13, mO r th (nI (T ++ ppL pid w0 L.length 0 L).length) le lv pg pn pl (nI L.length))), (r 1, .inl (cI, 9400, .inl u)), (r 51, .inl (cI, 8192, .inl (upd wr pid (nI (w0 + (L.length + 183) / 184))))), (r 52, .inl (cI, 4200, .inl ro))] [(cI, .int)] t) (A)) ([.ref h, .int (nI pid)]).toArray s 0 0 (A)) (F0 m 194 ls [.int (if k = 1 then 0 else 255), .int (nI (X.length + 4 + k)), .ref (r 1)]) by
                  refine lv_icmp_ne (tgt := 191) hx hb d_Mo_writePackets_184 rfl (fun h184 => ?_) (fun h184 => ?_)
                  · refine lv_sipush (v := 255) hx hb d_Mo_writePackets_191 (by decide) ?_
                    refine z_topi (w := (if k = 1 then 0 else 255)) ((if_neg (mt (fun z => by rw [z]; rfl) h184)).symm) ?_
                    exact key184
                  · refine lv_iconst (v := 0) hx hb d_Mo_writePackets_187 (by decide) ?_
                    refine lv_goto (tgt := 194) hx hb d_Mo_writePackets_188 rfl ?_
                    refine z_topi (w := (if k = 1 then 0 else 255)) ((if_pos ((nI_eq (b := 1) (by omega) (by omega)).mp h184)).symm) ?_
                    exact key184
                refine z_iast hx hb hK hP hD hS 1 0 rfl rfl (X.length + 4 + k) rfl (by omega) (by omega) d_Mo_writePackets_194 (fun H locs hP hD hS => ?_)
                have hP : va_P D classes [(h, .inr (13, mO r th (nI X.length) le lv pg pn pl (nI L.length))), (r 1, .inl (cI, 9400, .inl (upd g (X.length + 4 + k) (if k = 1 then 0 else 255)))), (r 51, .inl (cI, 8192, .inl (upd wr pid (nI (w0 + (j + 1)))))), (r 52, .inl (cI, 4200, .inl ro))] H := hP
                have hD : va_D A [(h, .inr (13, mO r th (nI X.length) le lv pg pn pl (nI L.length))), (r 1, .inl (cI, 9400, .inl (upd g (X.length + 4 + k) (if k = 1 then 0 else 255)))), (r 51, .inl (cI, 8192, .inl (upd wr pid (nI (w0 + (j + 1)))))), (r 52, .inl (cI, 4200, .inl ro))] := hD
                refine lv_iinc (k := 5) (v := nI (k + 1)) (lv' := [(5, .int (nI (k + 1))), (0, .ref h), (1, .int (nI pid)), (2, .int (nI (184 * j))), (3, .int (nI nn)), (4, .int (nI (184 - nn)))]) hx hb d_Mo_writePackets_195 hl rfl (nI_1 k) (by decide) rfl (fun ls hl => ?_)
                refine lv_goto (tgt := 161) hx hb d_Mo_writePackets_198 rfl ?_
                exact ih161 (k + 1) (Y ++ [if k = 1 then 0 else 255]) (upd g (X.length + 4 + k) (if k = 1 then 0 else 255)) H locs ls (by omega) (by omega) (by omega) (mw_st hY (by omega) hk1) (rl_at hg hyl) (lv_sub hl [1, 2, 3, 4, 5, 0] rfl) hP hD hS
          exact loop161 _ 1 ((X ++ hd4 pid (decide (184 * j = 0)) (w0 + j) nn) ++ [nI (184 - nn - 1)]) (upd g1 (X.length + 4) (nI (184 - nn - 1))) H locs ls (Nat.lt_succ_self _) (Nat.le_refl _) (by omega) (mw_i1 h140) (rl_at hg1 (by simp [hd4])) (lv_sub hl [3, 4, 5, 2, 1, 0] rfl) hP hD hS
  have e0 : wr = upd wr pid (nI (w0 + 0)) := (mw_same hw).symm
  rw [e0] at hP hD
  exact loop2 _ 0 T tp s.heap [] ls (Nat.lt_succ_self _) (by omega) (by simp [ppL]) (by omega) htp (lv_sub hl [1, 2, 0] rfl) hP hD hS
set_option maxHeartbeats 4000000 in
set_option maxRecDepth 100000 in
theorem c_Mo_beginTable (l : Launch) (D : va_G) (sz : Nat) (cI : ClassId) (h : Nat) (r : Nat → Nat) (th si le lv pg pn pl : Int32) (rs : Int32) (ro : Nat → Int32) (tb nu ve : Int32)  : Met l y_Mo_beginTable [Cond.code y_Mo_beginTable b_Mo_beginTable 4 none] ({ frames := 1, cells := 0, slots := 0, locals := 24 }) (zM [.ref h, .int tb, .int nu, .int ve] D [(h, .inr (13, mO r th si le lv pg pn pl rs)), (r 52, .inl (cI, 4200, .inl ro))] [(cI, .int)] sz) (va_Qv (fun (u : Nat → Int32) => rl u (((((bsL 0 1 ++ bsL tb.toInt64 1) ++ bsL 0 2) ++ bsL nu.toInt64 2) ++ bsL ((193 : Int64) ||| (ve.toInt64 <<< ((1 : Int32).toInt64 &&& 63))) 1) ++ bsL 0 2)) (fun (u : Nat → Int32) t => zW D (va_A [(h, .inr (13, mO r th si le lv pg pn pl rs)), (r 52, .inl (cI, 4200, .inl ro))] sz) [(h, .inr (13, mO r th si le lv pg pn pl (nI 9))), (r 52, .inl (cI, 4200, .inl u))] [(cI, .int)] t) (va_A [(h, .inr (13, mO r th si le lv pg pn pl rs)), (r 52, .inl (cI, 4200, .inl ro))] sz)) 0 0 (va_A [(h, .inr (13, mO r th si le lv pg pn pl rs)), (r 52, .inl (cI, 4200, .inl ro))] sz) := by
  refine Met.ofW (cc := b_Mo_beginTable) (maxL := 4) (ret := none) (by decide) rfl ?_
  intro p e s m args below meth cd s₁ Bd hml hv
  obtain ⟨rfl, hsz, hP, hK, hN, hD0⟩ := hv
  have hx := Bd.exec
  have hb := Bd.bytes
  have hr := Bd.returns
  have hts := hN.use (a := ([.ref h, .int tb, .int nu, .int ve]).toArray)
  have hown : s.vm.findClass R_Mo = some m.cls := findClass_of_methodNamed Bd.named
  have hlocks := Bd.notSynchronized
  subst hsz
  have hD := hD0.self (sz := s.heap.size)
  clear hD0
  have hA : ∀ q : Nat, s.heap.size ≤ q → va_A [(h, .inr (13, mO r th si le lv pg pn pl rs)), (r 52, .inl (cI, 4200, .inl ro))] s.heap.size q := fun q h => Or.inr h
  have hS : va_S (va_A [(h, .inr (13, mO r th si le lv pg pn pl rs)), (r 52, .inl (cI, 4200, .inl ro))] s.heap.size) s.heap s.heap [] := va_S.rf
  generalize hAe : va_A [(h, .inr (13, mO r th si le lv pg pn pl rs)), (r 52, .inl (cI, 4200, .inl ro))] s.heap.size = A at hD hA hS ⊢
  have hP : va_P D classes [(h, .inr (13, mO r th si le lv pg pn pl rs)), (r 52, .inl (cI, 4200, .inl ro))] s.heap := hP
  have hl := lv_entry ([.ref h, .int tb, .int nu, .int ve]) (n := 4) (Nat.le_of_ble_eq_true rfl)
  rw [lg_entry_eq]
  generalize (lg_sl ([.ref h, .int tb, .int nu, .int ve]) ++ List.replicate (4 - (lg_sl ([.ref h, .int tb, .int nu, .int ve])).length) Slot.unset).toArray = ls at hl ⊢
  have hl : lv_has ls 4 [(0, .ref h), (1, .int tb), (2, .int nu), (3, .int ve)] := hl
  refine lv_aload_n hx hb d_Mo_beginTable_0 rfl (lv_at hl 0 rfl) ?_
  refine lv_iconst (v := 0) hx hb d_Mo_beginTable_1 (by decide) ?_
  refine va_put (D := D) (ci := 13) (v := .int 0) (ty := .int) (C := R_Mo) (T := F_Mo) (N := 54) hx hb hts i_Mo t_Mo t_Mo_ok n_Mo hown hK hP hD hS 0 rfl rfl 53 (by decide) (hts _ wd_1141) (fun _ h9 => h9) rfl (by decide +kernel) rfl rfl (Nat.le_of_ble_eq_true rfl) d_Mo_beginTable_2 (fun H locs hP hD hS => ?_)
  have hP : va_P D classes [(h, .inr (13, mO r th si le lv pg pn pl 0)), (r 52, .inl (cI, 4200, .inl ro))] H := hP
  have hD : va_D A [(h, .inr (13, mO r th si le lv pg pn pl 0)), (r 52, .inl (cI, 4200, .inl ro))] := hD
  refine lv_aload_n hx hb d_Mo_beginTable_5 rfl (lv_at hl 0 rfl) ?_
  refine lv_lconst (v := 0) hx hb d_Mo_beginTable_6 (by decide) ?_
  refine lv_iconst (v := 1) hx hb d_Mo_beginTable_7 (by decide) ?_
  have hPc := hP.sub (ws' := [(h, .inr (13, mO r th si le lv pg pn pl (nI ([] : List Int32).length))), (r 52, .inl (cI, 4200, .inl ro))]) [0, 1] rfl
  have hKc := hK.sub (tys' := [(cI, .int)]) [0] rfl
  have hDc := hD.sub (ws' := [(h, .inr (13, mO r th si le lv pg pn pl (nI ([] : List Int32).length))), (r 52, .inl (cI, 4200, .inl ro))]) [0, 1] (by decide) rfl
  have hFc := va_free (wc := [(h, .inr (13, mO r th si le lv pg pn pl (nI ([] : List Int32).length))), (r 52, .inl (cI, 4200, .inl ro))]) hD hS hA [0, 1] rfl
  refine va_callv (va_runV (As := [.long 0, .int (nI 1)]) (rest := []) ⟨hx, hb, hml, hown, hts⟩ (c_Mo_put l D H.size cI h r th si le lv pg pn pl ([] : List Int32) ro 0 1 rl_nil (by (try simp only [List.length_append, bs_len, List.length_nil]); omega) (by omega) (by omega)) (z_cV hN wd_1451 wd_67 wd_1448 hd_Mo_put rfl rfl ⟨Nat.le_of_ble_eq_true rfl, Nat.le_of_ble_eq_true rfl⟩ wd_1450 wd_55) (z_preVm (va_recv (ci := 13) (q0 := 0) hK hP rfl rfl) hPc hKc hN hDc) rfl rfl hl.1 rfl (lv_room (Nat.le_of_ble_eq_true rfl)) d_Mo_beginTable_8 ⟨Nat.le_of_ble_eq_true rfl, Nat.le_of_ble_eq_true rfl⟩) hS (fun q _ h => hFc q h) hFc (fun g8 t H locs ht hvm e8 hB hz1 hk1 hS => ?_)
  obtain ⟨hP1, hK1, hD1⟩ := hB
  rw [ht] at hP1
  obtain ⟨hP, hD⟩ := va_join (wr := []) (w1 := [(h, .inr (13, mO r th si le lv pg pn pl (nI (([] : List Int32) ++ bsL 0 1).length))), (r 52, .inl (cI, 4200, .inl g8))]) hP hD [0, 1] [] rfl rfl (by decide) (by decide) hk1 hFc hP1 hD1
  clear hk1 hP1 hD1 hFc hPc hDc hz1
  have hP : va_P D classes [(h, .inr (13, mO r th si le lv pg pn pl (nI (([] : List Int32) ++ bsL 0 1).length))), (r 52, .inl (cI, 4200, .inl g8))] H := hP
  have hD : va_D A [(h, .inr (13, mO r th si le lv pg pn pl (nI (([] : List Int32) ++ bsL 0 1).length))), (r 52, .inl (cI, 4200, .inl g8))] := hD
  refine lv_aload_n hx hb d_Mo_beginTable_11 rfl (lv_at hl 0 rfl) ?_
  refine lv_iload_n hx hb d_Mo_beginTable_12 rfl (lv_at hl 1 rfl) ?_
  refine lv_i2l (v := tb.toInt64) hx hb d_Mo_beginTable_13 rfl ?_
  refine lv_iconst (v := 1) hx hb d_Mo_beginTable_14 (by decide) ?_
  have hPc := hP.sub (ws' := [(h, .inr (13, mO r th si le lv pg pn pl (nI (([] : List Int32) ++ bsL 0 1).length))), (r 52, .inl (cI, 4200, .inl g8))]) [0, 1] rfl
  have hKc := hK.sub (tys' := [(cI, .int)]) [0] rfl
  have hDc := hD.sub (ws' := [(h, .inr (13, mO r th si le lv pg pn pl (nI (([] : List Int32) ++ bsL 0 1).length))), (r 52, .inl (cI, 4200, .inl g8))]) [0, 1] (by decide) rfl
  have hFc := va_free (wc := [(h, .inr (13, mO r th si le lv pg pn pl (nI (([] : List Int32) ++ bsL 0 1).length))), (r 52, .inl (cI, 4200, .inl g8))]) hD hS hA [0, 1] rfl
  refine va_callv (va_runV (As := [.long tb.toInt64, .int (nI 1)]) (rest := []) ⟨hx, hb, hml, hown, hts⟩ (c_Mo_put l D H.size cI h r th si le lv pg pn pl (([] : List Int32) ++ bsL 0 1) g8 tb.toInt64 1 e8 (by (try simp only [List.length_append, bs_len, List.length_nil]); omega) (by omega) (by omega)) (z_cV hN wd_1451 wd_67 wd_1448 hd_Mo_put rfl rfl ⟨Nat.le_of_ble_eq_true rfl, Nat.le_of_ble_eq_true rfl⟩ wd_1450 wd_55) (z_preVm (va_recv (ci := 13) (q0 := 0) hK hP rfl rfl) hPc hKc hN hDc) rfl rfl hl.1 rfl (lv_room (Nat.le_of_ble_eq_true rfl)) d_Mo_beginTable_15 ⟨Nat.le_of_ble_eq_true rfl, Nat.le_of_ble_eq_true rfl⟩) hS (fun q _ h => hFc q h) hFc (fun g15 t H locs ht hvm e15 hB hz1 hk1 hS => ?_)
  obtain ⟨hP1, hK1, hD1⟩ := hB
  rw [ht] at hP1
  obtain ⟨hP, hD⟩ := va_join (wr := []) (w1 := [(h, .inr (13, mO r th si le lv pg pn pl (nI ((([] : List Int32) ++ bsL 0 1) ++ bsL tb.toInt64 1).length))), (r 52, .inl (cI, 4200, .inl g15))]) hP hD [0, 1] [] rfl rfl (by decide) (by decide) hk1 hFc hP1 hD1
  clear hk1 hP1 hD1 hFc hPc hDc hz1
  have hP : va_P D classes [(h, .inr (13, mO r th si le lv pg pn pl (nI ((([] : List Int32) ++ bsL 0 1) ++ bsL tb.toInt64 1).length))), (r 52, .inl (cI, 4200, .inl g15))] H := hP
  have hD : va_D A [(h, .inr (13, mO r th si le lv pg pn pl (nI ((([] : List Int32) ++ bsL 0 1) ++ bsL tb.toInt64 1).length))), (r 52, .inl (cI, 4200, .inl g15))] := hD
  refine lv_aload_n hx hb d_Mo_beginTable_18 rfl (lv_at hl 0 rfl) ?_
  refine lv_lconst (v := 0) hx hb d_Mo_beginTable_19 (by decide) ?_
  refine lv_iconst (v := 2) hx hb d_Mo_beginTable_20 (by decide) ?_
  have hPc := hP.sub (ws' := [(h, .inr (13, mO r th si le lv pg pn pl (nI ((([] : List Int32) ++ bsL 0 1) ++ bsL tb.toInt64 1).length))), (r 52, .inl (cI, 4200, .inl g15))]) [0, 1] rfl
  have hKc := hK.sub (tys' := [(cI, .int)]) [0] rfl
  have hDc := hD.sub (ws' := [(h, .inr (13, mO r th si le lv pg pn pl (nI ((([] : List Int32) ++ bsL 0 1) ++ bsL tb.toInt64 1).length))), (r 52, .inl (cI, 4200, .inl g15))]) [0, 1] (by decide) rfl
  have hFc := va_free (wc := [(h, .inr (13, mO r th si le lv pg pn pl (nI ((([] : List Int32) ++ bsL 0 1) ++ bsL tb.toInt64 1).length))), (r 52, .inl (cI, 4200, .inl g15))]) hD hS hA [0, 1] rfl
  refine va_callv (va_runV (As := [.long 0, .int (nI 2)]) (rest := []) ⟨hx, hb, hml, hown, hts⟩ (c_Mo_put l D H.size cI h r th si le lv pg pn pl ((([] : List Int32) ++ bsL 0 1) ++ bsL tb.toInt64 1) g15 0 2 e15 (by (try simp only [List.length_append, bs_len, List.length_nil]); omega) (by omega) (by omega)) (z_cV hN wd_1451 wd_67 wd_1448 hd_Mo_put rfl rfl ⟨Nat.le_of_ble_eq_true rfl, Nat.le_of_ble_eq_true rfl⟩ wd_1450 wd_55) (z_preVm (va_recv (ci := 13) (q0 := 0) hK hP rfl rfl) hPc hKc hN hDc) rfl rfl hl.1 rfl (lv_room (Nat.le_of_ble_eq_true rfl)) d_Mo_beginTable_21 ⟨Nat.le_of_ble_eq_true rfl, Nat.le_of_ble_eq_true rfl⟩) hS (fun q _ h => hFc q h) hFc (fun g21 t H locs ht hvm e21 hB hz1 hk1 hS => ?_)
  obtain ⟨hP1, hK1, hD1⟩ := hB
  rw [ht] at hP1
  obtain ⟨hP, hD⟩ := va_join (wr := []) (w1 := [(h, .inr (13, mO r th si le lv pg pn pl (nI (((([] : List Int32) ++ bsL 0 1) ++ bsL tb.toInt64 1) ++ bsL 0 2).length))), (r 52, .inl (cI, 4200, .inl g21))]) hP hD [0, 1] [] rfl rfl (by decide) (by decide) hk1 hFc hP1 hD1
  clear hk1 hP1 hD1 hFc hPc hDc hz1
  have hP : va_P D classes [(h, .inr (13, mO r th si le lv pg pn pl (nI (((([] : List Int32) ++ bsL 0 1) ++ bsL tb.toInt64 1) ++ bsL 0 2).length))), (r 52, .inl (cI, 4200, .inl g21))] H := hP
  have hD : va_D A [(h, .inr (13, mO r th si le lv pg pn pl (nI (((([] : List Int32) ++ bsL 0 1) ++ bsL tb.toInt64 1) ++ bsL 0 2).length))), (r 52, .inl (cI, 4200, .inl g21))] := hD
  refine lv_aload_n hx hb d_Mo_beginTable_24 rfl (lv_at hl 0 rfl) ?_
  refine lv_iload_n hx hb d_Mo_beginTable_25 rfl (lv_at hl 2 rfl) ?_
  refine lv_i2l (v := nu.toInt64) hx hb d_Mo_beginTable_26 rfl ?_
  refine lv_iconst (v := 2) hx hb d_Mo_beginTable_27 (by decide) ?_
  have hPc := hP.sub (ws' := [(h, .inr (13, mO r th si le lv pg pn pl (nI (((([] : List Int32) ++ bsL 0 1) ++ bsL tb.toInt64 1) ++ bsL 0 2).length))), (r 52, .inl (cI, 4200, .inl g21))]) [0, 1] rfl
  have hKc := hK.sub (tys' := [(cI, .int)]) [0] rfl
  have hDc := hD.sub (ws' := [(h, .inr (13, mO r th si le lv pg pn pl (nI (((([] : List Int32) ++ bsL 0 1) ++ bsL tb.toInt64 1) ++ bsL 0 2).length))), (r 52, .inl (cI, 4200, .inl g21))]) [0, 1] (by decide) rfl
  have hFc := va_free (wc := [(h, .inr (13, mO r th si le lv pg pn pl (nI (((([] : List Int32) ++ bsL 0 1) ++ bsL tb.toInt64 1) ++ bsL 0 2).length))), (r 52, .inl (cI, 4200, .inl g21))]) hD hS hA [0, 1] rfl
  refine va_callv (va_runV (As := [.long nu.toInt64, .int (nI 2)]) (rest := []) ⟨hx, hb, hml, hown, hts⟩ (c_Mo_put l D H.size cI h r th si le lv pg pn pl (((([] : List Int32) ++ bsL 0 1) ++ bsL tb.toInt64 1) ++ bsL 0 2) g21 nu.toInt64 2 e21 (by (try simp only [List.length_append, bs_len, List.length_nil]); omega) (by omega) (by omega)) (z_cV hN wd_1451 wd_67 wd_1448 hd_Mo_put rfl rfl ⟨Nat.le_of_ble_eq_true rfl, Nat.le_of_ble_eq_true rfl⟩ wd_1450 wd_55) (z_preVm (va_recv (ci := 13) (q0 := 0) hK hP rfl rfl) hPc hKc hN hDc) rfl rfl hl.1 rfl (lv_room (Nat.le_of_ble_eq_true rfl)) d_Mo_beginTable_28 ⟨Nat.le_of_ble_eq_true rfl, Nat.le_of_ble_eq_true rfl⟩) hS (fun q _ h => hFc q h) hFc (fun g28 t H locs ht hvm e28 hB hz1 hk1 hS => ?_)
  obtain ⟨hP1, hK1, hD1⟩ := hB
  rw [ht] at hP1
  obtain ⟨hP, hD⟩ := va_join (wr := []) (w1 := [(h, .inr (13, mO r th si le lv pg pn pl (nI ((((([] : List Int32) ++ bsL 0 1) ++ bsL tb.toInt64 1) ++ bsL 0 2) ++ bsL nu.toInt64 2).length))), (r 52, .inl (cI, 4200, .inl g28))]) hP hD [0, 1] [] rfl rfl (by decide) (by decide) hk1 hFc hP1 hD1
  clear hk1 hP1 hD1 hFc hPc hDc hz1
  have hP : va_P D classes [(h, .inr (13, mO r th si le lv pg pn pl (nI ((((([] : List Int32) ++ bsL 0 1) ++ bsL tb.toInt64 1) ++ bsL 0 2) ++ bsL nu.toInt64 2).length))), (r 52, .inl (cI, 4200, .inl g28))] H := hP
  have hD : va_D A [(h, .inr (13, mO r th si le lv pg pn pl (nI ((((([] : List Int32) ++ bsL 0 1) ++ bsL tb.toInt64 1) ++ bsL 0 2) ++ bsL nu.toInt64 2).length))), (r 52, .inl (cI, 4200, .inl g28))] := hD
  refine lv_aload_n hx hb d_Mo_beginTable_31 rfl (lv_at hl 0 rfl) ?_
  refine lv_ldc2 hx hb hown (hts _ wd_1452) d_Mo_beginTable_32 ?_
  refine lv_iload_n hx hb d_Mo_beginTable_35 rfl (lv_at hl 3 rfl) ?_
  refine lv_i2l (v := ve.toInt64) hx hb d_Mo_beginTable_36 rfl ?_
  refine lv_iconst (v := 1) hx hb d_Mo_beginTable_37 (by decide) ?_
  refine lv_lshl (v := ve.toInt64 <<< ((1 : Int32).toInt64 &&& 63)) hx hb d_Mo_beginTable_38 rfl ?_
  refine lv_lor hx hb d_Mo_beginTable_39 ?_
  refine lv_iconst (v := 1) hx hb d_Mo_beginTable_40 (by decide) ?_
  have hPc := hP.sub (ws' := [(h, .inr (13, mO r th si le lv pg pn pl (nI ((((([] : List Int32) ++ bsL 0 1) ++ bsL tb.toInt64 1) ++ bsL 0 2) ++ bsL nu.toInt64 2).length))), (r 52, .inl (cI, 4200, .inl g28))]) [0, 1] rfl
  have hKc := hK.sub (tys' := [(cI, .int)]) [0] rfl
  have hDc := hD.sub (ws' := [(h, .inr (13, mO r th si le lv pg pn pl (nI ((((([] : List Int32) ++ bsL 0 1) ++ bsL tb.toInt64 1) ++ bsL 0 2) ++ bsL nu.toInt64 2).length))), (r 52, .inl (cI, 4200, .inl g28))]) [0, 1] (by decide) rfl
  have hFc := va_free (wc := [(h, .inr (13, mO r th si le lv pg pn pl (nI ((((([] : List Int32) ++ bsL 0 1) ++ bsL tb.toInt64 1) ++ bsL 0 2) ++ bsL nu.toInt64 2).length))), (r 52, .inl (cI, 4200, .inl g28))]) hD hS hA [0, 1] rfl
  refine va_callv (va_runV (As := [.long (193 ||| (ve.toInt64 <<< ((1 : Int32).toInt64 &&& 63))), .int (nI 1)]) (rest := []) ⟨hx, hb, hml, hown, hts⟩ (c_Mo_put l D H.size cI h r th si le lv pg pn pl ((((([] : List Int32) ++ bsL 0 1) ++ bsL tb.toInt64 1) ++ bsL 0 2) ++ bsL nu.toInt64 2) g28 (193 ||| (ve.toInt64 <<< ((1 : Int32).toInt64 &&& 63))) 1 e28 (by (try simp only [List.length_append, bs_len, List.length_nil]); omega) (by omega) (by omega)) (z_cV hN wd_1451 wd_67 wd_1448 hd_Mo_put rfl rfl ⟨Nat.le_of_ble_eq_true rfl, Nat.le_of_ble_eq_true rfl⟩ wd_1450 wd_55) (z_preVm (va_recv (ci := 13) (q0 := 0) hK hP rfl rfl) hPc hKc hN hDc) rfl rfl hl.1 rfl (lv_room (Nat.le_of_ble_eq_true rfl)) d_Mo_beginTable_41 ⟨Nat.le_of_ble_eq_true rfl, Nat.le_of_ble_eq_true rfl⟩) hS (fun q _ h => hFc q h) hFc (fun g41 t H locs ht hvm e41 hB hz1 hk1 hS => ?_)
  obtain ⟨hP1, hK1, hD1⟩ := hB
  rw [ht] at hP1
  obtain ⟨hP, hD⟩ := va_join (wr := []) (w1 := [(h, .inr (13, mO r th si le lv pg pn pl (nI (((((([] : List Int32) ++ bsL 0 1) ++ bsL tb.toInt64 1) ++ bsL 0 2) ++ bsL nu.toInt64 2) ++ bsL (193 ||| (ve.toInt64 <<< ((1 : Int32).toInt64 &&& 63))) 1).length))), (r 52, .inl (cI, 4200, .inl g41))]) hP hD [0, 1] [] rfl rfl (by decide) (by decide) hk1 hFc hP1 hD1
  clear hk1 hP1 hD1 hFc hPc hDc hz1
  have hP : va_P D classes [(h, .inr (13, mO r th si le lv pg pn pl (nI (((((([] : List Int32) ++ bsL 0 1) ++ bsL tb.toInt64 1) ++ bsL 0 2) ++ bsL nu.toInt64 2) ++ bsL (193 ||| (ve.toInt64 <<< ((1 : Int32).toInt64 &&& 63))) 1).length))), (r 52, .inl (cI, 4200, .inl g41))] H := hP
  have hD : va_D A [(h, .inr (13, mO r th si le lv pg pn pl (nI (((((([] : List Int32) ++ bsL 0 1) ++ bsL tb.toInt64 1) ++ bsL 0 2) ++ bsL nu.toInt64 2) ++ bsL (193 ||| (ve.toInt64 <<< ((1 : Int32).toInt64 &&& 63))) 1).length))), (r 52, .inl (cI, 4200, .inl g41))] := hD
  refine lv_aload_n hx hb d_Mo_beginTable_44 rfl (lv_at hl 0 rfl) ?_
  refine lv_lconst (v := 0) hx hb d_Mo_beginTable_45 (by decide) ?_
  refine lv_iconst (v := 2) hx hb d_Mo_beginTable_46 (by decide) ?_
  have hPc := hP.sub (ws' := [(h, .inr (13, mO r th si le lv pg pn pl (nI (((((([] : List Int32) ++ bsL 0 1) ++ bsL tb.toInt64 1) ++ bsL 0 2) ++ bsL nu.toInt64 2) ++ bsL (193 ||| (ve.toInt64 <<< ((1 : Int32).toInt64 &&& 63))) 1).length))), (r 52, .inl (cI, 4200, .inl g41))]) [0, 1] rfl
  have hKc := hK.sub (tys' := [(cI, .int)]) [0] rfl
  have hDc := hD.sub (ws' := [(h, .inr (13, mO r th si le lv pg pn pl (nI (((((([] : List Int32) ++ bsL 0 1) ++ bsL tb.toInt64 1) ++ bsL 0 2) ++ bsL nu.toInt64 2) ++ bsL (193 ||| (ve.toInt64 <<< ((1 : Int32).toInt64 &&& 63))) 1).length))), (r 52, .inl (cI, 4200, .inl g41))]) [0, 1] (by decide) rfl
  have hFc := va_free (wc := [(h, .inr (13, mO r th si le lv pg pn pl (nI (((((([] : List Int32) ++ bsL 0 1) ++ bsL tb.toInt64 1) ++ bsL 0 2) ++ bsL nu.toInt64 2) ++ bsL (193 ||| (ve.toInt64 <<< ((1 : Int32).toInt64 &&& 63))) 1).length))), (r 52, .inl (cI, 4200, .inl g41))]) hD hS hA [0, 1] rfl
  refine va_callv (va_runV (As := [.long 0, .int (nI 2)]) (rest := []) ⟨hx, hb, hml, hown, hts⟩ (c_Mo_put l D H.size cI h r th si le lv pg pn pl (((((([] : List Int32) ++ bsL 0 1) ++ bsL tb.toInt64 1) ++ bsL 0 2) ++ bsL nu.toInt64 2) ++ bsL (193 ||| (ve.toInt64 <<< ((1 : Int32).toInt64 &&& 63))) 1) g41 0 2 e41 (by (try simp only [List.length_append, bs_len, List.length_nil]); omega) (by omega) (by omega)) (z_cV hN wd_1451 wd_67 wd_1448 hd_Mo_put rfl rfl ⟨Nat.le_of_ble_eq_true rfl, Nat.le_of_ble_eq_true rfl⟩ wd_1450 wd_55) (z_preVm (va_recv (ci := 13) (q0 := 0) hK hP rfl rfl) hPc hKc hN hDc) rfl rfl hl.1 rfl (lv_room (Nat.le_of_ble_eq_true rfl)) d_Mo_beginTable_47 ⟨Nat.le_of_ble_eq_true rfl, Nat.le_of_ble_eq_true rfl⟩) hS (fun q _ h => hFc q h) hFc (fun g47 t H locs ht hvm e47 hB hz1 hk1 hS => ?_)
  obtain ⟨hP1, hK1, hD1⟩ := hB
  rw [ht] at hP1
  obtain ⟨hP, hD⟩ := va_join (wr := []) (w1 := [(h, .inr (13, mO r th si le lv pg pn pl (nI ((((((([] : List Int32) ++ bsL 0 1) ++ bsL tb.toInt64 1) ++ bsL 0 2) ++ bsL nu.toInt64 2) ++ bsL (193 ||| (ve.toInt64 <<< ((1 : Int32).toInt64 &&& 63))) 1) ++ bsL 0 2).length))), (r 52, .inl (cI, 4200, .inl g47))]) hP hD [0, 1] [] rfl rfl (by decide) (by decide) hk1 hFc hP1 hD1
  clear hk1 hP1 hD1 hFc hPc hDc hz1
  have hP : va_P D classes [(h, .inr (13, mO r th si le lv pg pn pl (nI ((((((([] : List Int32) ++ bsL 0 1) ++ bsL tb.toInt64 1) ++ bsL 0 2) ++ bsL nu.toInt64 2) ++ bsL (193 ||| (ve.toInt64 <<< ((1 : Int32).toInt64 &&& 63))) 1) ++ bsL 0 2).length))), (r 52, .inl (cI, 4200, .inl g47))] H := hP
  have hD : va_D A [(h, .inr (13, mO r th si le lv pg pn pl (nI ((((((([] : List Int32) ++ bsL 0 1) ++ bsL tb.toInt64 1) ++ bsL 0 2) ++ bsL nu.toInt64 2) ++ bsL (193 ||| (ve.toInt64 <<< ((1 : Int32).toInt64 &&& 63))) 1) ++ bsL 0 2).length))), (r 52, .inl (cI, 4200, .inl g47))] := hD
  have hP9 := hP.sub (ws' := [(h, .inr (13, mO r th si le lv pg pn pl (nI ((((((([] : List Int32) ++ bsL 0 1) ++ bsL tb.toInt64 1) ++ bsL 0 2) ++ bsL nu.toInt64 2) ++ bsL (193 ||| (ve.toInt64 <<< ((1 : Int32).toInt64 &&& 63))) 1) ++ bsL 0 2).length))), (r 52, .inl (cI, 4200, .inl g47))]) [0, 1] rfl
  have hD9 := hD.sub (ws' := [(h, .inr (13, mO r th si le lv pg pn pl (nI ((((((([] : List Int32) ++ bsL 0 1) ++ bsL tb.toInt64 1) ++ bsL 0 2) ++ bsL nu.toInt64 2) ++ bsL (193 ||| (ve.toInt64 <<< ((1 : Int32).toInt64 &&& 63))) 1) ++ bsL 0 2).length))), (r 52, .inl (cI, 4200, .inl g47))]) [0, 1] (by decide) rfl
  have hK9 := hK.sub (tys' := [(cI, .int)]) [0] rfl
  exact W.vret hx hb hr (fun t ht hW => ⟨⟨g47, rfl, e47, ⟨by rw [ht]; exact hP9, va_K.moved hW.alike hK9, hD9⟩⟩, hS.F ht⟩) hS.2.2 d_Mo_beginTable_50
set_option maxHeartbeats 4000000 in
set_option maxRecDepth 100000 in
theorem c_Mo_seal (l : Launch) (D : va_G) (sz : Nat) (cI : ClassId) (h : Nat) (r : Nat → Nat) (th le lv pg pn pl rs : Int32) (n : Nat) (tp : Nat → Int32) (i c : Int32) (hn : n ≤ 9400) : Met l y_Mo_seal [Cond.code y_Mo_seal b_Mo_seal 5 none] ({ frames := 1, cells := 0, slots := 0, locals := 24 }) (zM [.ref h, .int i, .int c] D [(h, .inr (13, mO r th (nI n) le lv pg pn pl rs)), (r 1, .inl (cI, 9400, .inl tp))] [(cI, .int)] sz) (va_Qv (fun (u : Int32 × (Nat → Int32)) => ((i < 0 ∨ c < i ∨ nI n - 4 < c) ∧ u = (1, tp)) ∨ (∃ a9 b9 : Nat, i = nI a9 ∧ c = nI b9 ∧ a9 ≤ b9 ∧ b9 + 4 ≤ n ∧ u = (0, ms_f tp b9 (mk_c tp a9 (b9 - a9)) 4))) (fun (u : Int32 × (Nat → Int32)) t => zW D (va_A [(h, .inr (13, mO r th (nI n) le lv pg pn pl rs)), (r 1, .inl (cI, 9400, .inl tp))] sz) [(h, .inr (13, mO r u.1 (nI n) le lv pg pn pl rs)), (r 1, .inl (cI, 9400, .inl u.2))] [(cI, .int)] t) (va_A [(h, .inr (13, mO r th (nI n) le lv pg pn pl rs)), (r 1, .inl (cI, 9400, .inl tp))] sz)) 0 0 (va_A [(h, .inr (13, mO r th (nI n) le lv pg pn pl rs)), (r 1, .inl (cI, 9400, .inl tp))] sz) := by
  refine Met.ofW (cc := b_Mo_seal) (maxL := 5) (ret := none) (by decide) rfl ?_
  intro p e s m args below meth cd s₁ Bd hml hv
  obtain ⟨rfl, hsz, hP, hK, hN, hD0⟩ := hv
  have hx := Bd.exec
  have hb := Bd.bytes
  have hr := Bd.returns
  have hts := hN.use (a := ([.ref h, .int i, .int c]).toArray)
  have hown : s.vm.findClass R_Mo = some m.cls := findClass_of_methodNamed Bd.named
  have hlocks := Bd.notSynchronized
  subst hsz
  have hD := hD0.self (sz := s.heap.size)
  clear hD0
  have hA : ∀ q : Nat, s.heap.size ≤ q → va_A [(h, .inr (13, mO r th (nI n) le lv pg pn pl rs)), (r 1, .inl (cI, 9400, .inl tp))] s.heap.size q := fun q h => Or.inr h
  have hS : va_S (va_A [(h, .inr (13, mO r th (nI n) le lv pg pn pl rs)), (r 1, .inl (cI, 9400, .inl tp))] s.heap.size) s.heap s.heap [] := va_S.rf
  generalize hAe : va_A [(h, .inr (13, mO r th (nI n) le lv pg pn pl rs)), (r 1, .inl (cI, 9400, .inl tp))] s.heap.size = A at hD hA hS ⊢
  have hP : va_P D classes [(h, .inr (13, mO r th (nI n) le lv pg pn pl rs)), (r 1, .inl (cI, 9400, .inl tp))] s.heap := hP
  have hl := lv_entry ([.ref h, .int i, .int c]) (n := 5) (Nat.le_of_ble_eq_true rfl)
  rw [lg_entry_eq]
  generalize (lg_sl ([.ref h, .int i, .int c]) ++ List.replicate (5 - (lg_sl ([.ref h, .int i, .int c])).length) Slot.unset).toArray = ls at hl ⊢
  have hl : lv_has ls 5 [(0, .ref h), (1, .int i), (2, .int c)] := hl
  refine lv_aload_n hx hb d_Mo_seal_0 rfl (lv_at hl 0 rfl) ?_
  refine lv_iload_n hx hb d_Mo_seal_1 rfl (lv_at hl 1 rfl) ?_
  refine lv_if_lt (tgt := 20) hx hb d_Mo_seal_2 rfl (fun h2 => ?_) (fun h2 => ?_)
  · refine lv_iconst (v := 1) hx hb d_Mo_seal_20 (by decide) ?_
    refine lv_goto (tgt := 25) hx hb d_Mo_seal_21 rfl ?_
    refine va_put (D := D) (ci := 13) (v := .int 1) (ty := .int) (C := R_Mo) (T := F_Mo) (N := 54) hx hb hts i_Mo t_Mo t_Mo_ok n_Mo hown hK hP hD hS 0 rfl rfl 0 (by decide) (hts _ wd_1088) (fun _ h9 => h9) rfl (by decide +kernel) rfl rfl (Nat.le_of_ble_eq_true rfl) d_Mo_seal_25 (fun H locs hP hD hS => ?_)
    have hP : va_P D classes [(h, .inr (13, mO r 1 (nI n) le lv pg pn pl rs)), (r 1, .inl (cI, 9400, .inl tp))] H := hP
    have hD : va_D A [(h, .inr (13, mO r 1 (nI n) le lv pg pn pl rs)), (r 1, .inl (cI, 9400, .inl tp))] := hD
    refine lv_aload_n hx hb d_Mo_seal_28 rfl (lv_at hl 0 rfl) ?_
    refine va_get (D := D) (ci := 13) (v := .int 1) (C := R_Mo) (T := F_Mo) (N := 54) hx hb hts i_Mo hown hK hP 0 rfl rfl 0 (by decide) (hts _ wd_1088) (fun _ h9 => h9) rfl d_Mo_seal_29 ?_
    refine lv_if_ne (tgt := 102) hx hb d_Mo_seal_32 rfl (fun h32 => ?_) (fun h9 => absurd h9 (by decide))
    have hP9 := hP.sub (ws' := [(h, .inr (13, mO r 1 (nI n) le lv pg pn pl rs)), (r 1, .inl (cI, 9400, .inl tp))]) [0, 1] rfl
    have hD9 := hD.sub (ws' := [(h, .inr (13, mO r 1 (nI n) le lv pg pn pl rs)), (r 1, .inl (cI, 9400, .inl tp))]) [0, 1] (by decide) rfl
    have hK9 := hK.sub (tys' := [(cI, .int)]) [0] rfl
    exact W.vret hx hb hr (fun t ht hW => ⟨⟨(1, tp), rfl, Or.inl ⟨by first | exact Or.inl h2 | exact Or.inr (Or.inl h7) | exact Or.inr (Or.inr (Int32.not_le.mp h17)), rfl⟩, ⟨by rw [ht]; exact hP9, va_K.moved hW.alike hK9, hD9⟩⟩, hS.F ht⟩) hS.2.2 d_Mo_seal_102
  · refine lv_iload_n hx hb d_Mo_seal_5 rfl (lv_at hl 1 rfl) ?_
    refine lv_iload_n hx hb d_Mo_seal_6 rfl (lv_at hl 2 rfl) ?_
    refine lv_icmp_gt (tgt := 20) hx hb d_Mo_seal_7 rfl (fun h7 => ?_) (fun h7 => ?_)
    · refine lv_iconst (v := 1) hx hb d_Mo_seal_20 (by decide) ?_
      refine lv_goto (tgt := 25) hx hb d_Mo_seal_21 rfl ?_
      refine va_put (D := D) (ci := 13) (v := .int 1) (ty := .int) (C := R_Mo) (T := F_Mo) (N := 54) hx hb hts i_Mo t_Mo t_Mo_ok n_Mo hown hK hP hD hS 0 rfl rfl 0 (by decide) (hts _ wd_1088) (fun _ h9 => h9) rfl (by decide +kernel) rfl rfl (Nat.le_of_ble_eq_true rfl) d_Mo_seal_25 (fun H locs hP hD hS => ?_)
      have hP : va_P D classes [(h, .inr (13, mO r 1 (nI n) le lv pg pn pl rs)), (r 1, .inl (cI, 9400, .inl tp))] H := hP
      have hD : va_D A [(h, .inr (13, mO r 1 (nI n) le lv pg pn pl rs)), (r 1, .inl (cI, 9400, .inl tp))] := hD
      refine lv_aload_n hx hb d_Mo_seal_28 rfl (lv_at hl 0 rfl) ?_
      refine va_get (D := D) (ci := 13) (v := .int 1) (C := R_Mo) (T := F_Mo) (N := 54) hx hb hts i_Mo hown hK hP 0 rfl rfl 0 (by decide) (hts _ wd_1088) (fun _ h9 => h9) rfl d_Mo_seal_29 ?_
      refine lv_if_ne (tgt := 102) hx hb d_Mo_seal_32 rfl (fun h32 => ?_) (fun h9 => absurd h9 (by decide))
      have hP9 := hP.sub (ws' := [(h, .inr (13, mO r 1 (nI n) le lv pg pn pl rs)), (r 1, .inl (cI, 9400, .inl tp))]) [0, 1] rfl
      have hD9 := hD.sub (ws' := [(h, .inr (13, mO r 1 (nI n) le lv pg pn pl rs)), (r 1, .inl (cI, 9400, .inl tp))]) [0, 1] (by decide) rfl
      have hK9 := hK.sub (tys' := [(cI, .int)]) [0] rfl
      exact W.vret hx hb hr (fun t ht hW => ⟨⟨(1, tp), rfl, Or.inl ⟨by first | exact Or.inl h2 | exact Or.inr (Or.inl h7) | exact Or.inr (Or.inr (Int32.not_le.mp h17)), rfl⟩, ⟨by rw [ht]; exact hP9, va_K.moved hW.alike hK9, hD9⟩⟩, hS.F ht⟩) hS.2.2 d_Mo_seal_102
    · refine lv_iload_n hx hb d_Mo_seal_10 rfl (lv_at hl 2 rfl) ?_
      refine lv_aload_n hx hb d_Mo_seal_11 rfl (lv_at hl 0 rfl) ?_
      refine va_get (D := D) (ci := 13) (v := .int (nI n)) (C := R_Mo) (T := F_Mo) (N := 54) hx hb hts i_Mo hown hK hP 0 rfl rfl 2 (by decide) (hts _ wd_1090) (fun _ h9 => h9) rfl d_Mo_seal_12 ?_
      refine lv_iconst (v := 4) hx hb d_Mo_seal_15 (by decide) ?_
      refine lv_isub hx hb d_Mo_seal_16 ?_
      refine lv_icmp_le (tgt := 24) hx hb d_Mo_seal_17 rfl (fun h17 => ?_) (fun h17 => ?_)
      · obtain ⟨k, q, hik, hcq, hkq, hqn⟩ := sl_in hn h2 h7 h17
        subst hik
        subst hcq
        refine lv_iconst (v := 0) hx hb d_Mo_seal_24 (by decide) ?_
        refine va_put (D := D) (ci := 13) (v := .int 0) (ty := .int) (C := R_Mo) (T := F_Mo) (N := 54) hx hb hts i_Mo t_Mo t_Mo_ok n_Mo hown hK hP hD hS 0 rfl rfl 0 (by decide) (hts _ wd_1088) (fun _ h9 => h9) rfl (by decide +kernel) rfl rfl (Nat.le_of_ble_eq_true rfl) d_Mo_seal_25 (fun H locs hP hD hS => ?_)
        have hP : va_P D classes [(h, .inr (13, mO r 0 (nI n) le lv pg pn pl rs)), (r 1, .inl (cI, 9400, .inl tp))] H := hP
        have hD : va_D A [(h, .inr (13, mO r 0 (nI n) le lv pg pn pl rs)), (r 1, .inl (cI, 9400, .inl tp))] := hD
        refine lv_aload_n hx hb d_Mo_seal_28 rfl (lv_at hl 0 rfl) ?_
        refine va_get (D := D) (ci := 13) (v := .int 0) (C := R_Mo) (T := F_Mo) (N := 54) hx hb hts i_Mo hown hK hP 0 rfl rfl 0 (by decide) (hts _ wd_1088) (fun _ h9 => h9) rfl d_Mo_seal_29 ?_
        refine lv_if_ne (tgt := 102) hx hb d_Mo_seal_32 rfl (fun h9 => absurd h9 (by decide)) (fun h32 => ?_)
        refine lv_iconst (v := (-1)) hx hb d_Mo_seal_35 (by decide) ?_
        refine lv_istore_n (lv' := [(3, .int (-1)), (0, .ref h), (1, .int (nI k)), (2, .int (nI q))]) hx hb d_Mo_seal_36 rfl hl (by decide) rfl (fun ls hl => ?_)
        refine lv_iload_n hx hb d_Mo_seal_37 rfl (lv_at hl 2 rfl) ?_
        refine lv_istore (lv' := [(4, .int (nI k)), (3, .int (-1)), (0, .ref h), (1, .int (nI k)), (2, .int (nI q))]) hx hb d_Mo_seal_38 hl (by decide) rfl (fun ls hl => ?_)
        have loop40 : ∀ (N : Nat) (j : Nat) (H : Heap) (locs : List Loc) (ls : Array Slot) (hm : q - j < N) (hj : k + j ≤ q) (hl : lv_has ls 5 [(0, .ref h), (2, .int (nI q)), (3, .int (mk_c tp k j)), (4, .int (nI (k + j)))]) (hP : va_P D classes [(h, .inr (13, mO r 0 (nI n) le lv pg pn pl rs)), (r 1, .inl (cI, 9400, .inl tp))] H) (hD : va_D A [(h, .inr (13, mO r 0 (nI n) le lv pg pn pl rs)), (r 1, .inl (cI, 9400, .inl tp))]) (hS : va_S A s.heap H locs), W p l e ({ frames := 1, cells := 0, slots := 0, locals := 24 }) s m ([.ref h, .int (nI k), .int (nI q)]).toArray below meth cd H locs 0 0 (MQ below (va_Qv (fun (u : Int32 × (Nat → Int32)) => (((nI k) < 0 ∨ (nI q) < (nI k) ∨ nI n - 4 < (nI q)) ∧ u = (1, tp)) ∨ (∃ a9 b9 : Nat, (nI k) = nI a9 ∧ (nI q) = nI b9 ∧ a9 ≤ b9 ∧ b9 + 4 ≤ n ∧ u = (0, ms_f tp b9 (mk_c tp a9 (b9 - a9)) 4))) (fun (u : Int32 × (Nat → Int32)) t => zW D (A) [(h, .inr (13, mO r u.1 (nI n) le lv pg pn pl rs)), (r 1, .inl (cI, 9400, .inl u.2))] [(cI, .int)] t) (A)) ([.ref h, .int (nI k), .int (nI q)]).toArray s 0 0 (A)) (F0 m 40 ls []) := by
          intro N40
          induction N40 with
          | zero => intro j H locs ls hm hj hl hP hD hS; exact absurd hm (Nat.not_lt_zero _)
          | succ N40 ih40 =>
            intro j H locs ls hm hj hl hP hD hS
            refine lv_iload hx hb d_Mo_seal_40 (lv_at hl 3 rfl) ?_
            refine lv_iload_n hx hb d_Mo_seal_42 rfl (lv_at hl 1 rfl) ?_
            refine lv_icmp_ge (tgt := 64) hx hb d_Mo_seal_43 rfl (fun h43 => ?_) (fun h43 => ?_)
            · have h43 := (nI_leI (by omega) (by omega)).mp h43
              obtain rfl : j = q - k := by omega
              refine lv_iconst (v := 0) hx hb d_Mo_seal_64 (by decide) ?_
              refine lv_istore (lv' := [(4, .int 0), (0, .ref h), (2, .int (nI q)), (3, .int (mk_c tp k (q - k)))]) hx hb d_Mo_seal_65 hl (by decide) rfl (fun ls hl => ?_)
              have loop67 : ∀ (N : Nat) (j : Nat) (H : Heap) (locs : List Loc) (ls : Array Slot) (hm : 4 - j < N) (hj : j ≤ 4) (hl : lv_has ls 5 [(0, .ref h), (2, .int (nI q)), (3, .int (mk_c tp k (q - k))), (4, .int (nI j))]) (hP : va_P D classes [(h, .inr (13, mO r 0 (nI n) le lv pg pn pl rs)), (r 1, .inl (cI, 9400, .inl (ms_f tp q (mk_c tp k (q - k)) j)))] H) (hD : va_D A [(h, .inr (13, mO r 0 (nI n) le lv pg pn pl rs)), (r 1, .inl (cI, 9400, .inl (ms_f tp q (mk_c tp k (q - k)) j)))]) (hS : va_S A s.heap H locs), W p l e ({ frames := 1, cells := 0, slots := 0, locals := 24 }) s m ([.ref h, .int (nI k), .int (nI q)]).toArray below meth cd H locs 0 0 (MQ below (va_Qv (fun (u : Int32 × (Nat → Int32)) => (((nI k) < 0 ∨ (nI q) < (nI k) ∨ nI n - 4 < (nI q)) ∧ u = (1, tp)) ∨ (∃ a9 b9 : Nat, (nI k) = nI a9 ∧ (nI q) = nI b9 ∧ a9 ≤ b9 ∧ b9 + 4 ≤ n ∧ u = (0, ms_f tp b9 (mk_c tp a9 (b9 - a9)) 4))) (fun (u : Int32 × (Nat → Int32)) t => zW D (A) [(h, .inr (13, mO r u.1 (nI n) le lv pg pn pl rs)), (r 1, .inl (cI, 9400, .inl u.2))] [(cI, .int)] t) (A)) ([.ref h, .int (nI k), .int (nI q)]).toArray s 0 0 (A)) (F0 m 67 ls []) := by
                intro N67
                induction N67 with
                | zero => intro j H locs ls hm hj hl hP hD hS; exact absurd hm (Nat.not_lt_zero _)
                | succ N67 ih67 =>
                  intro j H locs ls hm hj hl hP hD hS
                  refine lv_iload hx hb d_Mo_seal_67 (lv_at hl 3 rfl) ?_
                  refine lv_iconst (v := 4) hx hb d_Mo_seal_69 (by decide) ?_
                  refine lv_icmp_ge (tgt := 102) hx hb d_Mo_seal_70 rfl (fun h70 => ?_) (fun h70 => ?_)
                  · have h70 := (nI_leI (a := 4) (by omega) (by omega)).mp h70
                    obtain rfl : j = 4 := by omega
                    have hP9 := hP.sub (ws' := [(h, .inr (13, mO r 0 (nI n) le lv pg pn pl rs)), (r 1, .inl (cI, 9400, .inl (ms_f tp q (mk_c tp k (q - k)) 4)))]) [0, 1] rfl
                    have hD9 := hD.sub (ws' := [(h, .inr (13, mO r 0 (nI n) le lv pg pn pl rs)), (r 1, .inl (cI, 9400, .inl (ms_f tp q (mk_c tp k (q - k)) 4)))]) [0, 1] (by decide) rfl
                    have hK9 := hK.sub (tys' := [(cI, .int)]) [0] rfl
                    exact W.vret hx hb hr (fun t ht hW => ⟨⟨(0, ms_f tp q (mk_c tp k (q - k)) 4), rfl, Or.inr ⟨k, q, rfl, rfl, hkq, hqn, rfl⟩, ⟨by rw [ht]; exact hP9, va_K.moved hW.alike hK9, hD9⟩⟩, hS.F ht⟩) hS.2.2 d_Mo_seal_102
                  · have h70 := mt (nI_leI (a := 4) (by omega) (by omega)).mpr h70
                    refine lv_aload_n hx hb d_Mo_seal_73 rfl (lv_at hl 0 rfl) ?_
                    refine va_get (D := D) (ci := 13) (v := .ref (r 1)) (C := R_Mo) (T := F_Mo) (N := 54) hx hb hts i_Mo hown hK hP 0 rfl rfl 1 (by decide) (hts _ wd_1089) (fun _ h9 => h9) rfl d_Mo_seal_74 ?_
                    refine lv_iload_n hx hb d_Mo_seal_77 rfl (lv_at hl 1 rfl) ?_
                    refine lv_iload hx hb d_Mo_seal_78 (lv_at hl 3 rfl) ?_
                    refine lv_iadd hx hb d_Mo_seal_80 ?_
                    refine z_topi (w := nI (q + j)) (nI_add _ _) ?_
                    refine lv_iload_n hx hb d_Mo_seal_81 rfl (lv_at hl 2 rfl) ?_
                    refine lv_bipush (v := 24) hx hb d_Mo_seal_82 (by decide) ?_
                    refine lv_bipush (v := 8) hx hb d_Mo_seal_84 (by decide) ?_
                    refine lv_iload hx hb d_Mo_seal_86 (lv_at hl 3 rfl) ?_
                    refine lv_imul hx hb d_Mo_seal_88 ?_
                    refine lv_isub hx hb d_Mo_seal_89 ?_
                    refine lv_ishr hx hb d_Mo_seal_90 ?_
                    refine lv_sipush (v := 255) hx hb d_Mo_seal_91 (by decide) ?_
                    refine lv_iand hx hb d_Mo_seal_94 ?_
                    refine z_topi (w := ms_b (mk_c tp k (q - k)) j) rfl ?_
                    refine z_iast hx hb hK hP hD hS 1 0 rfl rfl (q + j) rfl (by omega) (by omega) d_Mo_seal_95 (fun H locs hP hD hS => ?_)
                    have hP : va_P D classes [(h, .inr (13, mO r 0 (nI n) le lv pg pn pl rs)), (r 1, .inl (cI, 9400, .inl (upd (ms_f tp q (mk_c tp k (q - k)) j) (q + j) (ms_b (mk_c tp k (q - k)) j))))] H := hP
                    have hD : va_D A [(h, .inr (13, mO r 0 (nI n) le lv pg pn pl rs)), (r 1, .inl (cI, 9400, .inl (upd (ms_f tp q (mk_c tp k (q - k)) j) (q + j) (ms_b (mk_c tp k (q - k)) j))))] := hD
                    refine lv_iinc (k := 3) (v := nI (j + 1)) (lv' := [(4, .int (nI (j + 1))), (0, .ref h), (2, .int (nI q)), (3, .int (mk_c tp k (q - k)))]) hx hb d_Mo_seal_96 hl rfl (nI_1 j) (by decide) rfl (fun ls hl => ?_)
                    refine lv_goto (tgt := 67) hx hb d_Mo_seal_99 rfl ?_
                    exact ih67 (j + 1) H locs ls (by omega) (by omega) (lv_sub hl [1, 2, 3, 0] rfl) hP hD hS
              exact loop67 _ 0 H locs ls (Nat.lt_succ_self _) (by omega) (lv_sub hl [1, 2, 3, 0] rfl) hP hD hS
            · have h43 := mt (nI_leI (by omega) (by omega)).mpr h43
              refine lv_iload_n hx hb d_Mo_seal_46 rfl (lv_at hl 2 rfl) ?_
              refine lv_aload_n hx hb d_Mo_seal_47 rfl (lv_at hl 0 rfl) ?_
              refine va_get (D := D) (ci := 13) (v := .ref (r 1)) (C := R_Mo) (T := F_Mo) (N := 54) hx hb hts i_Mo hown hK hP 0 rfl rfl 1 (by decide) (hts _ wd_1089) (fun _ h9 => h9) rfl d_Mo_seal_48 ?_
              refine lv_iload hx hb d_Mo_seal_51 (lv_at hl 3 rfl) ?_
              refine z_iald hx hb hK hP 1 0 rfl rfl (k + j) rfl (by omega) (by omega) d_Mo_seal_53 ?_
              have hPc := hP.sub (ws' := []) [] rfl
              have hKc := hK.sub (tys' := []) [] rfl
              refine z_ci (va_runS (As := [.int (mk_c tp k j), .int (tp (k + j))]) (rest := []) ⟨hx, hb, hml, hown, hts⟩ (c_Mo_checkOn l D (mk_c tp k j) (tp (k + j)) ) (z_cS hN wd_1284 wd_67 wd_1282 hd_Mo_checkOn rfl rfl ⟨Nat.le_of_ble_eq_true rfl, Nat.le_of_ble_eq_true rfl⟩ wd_1283) (z_preS hPc hKc hN) rfl rfl hl.1 rfl (lv_room (Nat.le_of_ble_eq_true rfl)) d_Mo_seal_54 ⟨Nat.le_of_ble_eq_true rfl, Nat.le_of_ble_eq_true rfl⟩) (fun r54 e54 => ?_)
              subst e54
              refine z_topi (w := mk_c tp k (j + 1)) rfl ?_
              refine lv_istore_n (lv' := [(3, .int (mk_c tp k (j + 1))), (0, .ref h), (2, .int (nI q)), (4, .int (nI (k + j)))]) hx hb d_Mo_seal_57 rfl hl (by decide) rfl (fun ls hl => ?_)
              refine lv_iinc (k := 3) (v := nI (k + (j + 1))) (lv' := [(4, .int (nI (k + (j + 1)))), (3, .int (mk_c tp k (j + 1))), (0, .ref h), (2, .int (nI q))]) hx hb d_Mo_seal_58 hl rfl (nI_1 (k + j)) (by decide) rfl (fun ls hl => ?_)
              refine lv_goto (tgt := 40) hx hb d_Mo_seal_61 rfl ?_
              exact ih40 (j + 1) H locs ls (by omega) (by omega) (lv_sub hl [2, 3, 1, 0] rfl) hP hD hS
        exact loop40 _ 0 H locs ls (Nat.lt_succ_self _) (by omega) (lv_sub hl [2, 4, 1, 0] rfl) hP hD hS
      · refine lv_iconst (v := 1) hx hb d_Mo_seal_20 (by decide) ?_
        refine lv_goto (tgt := 25) hx hb d_Mo_seal_21 rfl ?_
        refine va_put (D := D) (ci := 13) (v := .int 1) (ty := .int) (C := R_Mo) (T := F_Mo) (N := 54) hx hb hts i_Mo t_Mo t_Mo_ok n_Mo hown hK hP hD hS 0 rfl rfl 0 (by decide) (hts _ wd_1088) (fun _ h9 => h9) rfl (by decide +kernel) rfl rfl (Nat.le_of_ble_eq_true rfl) d_Mo_seal_25 (fun H locs hP hD hS => ?_)
        have hP : va_P D classes [(h, .inr (13, mO r 1 (nI n) le lv pg pn pl rs)), (r 1, .inl (cI, 9400, .inl tp))] H := hP
        have hD : va_D A [(h, .inr (13, mO r 1 (nI n) le lv pg pn pl rs)), (r 1, .inl (cI, 9400, .inl tp))] := hD
        refine lv_aload_n hx hb d_Mo_seal_28 rfl (lv_at hl 0 rfl) ?_
        refine va_get (D := D) (ci := 13) (v := .int 1) (C := R_Mo) (T := F_Mo) (N := 54) hx hb hts i_Mo hown hK hP 0 rfl rfl 0 (by decide) (hts _ wd_1088) (fun _ h9 => h9) rfl d_Mo_seal_29 ?_
        refine lv_if_ne (tgt := 102) hx hb d_Mo_seal_32 rfl (fun h32 => ?_) (fun h9 => absurd h9 (by decide))
        have hP9 := hP.sub (ws' := [(h, .inr (13, mO r 1 (nI n) le lv pg pn pl rs)), (r 1, .inl (cI, 9400, .inl tp))]) [0, 1] rfl
        have hD9 := hD.sub (ws' := [(h, .inr (13, mO r 1 (nI n) le lv pg pn pl rs)), (r 1, .inl (cI, 9400, .inl tp))]) [0, 1] (by decide) rfl
        have hK9 := hK.sub (tys' := [(cI, .int)]) [0] rfl
        exact W.vret hx hb hr (fun t ht hW => ⟨⟨(1, tp), rfl, Or.inl ⟨by first | exact Or.inl h2 | exact Or.inr (Or.inl h7) | exact Or.inr (Or.inr (Int32.not_le.mp h17)), rfl⟩, ⟨by rw [ht]; exact hP9, va_K.moved hW.alike hK9, hD9⟩⟩, hS.F ht⟩) hS.2.2 d_Mo_seal_102
