/-! Instructions, a row each (by program). -/
theorem at_1_0 : j_at 1 0 = some (.aload_n 0, 0, 0, 0) := by decide +kernel
theorem at_1_1 : j_at 1 1 = some (.iconst 0, 0, 0, 0) := by decide +kernel
theorem at_1_2 : j_at 1 2 = some (.putfield 21, 0, 0, 0) := by decide +kernel
theorem at_1_5 : j_at 1 5 = some (.return_, 0, 0, 0) := by decide +kernel
theorem at_2_0 : j_at 2 0 = some (.aload_n 0, 0, 0, 0) := by decide +kernel
theorem at_2_1 : j_at 2 1 = some (.getfield 15, 0, 2, 0) := by decide +kernel
theorem at_2_4 : j_at 2 4 = some (.iload_n 1, 0, 0, 0) := by decide +kernel
theorem at_2_5 : j_at 2 5 = some (.bipush 6, 0, 0, 6) := by decide +kernel
theorem at_2_7 : j_at 2 7 = some (.imul, 0, 0, 0) := by decide +kernel
theorem at_2_8 : j_at 2 8 = some (.iload_n 2, 0, 0, 0) := by decide +kernel
theorem at_2_9 : j_at 2 9 = some (.iadd, 0, 0, 0) := by decide +kernel
theorem at_2_10 : j_at 2 10 = some (.laload, 0, 0, 0) := by decide +kernel
theorem at_2_11 : j_at 2 11 = some (.lreturn, 0, 0, 0) := by decide +kernel
theorem at_3_0 : j_at 3 0 = some (.aload_n 0, 0, 0, 0) := by decide +kernel
theorem at_3_1 : j_at 3 1 = some (.getfield 18, 0, 3, 0) := by decide +kernel
theorem at_3_4 : j_at 3 4 = some (.iload_n 1, 0, 0, 0) := by decide +kernel
theorem at_3_5 : j_at 3 5 = some (.bipush 22, 0, 0, 22) := by decide +kernel
theorem at_3_7 : j_at 3 7 = some (.imul, 0, 0, 0) := by decide +kernel
theorem at_3_8 : j_at 3 8 = some (.iload_n 2, 0, 0, 0) := by decide +kernel
theorem at_3_9 : j_at 3 9 = some (.iadd, 0, 0, 0) := by decide +kernel
theorem at_3_10 : j_at 3 10 = some (.bipush 10, 0, 0, 10) := by decide +kernel
theorem at_3_12 : j_at 3 12 = some (.isub, 0, 0, 0) := by decide +kernel
theorem at_3_13 : j_at 3 13 = some (.laload, 0, 0, 0) := by decide +kernel
theorem at_3_14 : j_at 3 14 = some (.lreturn, 0, 0, 0) := by decide +kernel
theorem at_4_0 : j_at 4 0 = some (.iconst 0, 0, 0, 0) := by decide +kernel
theorem at_4_1 : j_at 4 1 = some (.istore 4, 0, 0, 0) := by decide +kernel
theorem at_4_3 : j_at 4 3 = some (.iload 4, 0, 0, 0) := by decide +kernel
theorem at_4_5 : j_at 4 5 = some (.aload_n 3, 0, 0, 0) := by decide +kernel
theorem at_4_6 : j_at 4 6 = some (.getfield 25, 1, 0, 0) := by decide +kernel
theorem at_4_9 : j_at 4 9 = some (.if_icmp .gt 47, 56, 0, 0) := by decide +kernel
theorem at_4_12 : j_at 4 12 = some (.aload_n 0, 0, 0, 0) := by decide +kernel
theorem at_4_13 : j_at 4 13 = some (.aload_n 1, 0, 0, 0) := by decide +kernel
theorem at_4_14 : j_at 4 14 = some (.iload_n 2, 0, 0, 0) := by decide +kernel
theorem at_4_15 : j_at 4 15 = some (.aload_n 3, 0, 0, 0) := by decide +kernel
theorem at_4_16 : j_at 4 16 = some (.iload 4, 0, 0, 0) := by decide +kernel
theorem at_4_18 : j_at 4 18 = some (.invokevirtual 28, 5, 4, 0) := by decide +kernel
theorem at_4_21 : j_at 4 21 = some (.lstore 5, 0, 0, 0) := by decide +kernel
theorem at_4_23 : j_at 4 23 = some (.lload 5, 0, 0, 0) := by decide +kernel
theorem at_4_25 : j_at 4 25 = some (.invokestatic 32, 144, 1, 0) := by decide +kernel
theorem at_4_28 : j_at 4 28 = some (.ifCond .ne 5, 33, 0, 0) := by decide +kernel
theorem at_4_31 : j_at 4 31 = some (.iconst 0, 0, 0, 0) := by decide +kernel
theorem at_4_32 : j_at 4 32 = some (.ireturn, 0, 0, 0) := by decide +kernel
theorem at_4_33 : j_at 4 33 = some (.aload_n 0, 0, 0, 0) := by decide +kernel
theorem at_4_34 : j_at 4 34 = some (.getfield 15, 0, 2, 0) := by decide +kernel
theorem at_4_37 : j_at 4 37 = some (.aload_n 0, 0, 0, 0) := by decide +kernel
theorem at_4_38 : j_at 4 38 = some (.getfield 21, 0, 0, 0) := by decide +kernel
theorem at_4_41 : j_at 4 41 = some (.bipush 6, 0, 0, 6) := by decide +kernel
theorem at_4_43 : j_at 4 43 = some (.imul, 0, 0, 0) := by decide +kernel
theorem at_4_44 : j_at 4 44 = some (.iload 4, 0, 0, 0) := by decide +kernel
theorem at_4_46 : j_at 4 46 = some (.iadd, 0, 0, 0) := by decide +kernel
theorem at_4_47 : j_at 4 47 = some (.lload 5, 0, 0, 0) := by decide +kernel
theorem at_4_49 : j_at 4 49 = some (.lastore, 0, 0, 0) := by decide +kernel
theorem at_4_50 : j_at 4 50 = some (.iinc 4 1, 0, 0, 0) := by decide +kernel
theorem at_4_53 : j_at 4 53 = some (.goto (-50), 3, 0, 0) := by decide +kernel
theorem at_4_56 : j_at 4 56 = some (.iconst 0, 0, 0, 0) := by decide +kernel
theorem at_4_57 : j_at 4 57 = some (.istore 4, 0, 0, 0) := by decide +kernel
theorem at_4_59 : j_at 4 59 = some (.iload 4, 0, 0, 0) := by decide +kernel
theorem at_4_61 : j_at 4 61 = some (.bipush 22, 0, 0, 22) := by decide +kernel
theorem at_4_63 : j_at 4 63 = some (.if_icmp .ge 25, 88, 0, 0) := by decide +kernel
theorem at_4_66 : j_at 4 66 = some (.aload_n 0, 0, 0, 0) := by decide +kernel
theorem at_4_67 : j_at 4 67 = some (.getfield 18, 0, 3, 0) := by decide +kernel
theorem at_4_70 : j_at 4 70 = some (.aload_n 0, 0, 0, 0) := by decide +kernel
theorem at_4_71 : j_at 4 71 = some (.getfield 21, 0, 0, 0) := by decide +kernel
theorem at_4_74 : j_at 4 74 = some (.bipush 22, 0, 0, 22) := by decide +kernel
theorem at_4_76 : j_at 4 76 = some (.imul, 0, 0, 0) := by decide +kernel
theorem at_4_77 : j_at 4 77 = some (.iload 4, 0, 0, 0) := by decide +kernel
theorem at_4_79 : j_at 4 79 = some (.iadd, 0, 0, 0) := by decide +kernel
theorem at_4_80 : j_at 4 80 = some (.lconst 0, 0, 0, 0) := by decide +kernel
theorem at_4_81 : j_at 4 81 = some (.lastore, 0, 0, 0) := by decide +kernel
theorem at_4_82 : j_at 4 82 = some (.iinc 4 1, 0, 0, 0) := by decide +kernel
theorem at_4_85 : j_at 4 85 = some (.goto (-26), 59, 0, 0) := by decide +kernel
theorem at_4_88 : j_at 4 88 = some (.iconst 0, 0, 0, 0) := by decide +kernel
theorem at_4_89 : j_at 4 89 = some (.istore 4, 0, 0, 0) := by decide +kernel
theorem at_4_91 : j_at 4 91 = some (.iload 4, 0, 0, 0) := by decide +kernel
theorem at_4_93 : j_at 4 93 = some (.aload_n 1, 0, 0, 0) := by decide +kernel
theorem at_4_94 : j_at 4 94 = some (.getfield 36, 5, 1, 0) := by decide +kernel
theorem at_4_97 : j_at 4 97 = some (.if_icmp .ge 66, 163, 0, 0) := by decide +kernel
theorem at_4_100 : j_at 4 100 = some (.aload_n 1, 0, 0, 0) := by decide +kernel
theorem at_4_101 : j_at 4 101 = some (.getfield 41, 5, 6, 0) := by decide +kernel
theorem at_4_104 : j_at 4 104 = some (.iload 4, 0, 0, 0) := by decide +kernel
theorem at_4_106 : j_at 4 106 = some (.iaload, 0, 0, 0) := by decide +kernel
theorem at_4_107 : j_at 4 107 = some (.bipush 10, 0, 0, 10) := by decide +kernel
theorem at_4_109 : j_at 4 109 = some (.isub, 0, 0, 0) := by decide +kernel
theorem at_4_110 : j_at 4 110 = some (.istore 5, 0, 0, 0) := by decide +kernel
theorem at_4_112 : j_at 4 112 = some (.iload 5, 0, 0, 0) := by decide +kernel
theorem at_4_114 : j_at 4 114 = some (.ifCond .lt 43, 157, 0, 0) := by decide +kernel
theorem at_4_117 : j_at 4 117 = some (.iload 5, 0, 0, 0) := by decide +kernel
theorem at_4_119 : j_at 4 119 = some (.bipush 22, 0, 0, 22) := by decide +kernel
theorem at_4_121 : j_at 4 121 = some (.if_icmp .lt 6, 127, 0, 0) := by decide +kernel
theorem at_4_124 : j_at 4 124 = some (.goto 33, 157, 0, 0) := by decide +kernel
theorem at_4_127 : j_at 4 127 = some (.aload_n 0, 0, 0, 0) := by decide +kernel
theorem at_4_128 : j_at 4 128 = some (.getfield 18, 0, 3, 0) := by decide +kernel
theorem at_4_131 : j_at 4 131 = some (.aload_n 0, 0, 0, 0) := by decide +kernel
theorem at_4_132 : j_at 4 132 = some (.getfield 21, 0, 0, 0) := by decide +kernel
theorem at_4_135 : j_at 4 135 = some (.bipush 22, 0, 0, 22) := by decide +kernel
theorem at_4_137 : j_at 4 137 = some (.imul, 0, 0, 0) := by decide +kernel
theorem at_4_138 : j_at 4 138 = some (.iload 5, 0, 0, 0) := by decide +kernel
theorem at_4_140 : j_at 4 140 = some (.iadd, 0, 0, 0) := by decide +kernel
theorem at_4_141 : j_at 4 141 = some (.aload_n 1, 0, 0, 0) := by decide +kernel
theorem at_4_142 : j_at 4 142 = some (.aload_n 1, 0, 0, 0) := by decide +kernel
theorem at_4_143 : j_at 4 143 = some (.getfield 45, 5, 7, 0) := by decide +kernel
theorem at_4_146 : j_at 4 146 = some (.iload_n 2, 0, 0, 0) := by decide +kernel
theorem at_4_147 : j_at 4 147 = some (.iconst 5, 0, 0, 5) := by decide +kernel
theorem at_4_148 : j_at 4 148 = some (.imul, 0, 0, 0) := by decide +kernel
theorem at_4_149 : j_at 4 149 = some (.iload 4, 0, 0, 0) := by decide +kernel
theorem at_4_151 : j_at 4 151 = some (.iadd, 0, 0, 0) := by decide +kernel
theorem at_4_152 : j_at 4 152 = some (.laload, 0, 0, 0) := by decide +kernel
theorem at_4_153 : j_at 4 153 = some (.invokevirtual 48, 43, 1, 0) := by decide +kernel
theorem at_4_156 : j_at 4 156 = some (.lastore, 0, 0, 0) := by decide +kernel
theorem at_4_157 : j_at 4 157 = some (.iinc 4 1, 0, 0, 0) := by decide +kernel
theorem at_4_160 : j_at 4 160 = some (.goto (-69), 91, 0, 0) := by decide +kernel
theorem at_4_163 : j_at 4 163 = some (.aload_n 0, 0, 0, 0) := by decide +kernel
theorem at_4_164 : j_at 4 164 = some (.getfield 9, 0, 1, 0) := by decide +kernel
theorem at_4_167 : j_at 4 167 = some (.aload_n 0, 0, 0, 0) := by decide +kernel
theorem at_4_168 : j_at 4 168 = some (.getfield 21, 0, 0, 0) := by decide +kernel
theorem at_4_171 : j_at 4 171 = some (.aload_n 1, 0, 0, 0) := by decide +kernel
theorem at_4_172 : j_at 4 172 = some (.getfield 52, 5, 4, 0) := by decide +kernel
theorem at_4_175 : j_at 4 175 = some (.lastore, 0, 0, 0) := by decide +kernel
theorem at_4_176 : j_at 4 176 = some (.aload_n 0, 0, 0, 0) := by decide +kernel
theorem at_4_177 : j_at 4 177 = some (.dup, 0, 0, 0) := by decide +kernel
theorem at_4_178 : j_at 4 178 = some (.getfield 21, 0, 0, 0) := by decide +kernel
theorem at_4_181 : j_at 4 181 = some (.iconst 1, 0, 0, 1) := by decide +kernel
theorem at_4_182 : j_at 4 182 = some (.iadd, 0, 0, 0) := by decide +kernel
theorem at_4_183 : j_at 4 183 = some (.putfield 21, 0, 0, 0) := by decide +kernel
theorem at_4_186 : j_at 4 186 = some (.iconst 1, 0, 0, 1) := by decide +kernel
theorem at_4_187 : j_at 4 187 = some (.ireturn, 0, 0, 0) := by decide +kernel
theorem at_5_0 : j_at 5 0 = some (.aload_n 1, 0, 0, 0) := by decide +kernel
theorem at_5_1 : j_at 5 1 = some (.getfield 56, 5, 5, 0) := by decide +kernel
theorem at_5_4 : j_at 5 4 = some (.iload_n 2, 0, 0, 0) := by decide +kernel
theorem at_5_5 : j_at 5 5 = some (.iaload, 0, 0, 0) := by decide +kernel
theorem at_5_6 : j_at 5 6 = some (.iload 4, 0, 0, 0) := by decide +kernel
theorem at_5_8 : j_at 5 8 = some (.if_icmp .ne 7, 15, 0, 0) := by decide +kernel
theorem at_5_11 : j_at 5 11 = some (.lconst 1, 0, 0, 1) := by decide +kernel
theorem at_5_12 : j_at 5 12 = some (.goto 4, 16, 0, 0) := by decide +kernel
theorem at_5_15 : j_at 5 15 = some (.lconst 0, 0, 0, 0) := by decide +kernel
theorem at_5_16 : j_at 5 16 = some (.lstore 5, 0, 0, 0) := by decide +kernel
theorem at_5_18 : j_at 5 18 = some (.iload 4, 0, 0, 0) := by decide +kernel
theorem at_5_20 : j_at 5 20 = some (.aload_n 3, 0, 0, 0) := by decide +kernel
theorem at_5_21 : j_at 5 21 = some (.getfield 25, 1, 0, 0) := by decide +kernel
theorem at_5_24 : j_at 5 24 = some (.if_icmp .ne 15, 39, 0, 0) := by decide +kernel
theorem at_5_27 : j_at 5 27 = some (.aload_n 1, 0, 0, 0) := by decide +kernel
theorem at_5_28 : j_at 5 28 = some (.aload_n 1, 0, 0, 0) := by decide +kernel
theorem at_5_29 : j_at 5 29 = some (.getfield 59, 5, 8, 0) := by decide +kernel
theorem at_5_32 : j_at 5 32 = some (.iload_n 2, 0, 0, 0) := by decide +kernel
theorem at_5_33 : j_at 5 33 = some (.laload, 0, 0, 0) := by decide +kernel
theorem at_5_34 : j_at 5 34 = some (.invokevirtual 62, 44, 1, 0) := by decide +kernel
theorem at_5_37 : j_at 5 37 = some (.lstore 5, 0, 0, 0) := by decide +kernel
theorem at_5_39 : j_at 5 39 = some (.iconst 0, 0, 0, 0) := by decide +kernel
theorem at_5_40 : j_at 5 40 = some (.istore 7, 0, 0, 0) := by decide +kernel
theorem at_5_42 : j_at 5 42 = some (.iload 7, 0, 0, 0) := by decide +kernel
theorem at_5_44 : j_at 5 44 = some (.aload_n 1, 0, 0, 0) := by decide +kernel
theorem at_5_45 : j_at 5 45 = some (.getfield 36, 5, 1, 0) := by decide +kernel
theorem at_5_48 : j_at 5 48 = some (.if_icmp .ge 108, 156, 0, 0) := by decide +kernel
theorem at_5_51 : j_at 5 51 = some (.aload_n 1, 0, 0, 0) := by decide +kernel
theorem at_5_52 : j_at 5 52 = some (.getfield 41, 5, 6, 0) := by decide +kernel
theorem at_5_55 : j_at 5 55 = some (.iload 7, 0, 0, 0) := by decide +kernel
theorem at_5_57 : j_at 5 57 = some (.iaload, 0, 0, 0) := by decide +kernel
theorem at_5_58 : j_at 5 58 = some (.istore 8, 0, 0, 0) := by decide +kernel
theorem at_5_60 : j_at 5 60 = some (.aload_n 1, 0, 0, 0) := by decide +kernel
theorem at_5_61 : j_at 5 61 = some (.aload_n 1, 0, 0, 0) := by decide +kernel
theorem at_5_62 : j_at 5 62 = some (.getfield 45, 5, 7, 0) := by decide +kernel
theorem at_5_65 : j_at 5 65 = some (.iload_n 2, 0, 0, 0) := by decide +kernel
theorem at_5_66 : j_at 5 66 = some (.iconst 5, 0, 0, 5) := by decide +kernel
theorem at_5_67 : j_at 5 67 = some (.imul, 0, 0, 0) := by decide +kernel
theorem at_5_68 : j_at 5 68 = some (.iload 7, 0, 0, 0) := by decide +kernel
theorem at_5_70 : j_at 5 70 = some (.iadd, 0, 0, 0) := by decide +kernel
theorem at_5_71 : j_at 5 71 = some (.laload, 0, 0, 0) := by decide +kernel
theorem at_5_72 : j_at 5 72 = some (.invokevirtual 62, 44, 1, 0) := by decide +kernel
theorem at_5_75 : j_at 5 75 = some (.lstore 9, 0, 0, 0) := by decide +kernel
theorem at_5_77 : j_at 5 77 = some (.iload 8, 0, 0, 0) := by decide +kernel
theorem at_5_79 : j_at 5 79 = some (.iload 4, 0, 0, 0) := by decide +kernel
theorem at_5_81 : j_at 5 81 = some (.if_icmp .ne 13, 94, 0, 0) := by decide +kernel
theorem at_5_84 : j_at 5 84 = some (.lload 5, 0, 0, 0) := by decide +kernel
theorem at_5_86 : j_at 5 86 = some (.lload 9, 0, 0, 0) := by decide +kernel
theorem at_5_88 : j_at 5 88 = some (.ladd, 0, 0, 0) := by decide +kernel
theorem at_5_89 : j_at 5 89 = some (.lstore 5, 0, 0, 0) := by decide +kernel
theorem at_5_91 : j_at 5 91 = some (.goto 59, 150, 0, 0) := by decide +kernel
theorem at_5_94 : j_at 5 94 = some (.iload 8, 0, 0, 0) := by decide +kernel
theorem at_5_96 : j_at 5 96 = some (.bipush 20, 0, 0, 20) := by decide +kernel
theorem at_5_98 : j_at 5 98 = some (.if_icmp .lt 25, 123, 0, 0) := by decide +kernel
theorem at_5_101 : j_at 5 101 = some (.lload 5, 0, 0, 0) := by decide +kernel
theorem at_5_103 : j_at 5 103 = some (.lload 9, 0, 0, 0) := by decide +kernel
theorem at_5_105 : j_at 5 105 = some (.aload_n 0, 0, 0, 0) := by decide +kernel
theorem at_5_106 : j_at 5 106 = some (.iload 8, 0, 0, 0) := by decide +kernel
theorem at_5_108 : j_at 5 108 = some (.bipush 20, 0, 0, 20) := by decide +kernel
theorem at_5_110 : j_at 5 110 = some (.isub, 0, 0, 0) := by decide +kernel
theorem at_5_111 : j_at 5 111 = some (.iload 4, 0, 0, 0) := by decide +kernel
theorem at_5_113 : j_at 5 113 = some (.invokevirtual 65, 2, 2, 0) := by decide +kernel
theorem at_5_116 : j_at 5 116 = some (.lmul, 0, 0, 0) := by decide +kernel
theorem at_5_117 : j_at 5 117 = some (.lsub, 0, 0, 0) := by decide +kernel
theorem at_5_118 : j_at 5 118 = some (.lstore 5, 0, 0, 0) := by decide +kernel
theorem at_5_120 : j_at 5 120 = some (.goto 30, 150, 0, 0) := by decide +kernel
theorem at_5_123 : j_at 5 123 = some (.iload 8, 0, 0, 0) := by decide +kernel
theorem at_5_125 : j_at 5 125 = some (.bipush 10, 0, 0, 10) := by decide +kernel
theorem at_5_127 : j_at 5 127 = some (.if_icmp .lt 23, 150, 0, 0) := by decide +kernel
theorem at_5_130 : j_at 5 130 = some (.lload 5, 0, 0, 0) := by decide +kernel
theorem at_5_132 : j_at 5 132 = some (.lload 9, 0, 0, 0) := by decide +kernel
theorem at_5_134 : j_at 5 134 = some (.aload_n 3, 0, 0, 0) := by decide +kernel
theorem at_5_135 : j_at 5 135 = some (.iload 8, 0, 0, 0) := by decide +kernel
theorem at_5_137 : j_at 5 137 = some (.bipush 10, 0, 0, 10) := by decide +kernel
theorem at_5_139 : j_at 5 139 = some (.isub, 0, 0, 0) := by decide +kernel
theorem at_5_140 : j_at 5 140 = some (.iload 4, 0, 0, 0) := by decide +kernel
theorem at_5_142 : j_at 5 142 = some (.invokevirtual 69, 13, 2, 0) := by decide +kernel
theorem at_5_145 : j_at 5 145 = some (.i2l, 0, 0, 0) := by decide +kernel
theorem at_5_146 : j_at 5 146 = some (.lmul, 0, 0, 0) := by decide +kernel
theorem at_5_147 : j_at 5 147 = some (.lsub, 0, 0, 0) := by decide +kernel
theorem at_5_148 : j_at 5 148 = some (.lstore 5, 0, 0, 0) := by decide +kernel
theorem at_5_150 : j_at 5 150 = some (.iinc 7 1, 0, 0, 0) := by decide +kernel
theorem at_5_153 : j_at 5 153 = some (.goto (-111), 42, 0, 0) := by decide +kernel
theorem at_5_156 : j_at 5 156 = some (.lload 5, 0, 0, 0) := by decide +kernel
theorem at_5_158 : j_at 5 158 = some (.lreturn, 0, 0, 0) := by decide +kernel
theorem at_6_0 : j_at 6 0 = some (.aload_n 0, 0, 0, 0) := by decide +kernel
theorem at_6_1 : j_at 6 1 = some (.getfield 9, 0, 1, 0) := by decide +kernel
theorem at_6_4 : j_at 6 4 = some (.iload_n 1, 0, 0, 0) := by decide +kernel
theorem at_6_5 : j_at 6 5 = some (.laload, 0, 0, 0) := by decide +kernel
theorem at_6_6 : j_at 6 6 = some (.lconst 0, 0, 0, 0) := by decide +kernel
theorem at_6_7 : j_at 6 7 = some (.lcmp, 0, 0, 0) := by decide +kernel
theorem at_6_8 : j_at 6 8 = some (.ifCond .gt 5, 13, 0, 0) := by decide +kernel
theorem at_6_11 : j_at 6 11 = some (.iconst 0, 0, 0, 0) := by decide +kernel
theorem at_6_12 : j_at 6 12 = some (.ireturn, 0, 0, 0) := by decide +kernel
theorem at_6_13 : j_at 6 13 = some (.iconst 0, 0, 0, 0) := by decide +kernel
theorem at_6_14 : j_at 6 14 = some (.istore_n 3, 0, 0, 0) := by decide +kernel
theorem at_6_15 : j_at 6 15 = some (.iload_n 3, 0, 0, 0) := by decide +kernel
theorem at_6_16 : j_at 6 16 = some (.aload_n 2, 0, 0, 0) := by decide +kernel
theorem at_6_17 : j_at 6 17 = some (.getfield 25, 1, 0, 0) := by decide +kernel
theorem at_6_20 : j_at 6 20 = some (.if_icmp .gt 115, 135, 0, 0) := by decide +kernel
theorem at_6_23 : j_at 6 23 = some (.lconst 0, 0, 0, 0) := by decide +kernel
theorem at_6_24 : j_at 6 24 = some (.lstore 4, 0, 0, 0) := by decide +kernel
theorem at_6_26 : j_at 6 26 = some (.iconst 0, 0, 0, 0) := by decide +kernel
theorem at_6_27 : j_at 6 27 = some (.istore 6, 0, 0, 0) := by decide +kernel
theorem at_6_29 : j_at 6 29 = some (.iload 6, 0, 0, 0) := by decide +kernel
theorem at_6_31 : j_at 6 31 = some (.aload_n 2, 0, 0, 0) := by decide +kernel
theorem at_6_32 : j_at 6 32 = some (.getfield 72, 1, 1, 0) := by decide +kernel
theorem at_6_35 : j_at 6 35 = some (.if_icmp .ge 33, 68, 0, 0) := by decide +kernel
theorem at_6_38 : j_at 6 38 = some (.lload 4, 0, 0, 0) := by decide +kernel
theorem at_6_40 : j_at 6 40 = some (.aload_n 0, 0, 0, 0) := by decide +kernel
theorem at_6_41 : j_at 6 41 = some (.iload_n 1, 0, 0, 0) := by decide +kernel
theorem at_6_42 : j_at 6 42 = some (.bipush 10, 0, 0, 10) := by decide +kernel
theorem at_6_44 : j_at 6 44 = some (.iload 6, 0, 0, 0) := by decide +kernel
theorem at_6_46 : j_at 6 46 = some (.iadd, 0, 0, 0) := by decide +kernel
theorem at_6_47 : j_at 6 47 = some (.invokevirtual 75, 3, 2, 0) := by decide +kernel
theorem at_6_50 : j_at 6 50 = some (.aload_n 2, 0, 0, 0) := by decide +kernel
theorem at_6_51 : j_at 6 51 = some (.iload 6, 0, 0, 0) := by decide +kernel
theorem at_6_53 : j_at 6 53 = some (.iload_n 3, 0, 0, 0) := by decide +kernel
theorem at_6_54 : j_at 6 54 = some (.invokevirtual 69, 13, 2, 0) := by decide +kernel
theorem at_6_57 : j_at 6 57 = some (.i2l, 0, 0, 0) := by decide +kernel
theorem at_6_58 : j_at 6 58 = some (.lmul, 0, 0, 0) := by decide +kernel
theorem at_6_59 : j_at 6 59 = some (.ladd, 0, 0, 0) := by decide +kernel
theorem at_6_60 : j_at 6 60 = some (.lstore 4, 0, 0, 0) := by decide +kernel
theorem at_6_62 : j_at 6 62 = some (.iinc 6 1, 0, 0, 0) := by decide +kernel
theorem at_6_65 : j_at 6 65 = some (.goto (-36), 29, 0, 0) := by decide +kernel
theorem at_6_68 : j_at 6 68 = some (.iconst 0, 0, 0, 0) := by decide +kernel
theorem at_6_69 : j_at 6 69 = some (.istore 6, 0, 0, 0) := by decide +kernel
theorem at_6_71 : j_at 6 71 = some (.iload 6, 0, 0, 0) := by decide +kernel
theorem at_6_73 : j_at 6 73 = some (.iload_n 1, 0, 0, 0) := by decide +kernel
theorem at_6_74 : j_at 6 74 = some (.if_icmp .ge 32, 106, 0, 0) := by decide +kernel
theorem at_6_77 : j_at 6 77 = some (.lload 4, 0, 0, 0) := by decide +kernel
theorem at_6_79 : j_at 6 79 = some (.aload_n 0, 0, 0, 0) := by decide +kernel
theorem at_6_80 : j_at 6 80 = some (.iload_n 1, 0, 0, 0) := by decide +kernel
theorem at_6_81 : j_at 6 81 = some (.bipush 20, 0, 0, 20) := by decide +kernel
theorem at_6_83 : j_at 6 83 = some (.iload 6, 0, 0, 0) := by decide +kernel
theorem at_6_85 : j_at 6 85 = some (.iadd, 0, 0, 0) := by decide +kernel
theorem at_6_86 : j_at 6 86 = some (.invokevirtual 75, 3, 2, 0) := by decide +kernel
theorem at_6_89 : j_at 6 89 = some (.aload_n 0, 0, 0, 0) := by decide +kernel
theorem at_6_90 : j_at 6 90 = some (.iload 6, 0, 0, 0) := by decide +kernel
theorem at_6_92 : j_at 6 92 = some (.iload_n 3, 0, 0, 0) := by decide +kernel
theorem at_6_93 : j_at 6 93 = some (.invokevirtual 65, 2, 2, 0) := by decide +kernel
theorem at_6_96 : j_at 6 96 = some (.lmul, 0, 0, 0) := by decide +kernel
theorem at_6_97 : j_at 6 97 = some (.ladd, 0, 0, 0) := by decide +kernel
theorem at_6_98 : j_at 6 98 = some (.lstore 4, 0, 0, 0) := by decide +kernel
theorem at_6_100 : j_at 6 100 = some (.iinc 6 1, 0, 0, 0) := by decide +kernel
theorem at_6_103 : j_at 6 103 = some (.goto (-32), 71, 0, 0) := by decide +kernel
theorem at_6_106 : j_at 6 106 = some (.lload 4, 0, 0, 0) := by decide +kernel
theorem at_6_108 : j_at 6 108 = some (.aload_n 0, 0, 0, 0) := by decide +kernel
theorem at_6_109 : j_at 6 109 = some (.getfield 9, 0, 1, 0) := by decide +kernel
theorem at_6_112 : j_at 6 112 = some (.iload_n 1, 0, 0, 0) := by decide +kernel
theorem at_6_113 : j_at 6 113 = some (.laload, 0, 0, 0) := by decide +kernel
theorem at_6_114 : j_at 6 114 = some (.invokestatic 78, 265, 2, 0) := by decide +kernel
theorem at_6_117 : j_at 6 117 = some (.aload_n 0, 0, 0, 0) := by decide +kernel
theorem at_6_118 : j_at 6 118 = some (.iload_n 1, 0, 0, 0) := by decide +kernel
theorem at_6_119 : j_at 6 119 = some (.iload_n 3, 0, 0, 0) := by decide +kernel
theorem at_6_120 : j_at 6 120 = some (.invokevirtual 65, 2, 2, 0) := by decide +kernel
theorem at_6_123 : j_at 6 123 = some (.lcmp, 0, 0, 0) := by decide +kernel
theorem at_6_124 : j_at 6 124 = some (.ifCond .eq 5, 129, 0, 0) := by decide +kernel
theorem at_6_127 : j_at 6 127 = some (.iconst 0, 0, 0, 0) := by decide +kernel
theorem at_6_128 : j_at 6 128 = some (.ireturn, 0, 0, 0) := by decide +kernel
theorem at_6_129 : j_at 6 129 = some (.iinc 3 1, 0, 0, 0) := by decide +kernel
theorem at_6_132 : j_at 6 132 = some (.goto (-117), 15, 0, 0) := by decide +kernel
theorem at_6_135 : j_at 6 135 = some (.iconst 1, 0, 0, 1) := by decide +kernel
theorem at_6_136 : j_at 6 136 = some (.ireturn, 0, 0, 0) := by decide +kernel
theorem at_8_0 : j_at 8 0 = some (.aload_n 0, 0, 0, 0) := by decide +kernel
theorem at_8_1 : j_at 8 1 = some (.aload_n 1, 0, 0, 0) := by decide +kernel
theorem at_8_2 : j_at 8 2 = some (.getfield 9, 1, 0, 0) := by decide +kernel
theorem at_8_5 : j_at 8 5 = some (.putfield 9, 1, 0, 0) := by decide +kernel
theorem at_8_8 : j_at 8 8 = some (.aload_n 0, 0, 0, 0) := by decide +kernel
theorem at_8_9 : j_at 8 9 = some (.aload_n 1, 0, 0, 0) := by decide +kernel
theorem at_8_10 : j_at 8 10 = some (.getfield 28, 1, 1, 0) := by decide +kernel
theorem at_8_13 : j_at 8 13 = some (.putfield 28, 1, 1, 0) := by decide +kernel
theorem at_8_16 : j_at 8 16 = some (.aload_n 1, 0, 0, 0) := by decide +kernel
theorem at_8_17 : j_at 8 17 = some (.getfield 15, 1, 2, 0) := by decide +kernel
theorem at_8_20 : j_at 8 20 = some (.iconst 0, 0, 0, 0) := by decide +kernel
theorem at_8_21 : j_at 8 21 = some (.aload_n 0, 0, 0, 0) := by decide +kernel
theorem at_8_22 : j_at 8 22 = some (.getfield 15, 1, 2, 0) := by decide +kernel
theorem at_8_25 : j_at 8 25 = some (.iconst 0, 0, 0, 0) := by decide +kernel
theorem at_8_26 : j_at 8 26 = some (.iconst 5, 0, 0, 5) := by decide +kernel
theorem at_8_27 : j_at 8 27 = some (.invokestatic 31, 9999, 5, 0) := by decide +kernel
theorem at_8_30 : j_at 8 30 = some (.aload_n 1, 0, 0, 0) := by decide +kernel
theorem at_8_31 : j_at 8 31 = some (.getfield 19, 1, 3, 0) := by decide +kernel
theorem at_8_34 : j_at 8 34 = some (.iconst 0, 0, 0, 0) := by decide +kernel
theorem at_8_35 : j_at 8 35 = some (.aload_n 0, 0, 0, 0) := by decide +kernel
theorem at_8_36 : j_at 8 36 = some (.getfield 19, 1, 3, 0) := by decide +kernel
theorem at_8_39 : j_at 8 39 = some (.iconst 0, 0, 0, 0) := by decide +kernel
theorem at_8_40 : j_at 8 40 = some (.bipush 8, 0, 0, 8) := by decide +kernel
theorem at_8_42 : j_at 8 42 = some (.invokestatic 31, 9999, 5, 0) := by decide +kernel
theorem at_8_45 : j_at 8 45 = some (.aload_n 1, 0, 0, 0) := by decide +kernel
theorem at_8_46 : j_at 8 46 = some (.getfield 22, 1, 4, 0) := by decide +kernel
theorem at_8_49 : j_at 8 49 = some (.iconst 0, 0, 0, 0) := by decide +kernel
theorem at_8_50 : j_at 8 50 = some (.aload_n 0, 0, 0, 0) := by decide +kernel
theorem at_8_51 : j_at 8 51 = some (.getfield 22, 1, 4, 0) := by decide +kernel
theorem at_8_54 : j_at 8 54 = some (.iconst 0, 0, 0, 0) := by decide +kernel
theorem at_8_55 : j_at 8 55 = some (.bipush 8, 0, 0, 8) := by decide +kernel
theorem at_8_57 : j_at 8 57 = some (.invokestatic 31, 9999, 5, 0) := by decide +kernel
theorem at_8_60 : j_at 8 60 = some (.aload_n 1, 0, 0, 0) := by decide +kernel
theorem at_8_61 : j_at 8 61 = some (.getfield 25, 1, 5, 0) := by decide +kernel
theorem at_8_64 : j_at 8 64 = some (.iconst 0, 0, 0, 0) := by decide +kernel
theorem at_8_65 : j_at 8 65 = some (.aload_n 0, 0, 0, 0) := by decide +kernel
theorem at_8_66 : j_at 8 66 = some (.getfield 25, 1, 5, 0) := by decide +kernel
theorem at_8_69 : j_at 8 69 = some (.iconst 0, 0, 0, 0) := by decide +kernel
theorem at_8_70 : j_at 8 70 = some (.bipush 40, 0, 0, 40) := by decide +kernel
theorem at_8_72 : j_at 8 72 = some (.invokestatic 31, 9999, 5, 0) := by decide +kernel
theorem at_8_75 : j_at 8 75 = some (.return_, 0, 0, 0) := by decide +kernel
theorem at_9_0 : j_at 9 0 = some (.aload_n 0, 0, 0, 0) := by decide +kernel
theorem at_9_1 : j_at 9 1 = some (.iload_n 1, 0, 0, 0) := by decide +kernel
theorem at_9_2 : j_at 9 2 = some (.putfield 9, 1, 0, 0) := by decide +kernel
theorem at_9_5 : j_at 9 5 = some (.aload_n 0, 0, 0, 0) := by decide +kernel
theorem at_9_6 : j_at 9 6 = some (.iconst 0, 0, 0, 0) := by decide +kernel
theorem at_9_7 : j_at 9 7 = some (.putfield 28, 1, 1, 0) := by decide +kernel
theorem at_9_10 : j_at 9 10 = some (.aload_n 0, 0, 0, 0) := by decide +kernel
theorem at_9_11 : j_at 9 11 = some (.getfield 15, 1, 2, 0) := by decide +kernel
theorem at_9_14 : j_at 9 14 = some (.iconst 1, 0, 0, 1) := by decide +kernel
theorem at_9_15 : j_at 9 15 = some (.invokestatic 37, 270, 2, 0) := by decide +kernel
theorem at_9_18 : j_at 9 18 = some (.return_, 0, 0, 0) := by decide +kernel
theorem at_10_0 : j_at 10 0 = some (.aload_n 0, 0, 0, 0) := by decide +kernel
theorem at_10_1 : j_at 10 1 = some (.getfield 19, 1, 3, 0) := by decide +kernel
theorem at_10_4 : j_at 10 4 = some (.aload_n 0, 0, 0, 0) := by decide +kernel
theorem at_10_5 : j_at 10 5 = some (.getfield 28, 1, 1, 0) := by decide +kernel
theorem at_10_8 : j_at 10 8 = some (.iload_n 1, 0, 0, 0) := by decide +kernel
theorem at_10_9 : j_at 10 9 = some (.iastore, 0, 0, 0) := by decide +kernel
theorem at_10_10 : j_at 10 10 = some (.aload_n 0, 0, 0, 0) := by decide +kernel
theorem at_10_11 : j_at 10 11 = some (.getfield 22, 1, 4, 0) := by decide +kernel
theorem at_10_14 : j_at 10 14 = some (.aload_n 0, 0, 0, 0) := by decide +kernel
theorem at_10_15 : j_at 10 15 = some (.getfield 28, 1, 1, 0) := by decide +kernel
theorem at_10_18 : j_at 10 18 = some (.iload_n 2, 0, 0, 0) := by decide +kernel
theorem at_10_19 : j_at 10 19 = some (.iastore, 0, 0, 0) := by decide +kernel
theorem at_10_20 : j_at 10 20 = some (.iconst 0, 0, 0, 0) := by decide +kernel
theorem at_10_21 : j_at 10 21 = some (.istore_n 3, 0, 0, 0) := by decide +kernel
theorem at_10_22 : j_at 10 22 = some (.iload_n 3, 0, 0, 0) := by decide +kernel
theorem at_10_23 : j_at 10 23 = some (.iconst 5, 0, 0, 5) := by decide +kernel
theorem at_10_24 : j_at 10 24 = some (.if_icmp .ge 19, 43, 0, 0) := by decide +kernel
theorem at_10_27 : j_at 10 27 = some (.aload_n 0, 0, 0, 0) := by decide +kernel
theorem at_10_28 : j_at 10 28 = some (.aload_n 0, 0, 0, 0) := by decide +kernel
theorem at_10_29 : j_at 10 29 = some (.getfield 28, 1, 1, 0) := by decide +kernel
theorem at_10_32 : j_at 10 32 = some (.iload_n 3, 0, 0, 0) := by decide +kernel
theorem at_10_33 : j_at 10 33 = some (.iconst 0, 0, 0, 0) := by decide +kernel
theorem at_10_34 : j_at 10 34 = some (.invokevirtual 43, 12, 3, 0) := by decide +kernel
theorem at_10_37 : j_at 10 37 = some (.iinc 3 1, 0, 0, 0) := by decide +kernel
theorem at_10_40 : j_at 10 40 = some (.goto (-18), 22, 0, 0) := by decide +kernel
theorem at_10_43 : j_at 10 43 = some (.aload_n 0, 0, 0, 0) := by decide +kernel
theorem at_10_44 : j_at 10 44 = some (.dup, 0, 0, 0) := by decide +kernel
theorem at_10_45 : j_at 10 45 = some (.getfield 28, 1, 1, 0) := by decide +kernel
theorem at_10_48 : j_at 10 48 = some (.iconst 1, 0, 0, 1) := by decide +kernel
theorem at_10_49 : j_at 10 49 = some (.iadd, 0, 0, 0) := by decide +kernel
theorem at_10_50 : j_at 10 50 = some (.putfield 28, 1, 1, 0) := by decide +kernel
theorem at_10_53 : j_at 10 53 = some (.return_, 0, 0, 0) := by decide +kernel
theorem at_11_0 : j_at 11 0 = some (.aload_n 0, 0, 0, 0) := by decide +kernel
theorem at_11_1 : j_at 11 1 = some (.getfield 25, 1, 5, 0) := by decide +kernel
theorem at_11_4 : j_at 11 4 = some (.iload_n 1, 0, 0, 0) := by decide +kernel
theorem at_11_5 : j_at 11 5 = some (.iconst 5, 0, 0, 5) := by decide +kernel
theorem at_11_6 : j_at 11 6 = some (.imul, 0, 0, 0) := by decide +kernel
theorem at_11_7 : j_at 11 7 = some (.iload_n 2, 0, 0, 0) := by decide +kernel
theorem at_11_8 : j_at 11 8 = some (.iadd, 0, 0, 0) := by decide +kernel
theorem at_11_9 : j_at 11 9 = some (.iaload, 0, 0, 0) := by decide +kernel
theorem at_11_10 : j_at 11 10 = some (.ireturn, 0, 0, 0) := by decide +kernel
theorem at_12_0 : j_at 12 0 = some (.aload_n 0, 0, 0, 0) := by decide +kernel
theorem at_12_1 : j_at 12 1 = some (.getfield 25, 1, 5, 0) := by decide +kernel
theorem at_12_4 : j_at 12 4 = some (.iload_n 1, 0, 0, 0) := by decide +kernel
theorem at_12_5 : j_at 12 5 = some (.iconst 5, 0, 0, 5) := by decide +kernel
theorem at_12_6 : j_at 12 6 = some (.imul, 0, 0, 0) := by decide +kernel
theorem at_12_7 : j_at 12 7 = some (.iload_n 2, 0, 0, 0) := by decide +kernel
theorem at_12_8 : j_at 12 8 = some (.iadd, 0, 0, 0) := by decide +kernel
theorem at_12_9 : j_at 12 9 = some (.iload_n 3, 0, 0, 0) := by decide +kernel
theorem at_12_10 : j_at 12 10 = some (.iastore, 0, 0, 0) := by decide +kernel
theorem at_12_11 : j_at 12 11 = some (.return_, 0, 0, 0) := by decide +kernel
theorem at_13_0 : j_at 13 0 = some (.iload_n 2, 0, 0, 0) := by decide +kernel
theorem at_13_1 : j_at 13 1 = some (.aload_n 0, 0, 0, 0) := by decide +kernel
theorem at_13_2 : j_at 13 2 = some (.getfield 9, 1, 0, 0) := by decide +kernel
theorem at_13_5 : j_at 13 5 = some (.if_icmp .ne 12, 17, 0, 0) := by decide +kernel
theorem at_13_8 : j_at 13 8 = some (.aload_n 0, 0, 0, 0) := by decide +kernel
theorem at_13_9 : j_at 13 9 = some (.getfield 22, 1, 4, 0) := by decide +kernel
theorem at_13_12 : j_at 13 12 = some (.iload_n 1, 0, 0, 0) := by decide +kernel
theorem at_13_13 : j_at 13 13 = some (.iaload, 0, 0, 0) := by decide +kernel
theorem at_13_14 : j_at 13 14 = some (.goto 9, 23, 0, 0) := by decide +kernel
theorem at_13_17 : j_at 13 17 = some (.aload_n 0, 0, 0, 0) := by decide +kernel
theorem at_13_18 : j_at 13 18 = some (.iload_n 1, 0, 0, 0) := by decide +kernel
theorem at_13_19 : j_at 13 19 = some (.iload_n 2, 0, 0, 0) := by decide +kernel
theorem at_13_20 : j_at 13 20 = some (.invokevirtual 47, 11, 2, 0) := by decide +kernel
theorem at_13_23 : j_at 13 23 = some (.istore_n 3, 0, 0, 0) := by decide +kernel
theorem at_13_24 : j_at 13 24 = some (.aload_n 0, 0, 0, 0) := by decide +kernel
theorem at_13_25 : j_at 13 25 = some (.getfield 19, 1, 3, 0) := by decide +kernel
theorem at_13_28 : j_at 13 28 = some (.iload_n 1, 0, 0, 0) := by decide +kernel
theorem at_13_29 : j_at 13 29 = some (.iaload, 0, 0, 0) := by decide +kernel
theorem at_13_30 : j_at 13 30 = some (.ifCond .ne 8, 38, 0, 0) := by decide +kernel
theorem at_13_33 : j_at 13 33 = some (.iload_n 3, 0, 0, 0) := by decide +kernel
theorem at_13_34 : j_at 13 34 = some (.ineg, 0, 0, 0) := by decide +kernel
theorem at_13_35 : j_at 13 35 = some (.goto 4, 39, 0, 0) := by decide +kernel
theorem at_13_38 : j_at 13 38 = some (.iload_n 3, 0, 0, 0) := by decide +kernel
theorem at_13_39 : j_at 13 39 = some (.ireturn, 0, 0, 0) := by decide +kernel
theorem at_14_0 : j_at 14 0 = some (.iconst 0, 0, 0, 0) := by decide +kernel
theorem at_14_1 : j_at 14 1 = some (.istore_n 2, 0, 0, 0) := by decide +kernel
theorem at_14_2 : j_at 14 2 = some (.iconst 0, 0, 0, 0) := by decide +kernel
theorem at_14_3 : j_at 14 3 = some (.istore_n 3, 0, 0, 0) := by decide +kernel
theorem at_14_4 : j_at 14 4 = some (.iload_n 3, 0, 0, 0) := by decide +kernel
theorem at_14_5 : j_at 14 5 = some (.aload_n 0, 0, 0, 0) := by decide +kernel
theorem at_14_6 : j_at 14 6 = some (.getfield 9, 1, 0, 0) := by decide +kernel
theorem at_14_9 : j_at 14 9 = some (.if_icmp .ge 25, 34, 0, 0) := by decide +kernel
theorem at_14_12 : j_at 14 12 = some (.iload_n 2, 0, 0, 0) := by decide +kernel
theorem at_14_13 : j_at 14 13 = some (.aload_n 0, 0, 0, 0) := by decide +kernel
theorem at_14_14 : j_at 14 14 = some (.iload_n 1, 0, 0, 0) := by decide +kernel
theorem at_14_15 : j_at 14 15 = some (.iload_n 3, 0, 0, 0) := by decide +kernel
theorem at_14_16 : j_at 14 16 = some (.invokevirtual 51, 16, 2, 0) := by decide +kernel
theorem at_14_19 : j_at 14 19 = some (.aload_n 0, 0, 0, 0) := by decide +kernel
theorem at_14_20 : j_at 14 20 = some (.getfield 15, 1, 2, 0) := by decide +kernel
theorem at_14_23 : j_at 14 23 = some (.iload_n 3, 0, 0, 0) := by decide +kernel
theorem at_14_24 : j_at 14 24 = some (.iaload, 0, 0, 0) := by decide +kernel
theorem at_14_25 : j_at 14 25 = some (.imul, 0, 0, 0) := by decide +kernel
theorem at_14_26 : j_at 14 26 = some (.iadd, 0, 0, 0) := by decide +kernel
theorem at_14_27 : j_at 14 27 = some (.istore_n 2, 0, 0, 0) := by decide +kernel
theorem at_14_28 : j_at 14 28 = some (.iinc 3 1, 0, 0, 0) := by decide +kernel
theorem at_14_31 : j_at 14 31 = some (.goto (-27), 4, 0, 0) := by decide +kernel
theorem at_14_34 : j_at 14 34 = some (.iload_n 2, 0, 0, 0) := by decide +kernel
theorem at_14_35 : j_at 14 35 = some (.ireturn, 0, 0, 0) := by decide +kernel
theorem at_15_0 : j_at 15 0 = some (.iconst 0, 0, 0, 0) := by decide +kernel
theorem at_15_1 : j_at 15 1 = some (.istore_n 2, 0, 0, 0) := by decide +kernel
theorem at_15_2 : j_at 15 2 = some (.iload_n 2, 0, 0, 0) := by decide +kernel
theorem at_15_3 : j_at 15 3 = some (.aload_n 0, 0, 0, 0) := by decide +kernel
theorem at_15_4 : j_at 15 4 = some (.getfield 28, 1, 1, 0) := by decide +kernel
theorem at_15_7 : j_at 15 7 = some (.if_icmp .ge 61, 68, 0, 0) := by decide +kernel
theorem at_15_10 : j_at 15 10 = some (.aload_n 0, 0, 0, 0) := by decide +kernel
theorem at_15_11 : j_at 15 11 = some (.iload_n 2, 0, 0, 0) := by decide +kernel
theorem at_15_12 : j_at 15 12 = some (.aload_n 0, 0, 0, 0) := by decide +kernel
theorem at_15_13 : j_at 15 13 = some (.getfield 9, 1, 0, 0) := by decide +kernel
theorem at_15_16 : j_at 15 16 = some (.invokevirtual 54, 13, 2, 0) := by decide +kernel
theorem at_15_19 : j_at 15 19 = some (.istore_n 3, 0, 0, 0) := by decide +kernel
theorem at_15_20 : j_at 15 20 = some (.iconst 0, 0, 0, 0) := by decide +kernel
theorem at_15_21 : j_at 15 21 = some (.istore 4, 0, 0, 0) := by decide +kernel
theorem at_15_23 : j_at 15 23 = some (.iload 4, 0, 0, 0) := by decide +kernel
theorem at_15_25 : j_at 15 25 = some (.aload_n 0, 0, 0, 0) := by decide +kernel
theorem at_15_26 : j_at 15 26 = some (.getfield 9, 1, 0, 0) := by decide +kernel
theorem at_15_29 : j_at 15 29 = some (.if_icmp .ge 27, 56, 0, 0) := by decide +kernel
theorem at_15_32 : j_at 15 32 = some (.iload_n 3, 0, 0, 0) := by decide +kernel
theorem at_15_33 : j_at 15 33 = some (.aload_n 0, 0, 0, 0) := by decide +kernel
theorem at_15_34 : j_at 15 34 = some (.iload_n 2, 0, 0, 0) := by decide +kernel
theorem at_15_35 : j_at 15 35 = some (.iload 4, 0, 0, 0) := by decide +kernel
theorem at_15_37 : j_at 15 37 = some (.invokevirtual 54, 13, 2, 0) := by decide +kernel
theorem at_15_40 : j_at 15 40 = some (.aload_n 0, 0, 0, 0) := by decide +kernel
theorem at_15_41 : j_at 15 41 = some (.iload_n 1, 0, 0, 0) := by decide +kernel
theorem at_15_42 : j_at 15 42 = some (.iload 4, 0, 0, 0) := by decide +kernel
theorem at_15_44 : j_at 15 44 = some (.invokevirtual 51, 16, 2, 0) := by decide +kernel
theorem at_15_47 : j_at 15 47 = some (.imul, 0, 0, 0) := by decide +kernel
theorem at_15_48 : j_at 15 48 = some (.isub, 0, 0, 0) := by decide +kernel
theorem at_15_49 : j_at 15 49 = some (.istore_n 3, 0, 0, 0) := by decide +kernel
theorem at_15_50 : j_at 15 50 = some (.iinc 4 1, 0, 0, 0) := by decide +kernel
theorem at_15_53 : j_at 15 53 = some (.goto (-30), 23, 0, 0) := by decide +kernel
theorem at_15_56 : j_at 15 56 = some (.iload_n 3, 0, 0, 0) := by decide +kernel
theorem at_15_57 : j_at 15 57 = some (.ifCond .ge 5, 62, 0, 0) := by decide +kernel
theorem at_15_60 : j_at 15 60 = some (.iload_n 2, 0, 0, 0) := by decide +kernel
theorem at_15_61 : j_at 15 61 = some (.ireturn, 0, 0, 0) := by decide +kernel
theorem at_15_62 : j_at 15 62 = some (.iinc 2 1, 0, 0, 0) := by decide +kernel
theorem at_15_65 : j_at 15 65 = some (.goto (-63), 2, 0, 0) := by decide +kernel
theorem at_15_68 : j_at 15 68 = some (.bipush (-5), 0, 0, -5) := by decide +kernel
theorem at_15_70 : j_at 15 70 = some (.ireturn, 0, 0, 0) := by decide +kernel
theorem at_16_0 : j_at 16 0 = some (.iload_n 1, 0, 0, 0) := by decide +kernel
theorem at_16_1 : j_at 16 1 = some (.istore_n 3, 0, 0, 0) := by decide +kernel
theorem at_16_2 : j_at 16 2 = some (.aload_n 0, 0, 0, 0) := by decide +kernel
theorem at_16_3 : j_at 16 3 = some (.getfield 9, 1, 0, 0) := by decide +kernel
theorem at_16_6 : j_at 16 6 = some (.iconst 1, 0, 0, 1) := by decide +kernel
theorem at_16_7 : j_at 16 7 = some (.isub, 0, 0, 0) := by decide +kernel
theorem at_16_8 : j_at 16 8 = some (.istore 4, 0, 0, 0) := by decide +kernel
theorem at_16_10 : j_at 16 10 = some (.iload 4, 0, 0, 0) := by decide +kernel
theorem at_16_12 : j_at 16 12 = some (.iload_n 2, 0, 0, 0) := by decide +kernel
theorem at_16_13 : j_at 16 13 = some (.if_icmp .le 14, 27, 0, 0) := by decide +kernel
theorem at_16_16 : j_at 16 16 = some (.iload_n 3, 0, 0, 0) := by decide +kernel
theorem at_16_17 : j_at 16 17 = some (.bipush 10, 0, 0, 10) := by decide +kernel
theorem at_16_19 : j_at 16 19 = some (.idiv, 0, 0, 0) := by decide +kernel
theorem at_16_20 : j_at 16 20 = some (.istore_n 3, 0, 0, 0) := by decide +kernel
theorem at_16_21 : j_at 16 21 = some (.iinc 4 (-1), 0, 0, 0) := by decide +kernel
theorem at_16_24 : j_at 16 24 = some (.goto (-14), 10, 0, 0) := by decide +kernel
theorem at_16_27 : j_at 16 27 = some (.iload_n 3, 0, 0, 0) := by decide +kernel
theorem at_16_28 : j_at 16 28 = some (.bipush 10, 0, 0, 10) := by decide +kernel
theorem at_16_30 : j_at 16 30 = some (.irem, 0, 0, 0) := by decide +kernel
theorem at_16_31 : j_at 16 31 = some (.ireturn, 0, 0, 0) := by decide +kernel
theorem at_17_0 : j_at 17 0 = some (.iload_n 1, 0, 0, 0) := by decide +kernel
theorem at_17_1 : j_at 17 1 = some (.iconst 1, 0, 0, 1) := by decide +kernel
theorem at_17_2 : j_at 17 2 = some (.if_icmp .ne 19, 21, 0, 0) := by decide +kernel
theorem at_17_5 : j_at 17 5 = some (.iload_n 2, 0, 0, 0) := by decide +kernel
theorem at_17_6 : j_at 17 6 = some (.aload_n 0, 0, 0, 0) := by decide +kernel
theorem at_17_7 : j_at 17 7 = some (.getfield 9, 1, 0, 0) := by decide +kernel
theorem at_17_10 : j_at 17 10 = some (.if_icmp .ge 7, 17, 0, 0) := by decide +kernel
theorem at_17_13 : j_at 17 13 = some (.iconst 1, 0, 0, 1) := by decide +kernel
theorem at_17_14 : j_at 17 14 = some (.goto 20, 34, 0, 0) := by decide +kernel
theorem at_17_17 : j_at 17 17 = some (.iconst 0, 0, 0, 0) := by decide +kernel
theorem at_17_18 : j_at 17 18 = some (.goto 16, 34, 0, 0) := by decide +kernel
theorem at_17_21 : j_at 17 21 = some (.iload_n 2, 0, 0, 0) := by decide +kernel
theorem at_17_22 : j_at 17 22 = some (.aload_n 0, 0, 0, 0) := by decide +kernel
theorem at_17_23 : j_at 17 23 = some (.getfield 28, 1, 1, 0) := by decide +kernel
theorem at_17_26 : j_at 17 26 = some (.if_icmp .ge 7, 33, 0, 0) := by decide +kernel
theorem at_17_29 : j_at 17 29 = some (.iconst 1, 0, 0, 1) := by decide +kernel
theorem at_17_30 : j_at 17 30 = some (.goto 4, 34, 0, 0) := by decide +kernel
theorem at_17_33 : j_at 17 33 = some (.iconst 0, 0, 0, 0) := by decide +kernel
theorem at_17_34 : j_at 17 34 = some (.istore 4, 0, 0, 0) := by decide +kernel
theorem at_17_36 : j_at 17 36 = some (.iload 4, 0, 0, 0) := by decide +kernel
theorem at_17_38 : j_at 17 38 = some (.ifCond .ne 4, 42, 0, 0) := by decide +kernel
theorem at_17_41 : j_at 17 41 = some (.return_, 0, 0, 0) := by decide +kernel
theorem at_17_42 : j_at 17 42 = some (.iload_n 1, 0, 0, 0) := by decide +kernel
theorem at_17_43 : j_at 17 43 = some (.ifCond .ne 13, 56, 0, 0) := by decide +kernel
theorem at_17_46 : j_at 17 46 = some (.aload_n 0, 0, 0, 0) := by decide +kernel
theorem at_17_47 : j_at 17 47 = some (.getfield 22, 1, 4, 0) := by decide +kernel
theorem at_17_50 : j_at 17 50 = some (.iload_n 2, 0, 0, 0) := by decide +kernel
theorem at_17_51 : j_at 17 51 = some (.iload_n 3, 0, 0, 0) := by decide +kernel
theorem at_17_52 : j_at 17 52 = some (.iastore, 0, 0, 0) := by decide +kernel
theorem at_17_53 : j_at 17 53 = some (.goto 25, 78, 0, 0) := by decide +kernel
theorem at_17_56 : j_at 17 56 = some (.iload_n 1, 0, 0, 0) := by decide +kernel
theorem at_17_57 : j_at 17 57 = some (.iconst 1, 0, 0, 1) := by decide +kernel
theorem at_17_58 : j_at 17 58 = some (.if_icmp .ne 13, 71, 0, 0) := by decide +kernel
theorem at_17_61 : j_at 17 61 = some (.aload_n 0, 0, 0, 0) := by decide +kernel
theorem at_17_62 : j_at 17 62 = some (.getfield 15, 1, 2, 0) := by decide +kernel
theorem at_17_65 : j_at 17 65 = some (.iload_n 2, 0, 0, 0) := by decide +kernel
theorem at_17_66 : j_at 17 66 = some (.iload_n 3, 0, 0, 0) := by decide +kernel
theorem at_17_67 : j_at 17 67 = some (.iastore, 0, 0, 0) := by decide +kernel
theorem at_17_68 : j_at 17 68 = some (.goto 10, 78, 0, 0) := by decide +kernel
theorem at_17_71 : j_at 17 71 = some (.aload_n 0, 0, 0, 0) := by decide +kernel
theorem at_17_72 : j_at 17 72 = some (.iload_n 2, 0, 0, 0) := by decide +kernel
theorem at_17_73 : j_at 17 73 = some (.iconst 0, 0, 0, 0) := by decide +kernel
theorem at_17_74 : j_at 17 74 = some (.iload_n 3, 0, 0, 0) := by decide +kernel
theorem at_17_75 : j_at 17 75 = some (.invokevirtual 43, 12, 3, 0) := by decide +kernel
theorem at_17_78 : j_at 17 78 = some (.return_, 0, 0, 0) := by decide +kernel
theorem at_18_0 : j_at 18 0 = some (.iload_n 1, 0, 0, 0) := by decide +kernel
theorem at_18_1 : j_at 18 1 = some (.istore_n 3, 0, 0, 0) := by decide +kernel
theorem at_18_2 : j_at 18 2 = some (.aload_n 0, 0, 0, 0) := by decide +kernel
theorem at_18_3 : j_at 18 3 = some (.iconst 0, 0, 0, 0) := by decide +kernel
theorem at_18_4 : j_at 18 4 = some (.putfield 28, 1, 1, 0) := by decide +kernel
theorem at_18_7 : j_at 18 7 = some (.iconst 0, 0, 0, 0) := by decide +kernel
theorem at_18_8 : j_at 18 8 = some (.istore 4, 0, 0, 0) := by decide +kernel
theorem at_18_10 : j_at 18 10 = some (.iload 4, 0, 0, 0) := by decide +kernel
theorem at_18_12 : j_at 18 12 = some (.iload_n 2, 0, 0, 0) := by decide +kernel
theorem at_18_13 : j_at 18 13 = some (.if_icmp .ge 72, 85, 0, 0) := by decide +kernel
theorem at_18_16 : j_at 18 16 = some (.aload_n 0, 0, 0, 0) := by decide +kernel
theorem at_18_17 : j_at 18 17 = some (.iconst 0, 0, 0, 0) := by decide +kernel
theorem at_18_18 : j_at 18 18 = some (.iconst 0, 0, 0, 0) := by decide +kernel
theorem at_18_19 : j_at 18 19 = some (.invokevirtual 57, 10, 2, 0) := by decide +kernel
theorem at_18_22 : j_at 18 22 = some (.iconst 0, 0, 0, 0) := by decide +kernel
theorem at_18_23 : j_at 18 23 = some (.istore 5, 0, 0, 0) := by decide +kernel
theorem at_18_25 : j_at 18 25 = some (.iload 5, 0, 0, 0) := by decide +kernel
theorem at_18_27 : j_at 18 27 = some (.aload_n 0, 0, 0, 0) := by decide +kernel
theorem at_18_28 : j_at 18 28 = some (.getfield 9, 1, 0, 0) := by decide +kernel
theorem at_18_31 : j_at 18 31 = some (.if_icmp .ge 29, 60, 0, 0) := by decide +kernel
theorem at_18_34 : j_at 18 34 = some (.iload_n 3, 0, 0, 0) := by decide +kernel
theorem at_18_35 : j_at 18 35 = some (.invokestatic 61, 19, 1, 0) := by decide +kernel
theorem at_18_38 : j_at 18 38 = some (.istore_n 3, 0, 0, 0) := by decide +kernel
theorem at_18_39 : j_at 18 39 = some (.aload_n 0, 0, 0, 0) := by decide +kernel
theorem at_18_40 : j_at 18 40 = some (.iload 4, 0, 0, 0) := by decide +kernel
theorem at_18_42 : j_at 18 42 = some (.iload 5, 0, 0, 0) := by decide +kernel
theorem at_18_44 : j_at 18 44 = some (.iload_n 3, 0, 0, 0) := by decide +kernel
theorem at_18_45 : j_at 18 45 = some (.bipush 9, 0, 0, 9) := by decide +kernel
theorem at_18_47 : j_at 18 47 = some (.iushr, 0, 0, 0) := by decide +kernel
theorem at_18_48 : j_at 18 48 = some (.bipush 10, 0, 0, 10) := by decide +kernel
theorem at_18_50 : j_at 18 50 = some (.irem, 0, 0, 0) := by decide +kernel
theorem at_18_51 : j_at 18 51 = some (.invokevirtual 43, 12, 3, 0) := by decide +kernel
theorem at_18_54 : j_at 18 54 = some (.iinc 5 1, 0, 0, 0) := by decide +kernel
theorem at_18_57 : j_at 18 57 = some (.goto (-32), 25, 0, 0) := by decide +kernel
theorem at_18_60 : j_at 18 60 = some (.iload_n 3, 0, 0, 0) := by decide +kernel
theorem at_18_61 : j_at 18 61 = some (.invokestatic 61, 19, 1, 0) := by decide +kernel
theorem at_18_64 : j_at 18 64 = some (.istore_n 3, 0, 0, 0) := by decide +kernel
theorem at_18_65 : j_at 18 65 = some (.aload_n 0, 0, 0, 0) := by decide +kernel
theorem at_18_66 : j_at 18 66 = some (.getfield 22, 1, 4, 0) := by decide +kernel
theorem at_18_69 : j_at 18 69 = some (.iload 4, 0, 0, 0) := by decide +kernel
theorem at_18_71 : j_at 18 71 = some (.iload_n 3, 0, 0, 0) := by decide +kernel
theorem at_18_72 : j_at 18 72 = some (.bipush 9, 0, 0, 9) := by decide +kernel
theorem at_18_74 : j_at 18 74 = some (.iushr, 0, 0, 0) := by decide +kernel
theorem at_18_75 : j_at 18 75 = some (.bipush 60, 0, 0, 60) := by decide +kernel
theorem at_18_77 : j_at 18 77 = some (.irem, 0, 0, 0) := by decide +kernel
theorem at_18_78 : j_at 18 78 = some (.iastore, 0, 0, 0) := by decide +kernel
theorem at_18_79 : j_at 18 79 = some (.iinc 4 1, 0, 0, 0) := by decide +kernel
theorem at_18_82 : j_at 18 82 = some (.goto (-72), 10, 0, 0) := by decide +kernel
theorem at_18_85 : j_at 18 85 = some (.return_, 0, 0, 0) := by decide +kernel
theorem at_19_0 : j_at 19 0 = some (.iload_n 0, 0, 0, 0) := by decide +kernel
theorem at_19_1 : j_at 19 1 = some (.ldc 65, 0, 0, 1103515245) := by decide +kernel
theorem at_19_3 : j_at 19 3 = some (.imul, 0, 0, 0) := by decide +kernel
theorem at_19_4 : j_at 19 4 = some (.sipush 12345, 0, 0, 12345) := by decide +kernel
theorem at_19_7 : j_at 19 7 = some (.iadd, 0, 0, 0) := by decide +kernel
theorem at_19_8 : j_at 19 8 = some (.ireturn, 0, 0, 0) := by decide +kernel
theorem at_21_0 : j_at 21 0 = some (.aload_n 0, 0, 0, 0) := by decide +kernel
theorem at_21_1 : j_at 21 1 = some (.aload_n 1, 0, 0, 0) := by decide +kernel
theorem at_21_2 : j_at 21 2 = some (.getfield 21, 2, 0, 0) := by decide +kernel
theorem at_21_5 : j_at 21 5 = some (.putfield 21, 2, 0, 0) := by decide +kernel
theorem at_21_8 : j_at 21 8 = some (.aload_n 1, 0, 0, 0) := by decide +kernel
theorem at_21_9 : j_at 21 9 = some (.getfield 9, 2, 1, 0) := by decide +kernel
theorem at_21_12 : j_at 21 12 = some (.iconst 0, 0, 0, 0) := by decide +kernel
theorem at_21_13 : j_at 21 13 = some (.aload_n 0, 0, 0, 0) := by decide +kernel
theorem at_21_14 : j_at 21 14 = some (.getfield 9, 2, 1, 0) := by decide +kernel
theorem at_21_17 : j_at 21 17 = some (.iconst 0, 0, 0, 0) := by decide +kernel
theorem at_21_18 : j_at 21 18 = some (.bipush 20, 0, 0, 20) := by decide +kernel
theorem at_21_20 : j_at 21 20 = some (.invokestatic 25, 9999, 5, 0) := by decide +kernel
theorem at_21_23 : j_at 21 23 = some (.aload_n 1, 0, 0, 0) := by decide +kernel
theorem at_21_24 : j_at 21 24 = some (.getfield 15, 2, 2, 0) := by decide +kernel
theorem at_21_27 : j_at 21 27 = some (.iconst 0, 0, 0, 0) := by decide +kernel
theorem at_21_28 : j_at 21 28 = some (.aload_n 0, 0, 0, 0) := by decide +kernel
theorem at_21_29 : j_at 21 29 = some (.getfield 15, 2, 2, 0) := by decide +kernel
theorem at_21_32 : j_at 21 32 = some (.iconst 0, 0, 0, 0) := by decide +kernel
theorem at_21_33 : j_at 21 33 = some (.bipush 20, 0, 0, 20) := by decide +kernel
theorem at_21_35 : j_at 21 35 = some (.invokestatic 25, 9999, 5, 0) := by decide +kernel
theorem at_21_38 : j_at 21 38 = some (.aload_n 1, 0, 0, 0) := by decide +kernel
theorem at_21_39 : j_at 21 39 = some (.getfield 18, 2, 3, 0) := by decide +kernel
theorem at_21_42 : j_at 21 42 = some (.iconst 0, 0, 0, 0) := by decide +kernel
theorem at_21_43 : j_at 21 43 = some (.aload_n 0, 0, 0, 0) := by decide +kernel
theorem at_21_44 : j_at 21 44 = some (.getfield 18, 2, 3, 0) := by decide +kernel
theorem at_21_47 : j_at 21 47 = some (.iconst 0, 0, 0, 0) := by decide +kernel
theorem at_21_48 : j_at 21 48 = some (.bipush 20, 0, 0, 20) := by decide +kernel
theorem at_21_50 : j_at 21 50 = some (.invokestatic 25, 9999, 5, 0) := by decide +kernel
theorem at_21_53 : j_at 21 53 = some (.return_, 0, 0, 0) := by decide +kernel
theorem at_22_0 : j_at 22 0 = some (.aload_n 0, 0, 0, 0) := by decide +kernel
theorem at_22_1 : j_at 22 1 = some (.iconst 0, 0, 0, 0) := by decide +kernel
theorem at_22_2 : j_at 22 2 = some (.putfield 21, 2, 0, 0) := by decide +kernel
theorem at_22_5 : j_at 22 5 = some (.return_, 0, 0, 0) := by decide +kernel
theorem at_23_0 : j_at 23 0 = some (.iconst 0, 0, 0, 0) := by decide +kernel
theorem at_23_1 : j_at 23 1 = some (.istore_n 2, 0, 0, 0) := by decide +kernel
theorem at_23_2 : j_at 23 2 = some (.iload_n 2, 0, 0, 0) := by decide +kernel
theorem at_23_3 : j_at 23 3 = some (.aload_n 0, 0, 0, 0) := by decide +kernel
theorem at_23_4 : j_at 23 4 = some (.getfield 21, 2, 0, 0) := by decide +kernel
theorem at_23_7 : j_at 23 7 = some (.if_icmp .ge 21, 28, 0, 0) := by decide +kernel
theorem at_23_10 : j_at 23 10 = some (.aload_n 0, 0, 0, 0) := by decide +kernel
theorem at_23_11 : j_at 23 11 = some (.getfield 9, 2, 1, 0) := by decide +kernel
theorem at_23_14 : j_at 23 14 = some (.iload_n 2, 0, 0, 0) := by decide +kernel
theorem at_23_15 : j_at 23 15 = some (.iaload, 0, 0, 0) := by decide +kernel
theorem at_23_16 : j_at 23 16 = some (.iload_n 1, 0, 0, 0) := by decide +kernel
theorem at_23_17 : j_at 23 17 = some (.if_icmp .ne 5, 22, 0, 0) := by decide +kernel
theorem at_23_20 : j_at 23 20 = some (.iload_n 2, 0, 0, 0) := by decide +kernel
theorem at_23_21 : j_at 23 21 = some (.ireturn, 0, 0, 0) := by decide +kernel
theorem at_23_22 : j_at 23 22 = some (.iinc 2 1, 0, 0, 0) := by decide +kernel
theorem at_23_25 : j_at 23 25 = some (.goto (-23), 2, 0, 0) := by decide +kernel
theorem at_23_28 : j_at 23 28 = some (.iconst (-1), 0, 0, -1) := by decide +kernel
theorem at_23_29 : j_at 23 29 = some (.ireturn, 0, 0, 0) := by decide +kernel
theorem at_24_0 : j_at 24 0 = some (.aload_n 0, 0, 0, 0) := by decide +kernel
theorem at_24_1 : j_at 24 1 = some (.getfield 18, 2, 3, 0) := by decide +kernel
theorem at_24_4 : j_at 24 4 = some (.iload_n 1, 0, 0, 0) := by decide +kernel
theorem at_24_5 : j_at 24 5 = some (.iaload, 0, 0, 0) := by decide +kernel
theorem at_24_6 : j_at 24 6 = some (.aload_n 0, 0, 0, 0) := by decide +kernel
theorem at_24_7 : j_at 24 7 = some (.getfield 15, 2, 2, 0) := by decide +kernel
theorem at_24_10 : j_at 24 10 = some (.iload_n 1, 0, 0, 0) := by decide +kernel
theorem at_24_11 : j_at 24 11 = some (.iaload, 0, 0, 0) := by decide +kernel
theorem at_24_12 : j_at 24 12 = some (.isub, 0, 0, 0) := by decide +kernel
theorem at_24_13 : j_at 24 13 = some (.ireturn, 0, 0, 0) := by decide +kernel
theorem at_25_0 : j_at 25 0 = some (.aload_n 0, 0, 0, 0) := by decide +kernel
theorem at_25_1 : j_at 25 1 = some (.getfield 21, 2, 0, 0) := by decide +kernel
theorem at_25_4 : j_at 25 4 = some (.istore 4, 0, 0, 0) := by decide +kernel
theorem at_25_6 : j_at 25 6 = some (.iload 4, 0, 0, 0) := by decide +kernel
theorem at_25_8 : j_at 25 8 = some (.ifCond .le 70, 78, 0, 0) := by decide +kernel
theorem at_25_11 : j_at 25 11 = some (.aload_n 0, 0, 0, 0) := by decide +kernel
theorem at_25_12 : j_at 25 12 = some (.iload_n 1, 0, 0, 0) := by decide +kernel
theorem at_25_13 : j_at 25 13 = some (.iload_n 2, 0, 0, 0) := by decide +kernel
theorem at_25_14 : j_at 25 14 = some (.iload 4, 0, 0, 0) := by decide +kernel
theorem at_25_16 : j_at 25 16 = some (.iconst 1, 0, 0, 1) := by decide +kernel
theorem at_25_17 : j_at 25 17 = some (.isub, 0, 0, 0) := by decide +kernel
theorem at_25_18 : j_at 25 18 = some (.invokevirtual 31, 27, 3, 0) := by decide +kernel
theorem at_25_21 : j_at 25 21 = some (.ifCond .eq 57, 78, 0, 0) := by decide +kernel
theorem at_25_24 : j_at 25 24 = some (.aload_n 0, 0, 0, 0) := by decide +kernel
theorem at_25_25 : j_at 25 25 = some (.getfield 9, 2, 1, 0) := by decide +kernel
theorem at_25_28 : j_at 25 28 = some (.iload 4, 0, 0, 0) := by decide +kernel
theorem at_25_30 : j_at 25 30 = some (.aload_n 0, 0, 0, 0) := by decide +kernel
theorem at_25_31 : j_at 25 31 = some (.getfield 9, 2, 1, 0) := by decide +kernel
theorem at_25_34 : j_at 25 34 = some (.iload 4, 0, 0, 0) := by decide +kernel
theorem at_25_36 : j_at 25 36 = some (.iconst 1, 0, 0, 1) := by decide +kernel
theorem at_25_37 : j_at 25 37 = some (.isub, 0, 0, 0) := by decide +kernel
theorem at_25_38 : j_at 25 38 = some (.iaload, 0, 0, 0) := by decide +kernel
theorem at_25_39 : j_at 25 39 = some (.iastore, 0, 0, 0) := by decide +kernel
theorem at_25_40 : j_at 25 40 = some (.aload_n 0, 0, 0, 0) := by decide +kernel
theorem at_25_41 : j_at 25 41 = some (.getfield 15, 2, 2, 0) := by decide +kernel
theorem at_25_44 : j_at 25 44 = some (.iload 4, 0, 0, 0) := by decide +kernel
theorem at_25_46 : j_at 25 46 = some (.aload_n 0, 0, 0, 0) := by decide +kernel
theorem at_25_47 : j_at 25 47 = some (.getfield 15, 2, 2, 0) := by decide +kernel
theorem at_25_50 : j_at 25 50 = some (.iload 4, 0, 0, 0) := by decide +kernel
theorem at_25_52 : j_at 25 52 = some (.iconst 1, 0, 0, 1) := by decide +kernel
theorem at_25_53 : j_at 25 53 = some (.isub, 0, 0, 0) := by decide +kernel
theorem at_25_54 : j_at 25 54 = some (.iaload, 0, 0, 0) := by decide +kernel
theorem at_25_55 : j_at 25 55 = some (.iastore, 0, 0, 0) := by decide +kernel
theorem at_25_56 : j_at 25 56 = some (.aload_n 0, 0, 0, 0) := by decide +kernel
theorem at_25_57 : j_at 25 57 = some (.getfield 18, 2, 3, 0) := by decide +kernel
theorem at_25_60 : j_at 25 60 = some (.iload 4, 0, 0, 0) := by decide +kernel
theorem at_25_62 : j_at 25 62 = some (.aload_n 0, 0, 0, 0) := by decide +kernel
theorem at_25_63 : j_at 25 63 = some (.getfield 18, 2, 3, 0) := by decide +kernel
theorem at_25_66 : j_at 25 66 = some (.iload 4, 0, 0, 0) := by decide +kernel
theorem at_25_68 : j_at 25 68 = some (.iconst 1, 0, 0, 1) := by decide +kernel
theorem at_25_69 : j_at 25 69 = some (.isub, 0, 0, 0) := by decide +kernel
theorem at_25_70 : j_at 25 70 = some (.iaload, 0, 0, 0) := by decide +kernel
theorem at_25_71 : j_at 25 71 = some (.iastore, 0, 0, 0) := by decide +kernel
theorem at_25_72 : j_at 25 72 = some (.iinc 4 (-1), 0, 0, 0) := by decide +kernel
theorem at_25_75 : j_at 25 75 = some (.goto (-69), 6, 0, 0) := by decide +kernel
theorem at_25_78 : j_at 25 78 = some (.aload_n 0, 0, 0, 0) := by decide +kernel
theorem at_25_79 : j_at 25 79 = some (.getfield 9, 2, 1, 0) := by decide +kernel
theorem at_25_82 : j_at 25 82 = some (.iload 4, 0, 0, 0) := by decide +kernel
theorem at_25_84 : j_at 25 84 = some (.iload_n 1, 0, 0, 0) := by decide +kernel
theorem at_25_85 : j_at 25 85 = some (.iastore, 0, 0, 0) := by decide +kernel
theorem at_25_86 : j_at 25 86 = some (.aload_n 0, 0, 0, 0) := by decide +kernel
theorem at_25_87 : j_at 25 87 = some (.getfield 15, 2, 2, 0) := by decide +kernel
theorem at_25_90 : j_at 25 90 = some (.iload 4, 0, 0, 0) := by decide +kernel
theorem at_25_92 : j_at 25 92 = some (.iload_n 2, 0, 0, 0) := by decide +kernel
theorem at_25_93 : j_at 25 93 = some (.iastore, 0, 0, 0) := by decide +kernel
theorem at_25_94 : j_at 25 94 = some (.aload_n 0, 0, 0, 0) := by decide +kernel
theorem at_25_95 : j_at 25 95 = some (.getfield 18, 2, 3, 0) := by decide +kernel
theorem at_25_98 : j_at 25 98 = some (.iload 4, 0, 0, 0) := by decide +kernel
theorem at_25_100 : j_at 25 100 = some (.iload_n 3, 0, 0, 0) := by decide +kernel
theorem at_25_101 : j_at 25 101 = some (.iastore, 0, 0, 0) := by decide +kernel
theorem at_25_102 : j_at 25 102 = some (.aload_n 0, 0, 0, 0) := by decide +kernel
theorem at_25_103 : j_at 25 103 = some (.dup, 0, 0, 0) := by decide +kernel
theorem at_25_104 : j_at 25 104 = some (.getfield 21, 2, 0, 0) := by decide +kernel
theorem at_25_107 : j_at 25 107 = some (.iconst 1, 0, 0, 1) := by decide +kernel
theorem at_25_108 : j_at 25 108 = some (.iadd, 0, 0, 0) := by decide +kernel
theorem at_25_109 : j_at 25 109 = some (.putfield 21, 2, 0, 0) := by decide +kernel
theorem at_25_112 : j_at 25 112 = some (.return_, 0, 0, 0) := by decide +kernel
theorem at_26_0 : j_at 26 0 = some (.aload_n 0, 0, 0, 0) := by decide +kernel
theorem at_26_1 : j_at 26 1 = some (.getfield 21, 2, 0, 0) := by decide +kernel
theorem at_26_4 : j_at 26 4 = some (.bipush 20, 0, 0, 20) := by decide +kernel
theorem at_26_6 : j_at 26 6 = some (.if_icmp .lt 29, 35, 0, 0) := by decide +kernel
theorem at_26_9 : j_at 26 9 = some (.aload_n 0, 0, 0, 0) := by decide +kernel
theorem at_26_10 : j_at 26 10 = some (.iload_n 1, 0, 0, 0) := by decide +kernel
theorem at_26_11 : j_at 26 11 = some (.iload_n 2, 0, 0, 0) := by decide +kernel
theorem at_26_12 : j_at 26 12 = some (.aload_n 0, 0, 0, 0) := by decide +kernel
theorem at_26_13 : j_at 26 13 = some (.getfield 21, 2, 0, 0) := by decide +kernel
theorem at_26_16 : j_at 26 16 = some (.iconst 1, 0, 0, 1) := by decide +kernel
theorem at_26_17 : j_at 26 17 = some (.isub, 0, 0, 0) := by decide +kernel
theorem at_26_18 : j_at 26 18 = some (.invokevirtual 31, 27, 3, 0) := by decide +kernel
theorem at_26_21 : j_at 26 21 = some (.ifCond .ne 4, 25, 0, 0) := by decide +kernel
theorem at_26_24 : j_at 26 24 = some (.return_, 0, 0, 0) := by decide +kernel
theorem at_26_25 : j_at 26 25 = some (.aload_n 0, 0, 0, 0) := by decide +kernel
theorem at_26_26 : j_at 26 26 = some (.dup, 0, 0, 0) := by decide +kernel
theorem at_26_27 : j_at 26 27 = some (.getfield 21, 2, 0, 0) := by decide +kernel
theorem at_26_30 : j_at 26 30 = some (.iconst 1, 0, 0, 1) := by decide +kernel
theorem at_26_31 : j_at 26 31 = some (.isub, 0, 0, 0) := by decide +kernel
theorem at_26_32 : j_at 26 32 = some (.putfield 21, 2, 0, 0) := by decide +kernel
theorem at_26_35 : j_at 26 35 = some (.aload_n 0, 0, 0, 0) := by decide +kernel
theorem at_26_36 : j_at 26 36 = some (.iload_n 1, 0, 0, 0) := by decide +kernel
theorem at_26_37 : j_at 26 37 = some (.iload_n 2, 0, 0, 0) := by decide +kernel
theorem at_26_38 : j_at 26 38 = some (.iconst 0, 0, 0, 0) := by decide +kernel
theorem at_26_39 : j_at 26 39 = some (.invokevirtual 35, 25, 3, 0) := by decide +kernel
theorem at_26_42 : j_at 26 42 = some (.return_, 0, 0, 0) := by decide +kernel
theorem at_27_0 : j_at 27 0 = some (.iload_n 2, 0, 0, 0) := by decide +kernel
theorem at_27_1 : j_at 27 1 = some (.aload_n 0, 0, 0, 0) := by decide +kernel
theorem at_27_2 : j_at 27 2 = some (.getfield 15, 2, 2, 0) := by decide +kernel
theorem at_27_5 : j_at 27 5 = some (.iload_n 3, 0, 0, 0) := by decide +kernel
theorem at_27_6 : j_at 27 6 = some (.iaload, 0, 0, 0) := by decide +kernel
theorem at_27_7 : j_at 27 7 = some (.if_icmp .lt 23, 30, 0, 0) := by decide +kernel
theorem at_27_10 : j_at 27 10 = some (.iload_n 2, 0, 0, 0) := by decide +kernel
theorem at_27_11 : j_at 27 11 = some (.aload_n 0, 0, 0, 0) := by decide +kernel
theorem at_27_12 : j_at 27 12 = some (.getfield 15, 2, 2, 0) := by decide +kernel
theorem at_27_15 : j_at 27 15 = some (.iload_n 3, 0, 0, 0) := by decide +kernel
theorem at_27_16 : j_at 27 16 = some (.iaload, 0, 0, 0) := by decide +kernel
theorem at_27_17 : j_at 27 17 = some (.if_icmp .ne 17, 34, 0, 0) := by decide +kernel
theorem at_27_20 : j_at 27 20 = some (.iload_n 1, 0, 0, 0) := by decide +kernel
theorem at_27_21 : j_at 27 21 = some (.aload_n 0, 0, 0, 0) := by decide +kernel
theorem at_27_22 : j_at 27 22 = some (.getfield 9, 2, 1, 0) := by decide +kernel
theorem at_27_25 : j_at 27 25 = some (.iload_n 3, 0, 0, 0) := by decide +kernel
theorem at_27_26 : j_at 27 26 = some (.iaload, 0, 0, 0) := by decide +kernel
theorem at_27_27 : j_at 27 27 = some (.if_icmp .ge 7, 34, 0, 0) := by decide +kernel
theorem at_27_30 : j_at 27 30 = some (.iconst 1, 0, 0, 1) := by decide +kernel
theorem at_27_31 : j_at 27 31 = some (.goto 4, 35, 0, 0) := by decide +kernel
theorem at_27_34 : j_at 27 34 = some (.iconst 0, 0, 0, 0) := by decide +kernel
theorem at_27_35 : j_at 27 35 = some (.ireturn, 0, 0, 0) := by decide +kernel
theorem at_29_0 : j_at 29 0 = some (.aload_n 0, 0, 0, 0) := by decide +kernel
theorem at_29_1 : j_at 29 1 = some (.getfield 12, 3, 0, 0) := by decide +kernel
theorem at_29_4 : j_at 29 4 = some (.aload_n 1, 0, 0, 0) := by decide +kernel
theorem at_29_5 : j_at 29 5 = some (.invokevirtual 25, 38, 1, 0) := by decide +kernel
theorem at_29_8 : j_at 29 8 = some (.aload_n 0, 0, 0, 0) := by decide +kernel
theorem at_29_9 : j_at 29 9 = some (.getfield 21, 3, 1, 0) := by decide +kernel
theorem at_29_12 : j_at 29 12 = some (.invokevirtual 29, 1, 0, 0) := by decide +kernel
theorem at_29_15 : j_at 29 15 = some (.aload_n 0, 0, 0, 0) := by decide +kernel
theorem at_29_16 : j_at 29 16 = some (.aload_n 0, 0, 0, 0) := by decide +kernel
theorem at_29_17 : j_at 29 17 = some (.getfield 12, 3, 0, 0) := by decide +kernel
theorem at_29_20 : j_at 29 20 = some (.invokevirtual 32, 45, 0, 0) := by decide +kernel
theorem at_29_23 : j_at 29 23 = some (.putfield 36, 3, 2, 0) := by decide +kernel
theorem at_29_26 : j_at 29 26 = some (.iconst 0, 0, 0, 0) := by decide +kernel
theorem at_29_27 : j_at 29 27 = some (.istore_n 3, 0, 0, 0) := by decide +kernel
theorem at_29_28 : j_at 29 28 = some (.iload_n 3, 0, 0, 0) := by decide +kernel
theorem at_29_29 : j_at 29 29 = some (.iload_n 2, 0, 0, 0) := by decide +kernel
theorem at_29_30 : j_at 29 30 = some (.if_icmp .ge 92, 122, 0, 0) := by decide +kernel
theorem at_29_33 : j_at 29 33 = some (.aload_n 0, 0, 0, 0) := by decide +kernel
theorem at_29_34 : j_at 29 34 = some (.getfield 36, 3, 2, 0) := by decide +kernel
theorem at_29_37 : j_at 29 37 = some (.iconst 3, 0, 0, 3) := by decide +kernel
theorem at_29_38 : j_at 29 38 = some (.if_icmp .ne 84, 122, 0, 0) := by decide +kernel
theorem at_29_41 : j_at 29 41 = some (.aload_n 0, 0, 0, 0) := by decide +kernel
theorem at_29_42 : j_at 29 42 = some (.getfield 12, 3, 0, 0) := by decide +kernel
theorem at_29_45 : j_at 29 45 = some (.invokevirtual 40, 56, 0, 0) := by decide +kernel
theorem at_29_48 : j_at 29 48 = some (.istore 4, 0, 0, 0) := by decide +kernel
theorem at_29_50 : j_at 29 50 = some (.iload 4, 0, 0, 0) := by decide +kernel
theorem at_29_52 : j_at 29 52 = some (.ifCond .ge 6, 58, 0, 0) := by decide +kernel
theorem at_29_55 : j_at 29 55 = some (.goto 67, 122, 0, 0) := by decide +kernel
theorem at_29_58 : j_at 29 58 = some (.aload_n 0, 0, 0, 0) := by decide +kernel
theorem at_29_59 : j_at 29 59 = some (.getfield 21, 3, 1, 0) := by decide +kernel
theorem at_29_62 : j_at 29 62 = some (.aload_n 0, 0, 0, 0) := by decide +kernel
theorem at_29_63 : j_at 29 63 = some (.getfield 12, 3, 0, 0) := by decide +kernel
theorem at_29_66 : j_at 29 66 = some (.iload 4, 0, 0, 0) := by decide +kernel
theorem at_29_68 : j_at 29 68 = some (.aload_n 1, 0, 0, 0) := by decide +kernel
theorem at_29_69 : j_at 29 69 = some (.invokevirtual 43, 4, 3, 0) := by decide +kernel
theorem at_29_72 : j_at 29 72 = some (.ifCond .eq 38, 110, 0, 0) := by decide +kernel
theorem at_29_75 : j_at 29 75 = some (.aload_n 0, 0, 0, 0) := by decide +kernel
theorem at_29_76 : j_at 29 76 = some (.getfield 12, 3, 0, 0) := by decide +kernel
theorem at_29_79 : j_at 29 79 = some (.bipush 20, 0, 0, 20) := by decide +kernel
theorem at_29_81 : j_at 29 81 = some (.aload_n 0, 0, 0, 0) := by decide +kernel
theorem at_29_82 : j_at 29 82 = some (.getfield 21, 3, 1, 0) := by decide +kernel
theorem at_29_85 : j_at 29 85 = some (.getfield 47, 0, 0, 0) := by decide +kernel
theorem at_29_88 : j_at 29 88 = some (.iadd, 0, 0, 0) := by decide +kernel
theorem at_29_89 : j_at 29 89 = some (.iconst 1, 0, 0, 1) := by decide +kernel
theorem at_29_90 : j_at 29 90 = some (.isub, 0, 0, 0) := by decide +kernel
theorem at_29_91 : j_at 29 91 = some (.iload 4, 0, 0, 0) := by decide +kernel
theorem at_29_93 : j_at 29 93 = some (.invokevirtual 50, 42, 2, 0) := by decide +kernel
theorem at_29_96 : j_at 29 96 = some (.aload_n 0, 0, 0, 0) := by decide +kernel
theorem at_29_97 : j_at 29 97 = some (.aload_n 0, 0, 0, 0) := by decide +kernel
theorem at_29_98 : j_at 29 98 = some (.getfield 12, 3, 0, 0) := by decide +kernel
theorem at_29_101 : j_at 29 101 = some (.invokevirtual 32, 45, 0, 0) := by decide +kernel
theorem at_29_104 : j_at 29 104 = some (.putfield 36, 3, 2, 0) := by decide +kernel
theorem at_29_107 : j_at 29 107 = some (.goto 9, 116, 0, 0) := by decide +kernel
theorem at_29_110 : j_at 29 110 = some (.aload_n 0, 0, 0, 0) := by decide +kernel
theorem at_29_111 : j_at 29 111 = some (.bipush (-6), 0, 0, -6) := by decide +kernel
theorem at_29_113 : j_at 29 113 = some (.putfield 36, 3, 2, 0) := by decide +kernel
theorem at_29_116 : j_at 29 116 = some (.iinc 3 1, 0, 0, 0) := by decide +kernel
theorem at_29_119 : j_at 29 119 = some (.goto (-91), 28, 0, 0) := by decide +kernel
theorem at_29_122 : j_at 29 122 = some (.aload_n 0, 0, 0, 0) := by decide +kernel
theorem at_29_123 : j_at 29 123 = some (.getfield 36, 3, 2, 0) := by decide +kernel
theorem at_29_126 : j_at 29 126 = some (.iconst 3, 0, 0, 3) := by decide +kernel
theorem at_29_127 : j_at 29 127 = some (.if_icmp .ne 22, 149, 0, 0) := by decide +kernel
theorem at_29_130 : j_at 29 130 = some (.aload_n 0, 0, 0, 0) := by decide +kernel
theorem at_29_131 : j_at 29 131 = some (.aload_n 0, 0, 0, 0) := by decide +kernel
theorem at_29_132 : j_at 29 132 = some (.getfield 12, 3, 0, 0) := by decide +kernel
theorem at_29_135 : j_at 29 135 = some (.invokevirtual 40, 56, 0, 0) := by decide +kernel
theorem at_29_138 : j_at 29 138 = some (.ifCond .ge 7, 145, 0, 0) := by decide +kernel
theorem at_29_141 : j_at 29 141 = some (.iconst 1, 0, 0, 1) := by decide +kernel
theorem at_29_142 : j_at 29 142 = some (.goto 4, 146, 0, 0) := by decide +kernel
theorem at_29_145 : j_at 29 145 = some (.iconst 2, 0, 0, 2) := by decide +kernel
theorem at_29_146 : j_at 29 146 = some (.putfield 36, 3, 2, 0) := by decide +kernel
theorem at_29_149 : j_at 29 149 = some (.aload_n 0, 0, 0, 0) := by decide +kernel
theorem at_29_150 : j_at 29 150 = some (.getfield 36, 3, 2, 0) := by decide +kernel
theorem at_29_153 : j_at 29 153 = some (.ireturn, 0, 0, 0) := by decide +kernel
theorem at_30_0 : j_at 30 0 = some (.aload_n 0, 0, 0, 0) := by decide +kernel
theorem at_30_1 : j_at 30 1 = some (.aload_n 1, 0, 0, 0) := by decide +kernel
theorem at_30_2 : j_at 30 2 = some (.bipush 12, 0, 0, 12) := by decide +kernel
theorem at_30_4 : j_at 30 4 = some (.invokevirtual 54, 29, 2, 0) := by decide +kernel
theorem at_30_7 : j_at 30 7 = some (.istore_n 2, 0, 0, 0) := by decide +kernel
theorem at_30_8 : j_at 30 8 = some (.iload_n 2, 0, 0, 0) := by decide +kernel
theorem at_30_9 : j_at 30 9 = some (.iconst 1, 0, 0, 1) := by decide +kernel
theorem at_30_10 : j_at 30 10 = some (.if_icmp .ne 19, 29, 0, 0) := by decide +kernel
theorem at_30_13 : j_at 30 13 = some (.aload_n 0, 0, 0, 0) := by decide +kernel
theorem at_30_14 : j_at 30 14 = some (.getfield 12, 3, 0, 0) := by decide +kernel
theorem at_30_17 : j_at 30 17 = some (.aload_n 0, 0, 0, 0) := by decide +kernel
theorem at_30_18 : j_at 30 18 = some (.getfield 12, 3, 0, 0) := by decide +kernel
theorem at_30_21 : j_at 30 21 = some (.getfield 58, 5, 3, 0) := by decide +kernel
theorem at_30_24 : j_at 30 24 = some (.invokevirtual 62, 44, 1, 0) := by decide +kernel
theorem at_30_27 : j_at 30 27 = some (.l2i, 0, 0, 0) := by decide +kernel
theorem at_30_28 : j_at 30 28 = some (.ireturn, 0, 0, 0) := by decide +kernel
theorem at_30_29 : j_at 30 29 = some (.iload_n 2, 0, 0, 0) := by decide +kernel
theorem at_30_30 : j_at 30 30 = some (.ifCond .ne 8, 38, 0, 0) := by decide +kernel
theorem at_30_33 : j_at 30 33 = some (.bipush (-5), 0, 0, -5) := by decide +kernel
theorem at_30_35 : j_at 30 35 = some (.goto 5, 40, 0, 0) := by decide +kernel
theorem at_30_38 : j_at 30 38 = some (.bipush (-6), 0, 0, -6) := by decide +kernel
theorem at_30_40 : j_at 30 40 = some (.ireturn, 0, 0, 0) := by decide +kernel
theorem at_32_0 : j_at 32 0 = some (.aload_n 0, 0, 0, 0) := by decide +kernel
theorem at_32_1 : j_at 32 1 = some (.getfield 12, 4, 0, 0) := by decide +kernel
theorem at_32_4 : j_at 32 4 = some (.aload_n 1, 0, 0, 0) := by decide +kernel
theorem at_32_5 : j_at 32 5 = some (.getfield 12, 4, 0, 0) := by decide +kernel
theorem at_32_8 : j_at 32 8 = some (.invokevirtual 51, 8, 1, 0) := by decide +kernel
theorem at_32_11 : j_at 32 11 = some (.aload_n 0, 0, 0, 0) := by decide +kernel
theorem at_32_12 : j_at 32 12 = some (.getfield 21, 4, 1, 0) := by decide +kernel
theorem at_32_15 : j_at 32 15 = some (.aload_n 1, 0, 0, 0) := by decide +kernel
theorem at_32_16 : j_at 32 16 = some (.getfield 21, 4, 1, 0) := by decide +kernel
theorem at_32_19 : j_at 32 19 = some (.invokevirtual 55, 21, 1, 0) := by decide +kernel
theorem at_32_22 : j_at 32 22 = some (.aload_n 1, 0, 0, 0) := by decide +kernel
theorem at_32_23 : j_at 32 23 = some (.getfield 25, 4, 2, 0) := by decide +kernel
theorem at_32_26 : j_at 32 26 = some (.iconst 0, 0, 0, 0) := by decide +kernel
theorem at_32_27 : j_at 32 27 = some (.aload_n 0, 0, 0, 0) := by decide +kernel
theorem at_32_28 : j_at 32 28 = some (.getfield 25, 4, 2, 0) := by decide +kernel
theorem at_32_31 : j_at 32 31 = some (.iconst 0, 0, 0, 0) := by decide +kernel
theorem at_32_32 : j_at 32 32 = some (.bipush 8, 0, 0, 8) := by decide +kernel
theorem at_32_34 : j_at 32 34 = some (.invokestatic 58, 9999, 5, 0) := by decide +kernel
theorem at_32_37 : j_at 32 37 = some (.aload_n 0, 0, 0, 0) := by decide +kernel
theorem at_32_38 : j_at 32 38 = some (.aload_n 1, 0, 0, 0) := by decide +kernel
theorem at_32_39 : j_at 32 39 = some (.getfield 29, 4, 3, 0) := by decide +kernel
theorem at_32_42 : j_at 32 42 = some (.putfield 29, 4, 3, 0) := by decide +kernel
theorem at_32_45 : j_at 32 45 = some (.aload_n 0, 0, 0, 0) := by decide +kernel
theorem at_32_46 : j_at 32 46 = some (.aload_n 1, 0, 0, 0) := by decide +kernel
theorem at_32_47 : j_at 32 47 = some (.getfield 33, 4, 4, 0) := by decide +kernel
theorem at_32_50 : j_at 32 50 = some (.putfield 33, 4, 4, 0) := by decide +kernel
theorem at_32_53 : j_at 32 53 = some (.aload_n 0, 0, 0, 0) := by decide +kernel
theorem at_32_54 : j_at 32 54 = some (.aload_n 1, 0, 0, 0) := by decide +kernel
theorem at_32_55 : j_at 32 55 = some (.getfield 64, 4, 5, 0) := by decide +kernel
theorem at_32_58 : j_at 32 58 = some (.putfield 64, 4, 5, 0) := by decide +kernel
theorem at_32_61 : j_at 32 61 = some (.aload_n 1, 0, 0, 0) := by decide +kernel
theorem at_32_62 : j_at 32 62 = some (.getfield 36, 4, 6, 0) := by decide +kernel
theorem at_32_65 : j_at 32 65 = some (.iconst 0, 0, 0, 0) := by decide +kernel
theorem at_32_66 : j_at 32 66 = some (.aload_n 0, 0, 0, 0) := by decide +kernel
theorem at_32_67 : j_at 32 67 = some (.getfield 36, 4, 6, 0) := by decide +kernel
theorem at_32_70 : j_at 32 70 = some (.iconst 0, 0, 0, 0) := by decide +kernel
theorem at_32_71 : j_at 32 71 = some (.iconst 5, 0, 0, 5) := by decide +kernel
theorem at_32_72 : j_at 32 72 = some (.invokestatic 58, 9999, 5, 0) := by decide +kernel
theorem at_32_75 : j_at 32 75 = some (.aload_n 1, 0, 0, 0) := by decide +kernel
theorem at_32_76 : j_at 32 76 = some (.getfield 39, 4, 7, 0) := by decide +kernel
theorem at_32_79 : j_at 32 79 = some (.iconst 0, 0, 0, 0) := by decide +kernel
theorem at_32_80 : j_at 32 80 = some (.aload_n 0, 0, 0, 0) := by decide +kernel
theorem at_32_81 : j_at 32 81 = some (.getfield 39, 4, 7, 0) := by decide +kernel
theorem at_32_84 : j_at 32 84 = some (.iconst 0, 0, 0, 0) := by decide +kernel
theorem at_32_85 : j_at 32 85 = some (.iconst 5, 0, 0, 5) := by decide +kernel
theorem at_32_86 : j_at 32 86 = some (.invokestatic 58, 9999, 5, 0) := by decide +kernel
theorem at_32_89 : j_at 32 89 = some (.aload_n 0, 0, 0, 0) := by decide +kernel
theorem at_32_90 : j_at 32 90 = some (.aload_n 1, 0, 0, 0) := by decide +kernel
theorem at_32_91 : j_at 32 91 = some (.getfield 67, 4, 8, 0) := by decide +kernel
theorem at_32_94 : j_at 32 94 = some (.putfield 67, 4, 8, 0) := by decide +kernel
theorem at_32_97 : j_at 32 97 = some (.aload_n 1, 0, 0, 0) := by decide +kernel
theorem at_32_98 : j_at 32 98 = some (.getfield 42, 4, 9, 0) := by decide +kernel
theorem at_32_101 : j_at 32 101 = some (.iconst 0, 0, 0, 0) := by decide +kernel
theorem at_32_102 : j_at 32 102 = some (.aload_n 0, 0, 0, 0) := by decide +kernel
theorem at_32_103 : j_at 32 103 = some (.getfield 42, 4, 9, 0) := by decide +kernel
theorem at_32_106 : j_at 32 106 = some (.iconst 0, 0, 0, 0) := by decide +kernel
theorem at_32_107 : j_at 32 107 = some (.bipush 8, 0, 0, 8) := by decide +kernel
theorem at_32_109 : j_at 32 109 = some (.invokestatic 58, 9999, 5, 0) := by decide +kernel
theorem at_32_112 : j_at 32 112 = some (.aload_n 1, 0, 0, 0) := by decide +kernel
theorem at_32_113 : j_at 32 113 = some (.getfield 45, 4, 10, 0) := by decide +kernel
theorem at_32_116 : j_at 32 116 = some (.iconst 0, 0, 0, 0) := by decide +kernel
theorem at_32_117 : j_at 32 117 = some (.aload_n 0, 0, 0, 0) := by decide +kernel
theorem at_32_118 : j_at 32 118 = some (.getfield 45, 4, 10, 0) := by decide +kernel
theorem at_32_121 : j_at 32 121 = some (.iconst 0, 0, 0, 0) := by decide +kernel
theorem at_32_122 : j_at 32 122 = some (.bipush 8, 0, 0, 8) := by decide +kernel
theorem at_32_124 : j_at 32 124 = some (.invokestatic 58, 9999, 5, 0) := by decide +kernel
theorem at_32_127 : j_at 32 127 = some (.aload_n 1, 0, 0, 0) := by decide +kernel
theorem at_32_128 : j_at 32 128 = some (.getfield 48, 4, 11, 0) := by decide +kernel
theorem at_32_131 : j_at 32 131 = some (.iconst 0, 0, 0, 0) := by decide +kernel
theorem at_32_132 : j_at 32 132 = some (.aload_n 0, 0, 0, 0) := by decide +kernel
theorem at_32_133 : j_at 32 133 = some (.getfield 48, 4, 11, 0) := by decide +kernel
theorem at_32_136 : j_at 32 136 = some (.iconst 0, 0, 0, 0) := by decide +kernel
theorem at_32_137 : j_at 32 137 = some (.bipush 8, 0, 0, 8) := by decide +kernel
theorem at_32_139 : j_at 32 139 = some (.invokestatic 58, 9999, 5, 0) := by decide +kernel
theorem at_32_142 : j_at 32 142 = some (.return_, 0, 0, 0) := by decide +kernel
theorem at_33_0 : j_at 33 0 = some (.aload_n 0, 0, 0, 0) := by decide +kernel
theorem at_33_1 : j_at 33 1 = some (.getfield 12, 4, 0, 0) := by decide +kernel
theorem at_33_4 : j_at 33 4 = some (.iload_n 1, 0, 0, 0) := by decide +kernel
theorem at_33_5 : j_at 33 5 = some (.invokevirtual 70, 9, 1, 0) := by decide +kernel
theorem at_33_8 : j_at 33 8 = some (.aload_n 0, 0, 0, 0) := by decide +kernel
theorem at_33_9 : j_at 33 9 = some (.getfield 21, 4, 1, 0) := by decide +kernel
theorem at_33_12 : j_at 33 12 = some (.invokevirtual 74, 22, 0, 0) := by decide +kernel
theorem at_33_15 : j_at 33 15 = some (.aload_n 0, 0, 0, 0) := by decide +kernel
theorem at_33_16 : j_at 33 16 = some (.getfield 25, 4, 2, 0) := by decide +kernel
theorem at_33_19 : j_at 33 19 = some (.iconst 0, 0, 0, 0) := by decide +kernel
theorem at_33_20 : j_at 33 20 = some (.invokestatic 77, 270, 2, 0) := by decide +kernel
theorem at_33_23 : j_at 33 23 = some (.aload_n 0, 0, 0, 0) := by decide +kernel
theorem at_33_24 : j_at 33 24 = some (.iconst 1, 0, 0, 1) := by decide +kernel
theorem at_33_25 : j_at 33 25 = some (.putfield 29, 4, 3, 0) := by decide +kernel
theorem at_33_28 : j_at 33 28 = some (.aload_n 0, 0, 0, 0) := by decide +kernel
theorem at_33_29 : j_at 33 29 = some (.iconst 0, 0, 0, 0) := by decide +kernel
theorem at_33_30 : j_at 33 30 = some (.putfield 64, 4, 5, 0) := by decide +kernel
theorem at_33_33 : j_at 33 33 = some (.aload_n 0, 0, 0, 0) := by decide +kernel
theorem at_33_34 : j_at 33 34 = some (.iconst 0, 0, 0, 0) := by decide +kernel
theorem at_33_35 : j_at 33 35 = some (.putfield 67, 4, 8, 0) := by decide +kernel
theorem at_33_38 : j_at 33 38 = some (.return_, 0, 0, 0) := by decide +kernel
theorem at_34_0 : j_at 34 0 = some (.aload_n 0, 0, 0, 0) := by decide +kernel
theorem at_34_1 : j_at 34 1 = some (.getfield 36, 4, 6, 0) := by decide +kernel
theorem at_34_4 : j_at 34 4 = some (.aload_n 0, 0, 0, 0) := by decide +kernel
theorem at_34_5 : j_at 34 5 = some (.getfield 64, 4, 5, 0) := by decide +kernel
theorem at_34_8 : j_at 34 8 = some (.iload_n 1, 0, 0, 0) := by decide +kernel
theorem at_34_9 : j_at 34 9 = some (.iastore, 0, 0, 0) := by decide +kernel
theorem at_34_10 : j_at 34 10 = some (.aload_n 0, 0, 0, 0) := by decide +kernel
theorem at_34_11 : j_at 34 11 = some (.getfield 39, 4, 7, 0) := by decide +kernel
theorem at_34_14 : j_at 34 14 = some (.aload_n 0, 0, 0, 0) := by decide +kernel
theorem at_34_15 : j_at 34 15 = some (.getfield 64, 4, 5, 0) := by decide +kernel
theorem at_34_18 : j_at 34 18 = some (.iload_n 2, 0, 0, 0) := by decide +kernel
theorem at_34_19 : j_at 34 19 = some (.iastore, 0, 0, 0) := by decide +kernel
theorem at_34_20 : j_at 34 20 = some (.aload_n 0, 0, 0, 0) := by decide +kernel
theorem at_34_21 : j_at 34 21 = some (.dup, 0, 0, 0) := by decide +kernel
theorem at_34_22 : j_at 34 22 = some (.getfield 64, 4, 5, 0) := by decide +kernel
theorem at_34_25 : j_at 34 25 = some (.iconst 1, 0, 0, 1) := by decide +kernel
theorem at_34_26 : j_at 34 26 = some (.iadd, 0, 0, 0) := by decide +kernel
theorem at_34_27 : j_at 34 27 = some (.putfield 64, 4, 5, 0) := by decide +kernel
theorem at_34_30 : j_at 34 30 = some (.return_, 0, 0, 0) := by decide +kernel
theorem at_35_0 : j_at 35 0 = some (.aload_n 0, 0, 0, 0) := by decide +kernel
theorem at_35_1 : j_at 35 1 = some (.getfield 42, 4, 9, 0) := by decide +kernel
theorem at_35_4 : j_at 35 4 = some (.aload_n 0, 0, 0, 0) := by decide +kernel
theorem at_35_5 : j_at 35 5 = some (.getfield 67, 4, 8, 0) := by decide +kernel
theorem at_35_8 : j_at 35 8 = some (.iload_n 1, 0, 0, 0) := by decide +kernel
theorem at_35_9 : j_at 35 9 = some (.iastore, 0, 0, 0) := by decide +kernel
theorem at_35_10 : j_at 35 10 = some (.aload_n 0, 0, 0, 0) := by decide +kernel
theorem at_35_11 : j_at 35 11 = some (.getfield 45, 4, 10, 0) := by decide +kernel
theorem at_35_14 : j_at 35 14 = some (.aload_n 0, 0, 0, 0) := by decide +kernel
theorem at_35_15 : j_at 35 15 = some (.getfield 67, 4, 8, 0) := by decide +kernel
theorem at_35_18 : j_at 35 18 = some (.iload_n 2, 0, 0, 0) := by decide +kernel
theorem at_35_19 : j_at 35 19 = some (.iastore, 0, 0, 0) := by decide +kernel
theorem at_35_20 : j_at 35 20 = some (.aload_n 0, 0, 0, 0) := by decide +kernel
theorem at_35_21 : j_at 35 21 = some (.getfield 48, 4, 11, 0) := by decide +kernel
theorem at_35_24 : j_at 35 24 = some (.aload_n 0, 0, 0, 0) := by decide +kernel
theorem at_35_25 : j_at 35 25 = some (.getfield 67, 4, 8, 0) := by decide +kernel
theorem at_35_28 : j_at 35 28 = some (.iload_n 3, 0, 0, 0) := by decide +kernel
theorem at_35_29 : j_at 35 29 = some (.iastore, 0, 0, 0) := by decide +kernel
theorem at_35_30 : j_at 35 30 = some (.aload_n 0, 0, 0, 0) := by decide +kernel
theorem at_35_31 : j_at 35 31 = some (.dup, 0, 0, 0) := by decide +kernel
theorem at_35_32 : j_at 35 32 = some (.getfield 67, 4, 8, 0) := by decide +kernel
theorem at_35_35 : j_at 35 35 = some (.iconst 1, 0, 0, 1) := by decide +kernel
theorem at_35_36 : j_at 35 36 = some (.iadd, 0, 0, 0) := by decide +kernel
theorem at_35_37 : j_at 35 37 = some (.putfield 67, 4, 8, 0) := by decide +kernel
theorem at_35_40 : j_at 35 40 = some (.return_, 0, 0, 0) := by decide +kernel
theorem at_36_0 : j_at 36 0 = some (.iconst 0, 0, 0, 0) := by decide +kernel
theorem at_36_1 : j_at 36 1 = some (.istore_n 2, 0, 0, 0) := by decide +kernel
theorem at_36_2 : j_at 36 2 = some (.iconst 0, 0, 0, 0) := by decide +kernel
theorem at_36_3 : j_at 36 3 = some (.istore_n 3, 0, 0, 0) := by decide +kernel
theorem at_36_4 : j_at 36 4 = some (.iload_n 3, 0, 0, 0) := by decide +kernel
theorem at_36_5 : j_at 36 5 = some (.aload_n 0, 0, 0, 0) := by decide +kernel
theorem at_36_6 : j_at 36 6 = some (.getfield 12, 4, 0, 0) := by decide +kernel
theorem at_36_9 : j_at 36 9 = some (.getfield 83, 1, 1, 0) := by decide +kernel
theorem at_36_12 : j_at 36 12 = some (.if_icmp .ge 28, 40, 0, 0) := by decide +kernel
theorem at_36_15 : j_at 36 15 = some (.iload_n 2, 0, 0, 0) := by decide +kernel
theorem at_36_16 : j_at 36 16 = some (.aload_n 0, 0, 0, 0) := by decide +kernel
theorem at_36_17 : j_at 36 17 = some (.getfield 25, 4, 2, 0) := by decide +kernel
theorem at_36_20 : j_at 36 20 = some (.iload_n 3, 0, 0, 0) := by decide +kernel
theorem at_36_21 : j_at 36 21 = some (.iaload, 0, 0, 0) := by decide +kernel
theorem at_36_22 : j_at 36 22 = some (.aload_n 0, 0, 0, 0) := by decide +kernel
theorem at_36_23 : j_at 36 23 = some (.getfield 12, 4, 0, 0) := by decide +kernel
theorem at_36_26 : j_at 36 26 = some (.iload_n 3, 0, 0, 0) := by decide +kernel
theorem at_36_27 : j_at 36 27 = some (.iload_n 1, 0, 0, 0) := by decide +kernel
theorem at_36_28 : j_at 36 28 = some (.invokevirtual 86, 13, 2, 0) := by decide +kernel
theorem at_36_31 : j_at 36 31 = some (.imul, 0, 0, 0) := by decide +kernel
theorem at_36_32 : j_at 36 32 = some (.iadd, 0, 0, 0) := by decide +kernel
theorem at_36_33 : j_at 36 33 = some (.istore_n 2, 0, 0, 0) := by decide +kernel
theorem at_36_34 : j_at 36 34 = some (.iinc 3 1, 0, 0, 0) := by decide +kernel
theorem at_36_37 : j_at 36 37 = some (.goto (-33), 4, 0, 0) := by decide +kernel
theorem at_36_40 : j_at 36 40 = some (.aload_n 0, 0, 0, 0) := by decide +kernel
theorem at_36_41 : j_at 36 41 = some (.getfield 29, 4, 3, 0) := by decide +kernel
theorem at_36_44 : j_at 36 44 = some (.ifCond .le 15, 59, 0, 0) := by decide +kernel
theorem at_36_47 : j_at 36 47 = some (.iload_n 2, 0, 0, 0) := by decide +kernel
theorem at_36_48 : j_at 36 48 = some (.aload_n 0, 0, 0, 0) := by decide +kernel
theorem at_36_49 : j_at 36 49 = some (.getfield 29, 4, 3, 0) := by decide +kernel
theorem at_36_52 : j_at 36 52 = some (.invokestatic 90, 263, 2, 0) := by decide +kernel
theorem at_36_55 : j_at 36 55 = some (.i2l, 0, 0, 0) := by decide +kernel
theorem at_36_56 : j_at 36 56 = some (.goto 6, 62, 0, 0) := by decide +kernel
theorem at_36_59 : j_at 36 59 = some (.ldc2_w 95, 0, 0, -9223372036854775808) := by decide +kernel
theorem at_36_62 : j_at 36 62 = some (.lreturn, 0, 0, 0) := by decide +kernel
theorem at_38_0 : j_at 38 0 = some (.aload_n 0, 0, 0, 0) := by decide +kernel
theorem at_38_1 : j_at 38 1 = some (.iconst 0, 0, 0, 0) := by decide +kernel
theorem at_38_2 : j_at 38 2 = some (.putfield 45, 5, 0, 0) := by decide +kernel
theorem at_38_5 : j_at 38 5 = some (.aload_n 0, 0, 0, 0) := by decide +kernel
theorem at_38_6 : j_at 38 6 = some (.aload_n 1, 0, 0, 0) := by decide +kernel
theorem at_38_7 : j_at 38 7 = some (.getfield 48, 1, 0, 0) := by decide +kernel
theorem at_38_10 : j_at 38 10 = some (.putfield 9, 5, 1, 0) := by decide +kernel
theorem at_38_13 : j_at 38 13 = some (.aload_n 0, 0, 0, 0) := by decide +kernel
theorem at_38_14 : j_at 38 14 = some (.iconst 0, 0, 0, 0) := by decide +kernel
theorem at_38_15 : j_at 38 15 = some (.putfield 53, 5, 2, 0) := by decide +kernel
theorem at_38_18 : j_at 38 18 = some (.aload_n 0, 0, 0, 0) := by decide +kernel
theorem at_38_19 : j_at 38 19 = some (.lconst 0, 0, 0, 0) := by decide +kernel
theorem at_38_20 : j_at 38 20 = some (.putfield 56, 5, 3, 0) := by decide +kernel
theorem at_38_23 : j_at 38 23 = some (.aload_n 0, 0, 0, 0) := by decide +kernel
theorem at_38_24 : j_at 38 24 = some (.lconst 1, 0, 0, 1) := by decide +kernel
theorem at_38_25 : j_at 38 25 = some (.putfield 15, 5, 4, 0) := by decide +kernel
theorem at_38_28 : j_at 38 28 = some (.iconst 0, 0, 0, 0) := by decide +kernel
theorem at_38_29 : j_at 38 29 = some (.istore_n 2, 0, 0, 0) := by decide +kernel
theorem at_38_30 : j_at 38 30 = some (.iload_n 2, 0, 0, 0) := by decide +kernel
theorem at_38_31 : j_at 38 31 = some (.aload_n 0, 0, 0, 0) := by decide +kernel
theorem at_38_32 : j_at 38 32 = some (.getfield 9, 5, 1, 0) := by decide +kernel
theorem at_38_35 : j_at 38 35 = some (.if_icmp .ge 29, 64, 0, 0) := by decide +kernel
theorem at_38_38 : j_at 38 38 = some (.aload_n 0, 0, 0, 0) := by decide +kernel
theorem at_38_39 : j_at 38 39 = some (.getfield 23, 5, 6, 0) := by decide +kernel
theorem at_38_42 : j_at 38 42 = some (.iload_n 2, 0, 0, 0) := by decide +kernel
theorem at_38_43 : j_at 38 43 = some (.iload_n 2, 0, 0, 0) := by decide +kernel
theorem at_38_44 : j_at 38 44 = some (.iastore, 0, 0, 0) := by decide +kernel
theorem at_38_45 : j_at 38 45 = some (.aload_n 0, 0, 0, 0) := by decide +kernel
theorem at_38_46 : j_at 38 46 = some (.getfield 33, 5, 9, 0) := by decide +kernel
theorem at_38_49 : j_at 38 49 = some (.iload_n 2, 0, 0, 0) := by decide +kernel
theorem at_38_50 : j_at 38 50 = some (.aload_n 1, 0, 0, 0) := by decide +kernel
theorem at_38_51 : j_at 38 51 = some (.getfield 59, 1, 2, 0) := by decide +kernel
theorem at_38_54 : j_at 38 54 = some (.iload_n 2, 0, 0, 0) := by decide +kernel
theorem at_38_55 : j_at 38 55 = some (.iaload, 0, 0, 0) := by decide +kernel
theorem at_38_56 : j_at 38 56 = some (.i2l, 0, 0, 0) := by decide +kernel
theorem at_38_57 : j_at 38 57 = some (.lastore, 0, 0, 0) := by decide +kernel
theorem at_38_58 : j_at 38 58 = some (.iinc 2 1, 0, 0, 0) := by decide +kernel
theorem at_38_61 : j_at 38 61 = some (.goto (-31), 30, 0, 0) := by decide +kernel
theorem at_38_64 : j_at 38 64 = some (.iconst 0, 0, 0, 0) := by decide +kernel
theorem at_38_65 : j_at 38 65 = some (.istore_n 2, 0, 0, 0) := by decide +kernel
theorem at_38_66 : j_at 38 66 = some (.iload_n 2, 0, 0, 0) := by decide +kernel
theorem at_38_67 : j_at 38 67 = some (.aload_n 1, 0, 0, 0) := by decide +kernel
theorem at_38_68 : j_at 38 68 = some (.getfield 62, 1, 1, 0) := by decide +kernel
theorem at_38_71 : j_at 38 71 = some (.if_icmp .ge 65, 136, 0, 0) := by decide +kernel
theorem at_38_74 : j_at 38 74 = some (.aload_n 0, 0, 0, 0) := by decide +kernel
theorem at_38_75 : j_at 38 75 = some (.bipush 10, 0, 0, 10) := by decide +kernel
theorem at_38_77 : j_at 38 77 = some (.iload_n 2, 0, 0, 0) := by decide +kernel
theorem at_38_78 : j_at 38 78 = some (.iadd, 0, 0, 0) := by decide +kernel
theorem at_38_79 : j_at 38 79 = some (.aload_n 1, 0, 0, 0) := by decide +kernel
theorem at_38_80 : j_at 38 80 = some (.iload_n 2, 0, 0, 0) := by decide +kernel
theorem at_38_81 : j_at 38 81 = some (.aload_n 0, 0, 0, 0) := by decide +kernel
theorem at_38_82 : j_at 38 82 = some (.getfield 9, 5, 1, 0) := by decide +kernel
theorem at_38_85 : j_at 38 85 = some (.invokevirtual 65, 13, 2, 0) := by decide +kernel
theorem at_38_88 : j_at 38 88 = some (.i2l, 0, 0, 0) := by decide +kernel
theorem at_38_89 : j_at 38 89 = some (.invokevirtual 69, 39, 2, 0) := by decide +kernel
theorem at_38_92 : j_at 38 92 = some (.istore_n 3, 0, 0, 0) := by decide +kernel
theorem at_38_93 : j_at 38 93 = some (.iconst 0, 0, 0, 0) := by decide +kernel
theorem at_38_94 : j_at 38 94 = some (.istore 4, 0, 0, 0) := by decide +kernel
theorem at_38_96 : j_at 38 96 = some (.iload 4, 0, 0, 0) := by decide +kernel
theorem at_38_98 : j_at 38 98 = some (.aload_n 0, 0, 0, 0) := by decide +kernel
theorem at_38_99 : j_at 38 99 = some (.getfield 9, 5, 1, 0) := by decide +kernel
theorem at_38_102 : j_at 38 102 = some (.if_icmp .ge 28, 130, 0, 0) := by decide +kernel
theorem at_38_105 : j_at 38 105 = some (.aload_n 0, 0, 0, 0) := by decide +kernel
theorem at_38_106 : j_at 38 106 = some (.getfield 26, 5, 7, 0) := by decide +kernel
theorem at_38_109 : j_at 38 109 = some (.iload_n 3, 0, 0, 0) := by decide +kernel
theorem at_38_110 : j_at 38 110 = some (.iconst 5, 0, 0, 5) := by decide +kernel
theorem at_38_111 : j_at 38 111 = some (.imul, 0, 0, 0) := by decide +kernel
theorem at_38_112 : j_at 38 112 = some (.iload 4, 0, 0, 0) := by decide +kernel
theorem at_38_114 : j_at 38 114 = some (.iadd, 0, 0, 0) := by decide +kernel
theorem at_38_115 : j_at 38 115 = some (.aload_n 1, 0, 0, 0) := by decide +kernel
theorem at_38_116 : j_at 38 116 = some (.iload_n 2, 0, 0, 0) := by decide +kernel
theorem at_38_117 : j_at 38 117 = some (.iload 4, 0, 0, 0) := by decide +kernel
theorem at_38_119 : j_at 38 119 = some (.invokevirtual 65, 13, 2, 0) := by decide +kernel
theorem at_38_122 : j_at 38 122 = some (.i2l, 0, 0, 0) := by decide +kernel
theorem at_38_123 : j_at 38 123 = some (.lastore, 0, 0, 0) := by decide +kernel
theorem at_38_124 : j_at 38 124 = some (.iinc 4 1, 0, 0, 0) := by decide +kernel
theorem at_38_127 : j_at 38 127 = some (.goto (-31), 96, 0, 0) := by decide +kernel
theorem at_38_130 : j_at 38 130 = some (.iinc 2 1, 0, 0, 0) := by decide +kernel
theorem at_38_133 : j_at 38 133 = some (.goto (-67), 66, 0, 0) := by decide +kernel
theorem at_38_136 : j_at 38 136 = some (.return_, 0, 0, 0) := by decide +kernel
theorem at_39_0 : j_at 39 0 = some (.aload_n 0, 0, 0, 0) := by decide +kernel
theorem at_39_1 : j_at 39 1 = some (.getfield 45, 5, 0, 0) := by decide +kernel
theorem at_39_4 : j_at 39 4 = some (.istore 4, 0, 0, 0) := by decide +kernel
theorem at_39_6 : j_at 39 6 = some (.aload_n 0, 0, 0, 0) := by decide +kernel
theorem at_39_7 : j_at 39 7 = some (.getfield 19, 5, 5, 0) := by decide +kernel
theorem at_39_10 : j_at 39 10 = some (.iload 4, 0, 0, 0) := by decide +kernel
theorem at_39_12 : j_at 39 12 = some (.iload_n 1, 0, 0, 0) := by decide +kernel
theorem at_39_13 : j_at 39 13 = some (.iastore, 0, 0, 0) := by decide +kernel
theorem at_39_14 : j_at 39 14 = some (.aload_n 0, 0, 0, 0) := by decide +kernel
theorem at_39_15 : j_at 39 15 = some (.getfield 30, 5, 8, 0) := by decide +kernel
theorem at_39_18 : j_at 39 18 = some (.iload 4, 0, 0, 0) := by decide +kernel
theorem at_39_20 : j_at 39 20 = some (.lload_n 2, 0, 0, 0) := by decide +kernel
theorem at_39_21 : j_at 39 21 = some (.lastore, 0, 0, 0) := by decide +kernel
theorem at_39_22 : j_at 39 22 = some (.iconst 0, 0, 0, 0) := by decide +kernel
theorem at_39_23 : j_at 39 23 = some (.istore 5, 0, 0, 0) := by decide +kernel
theorem at_39_25 : j_at 39 25 = some (.iload 5, 0, 0, 0) := by decide +kernel
theorem at_39_27 : j_at 39 27 = some (.iconst 5, 0, 0, 5) := by decide +kernel
theorem at_39_28 : j_at 39 28 = some (.if_icmp .ge 22, 50, 0, 0) := by decide +kernel
theorem at_39_31 : j_at 39 31 = some (.aload_n 0, 0, 0, 0) := by decide +kernel
theorem at_39_32 : j_at 39 32 = some (.getfield 26, 5, 7, 0) := by decide +kernel
theorem at_39_35 : j_at 39 35 = some (.iload 4, 0, 0, 0) := by decide +kernel
theorem at_39_37 : j_at 39 37 = some (.iconst 5, 0, 0, 5) := by decide +kernel
theorem at_39_38 : j_at 39 38 = some (.imul, 0, 0, 0) := by decide +kernel
theorem at_39_39 : j_at 39 39 = some (.iload 5, 0, 0, 0) := by decide +kernel
theorem at_39_41 : j_at 39 41 = some (.iadd, 0, 0, 0) := by decide +kernel
theorem at_39_42 : j_at 39 42 = some (.lconst 0, 0, 0, 0) := by decide +kernel
theorem at_39_43 : j_at 39 43 = some (.lastore, 0, 0, 0) := by decide +kernel
theorem at_39_44 : j_at 39 44 = some (.iinc 5 1, 0, 0, 0) := by decide +kernel
theorem at_39_47 : j_at 39 47 = some (.goto (-22), 25, 0, 0) := by decide +kernel
theorem at_39_50 : j_at 39 50 = some (.aload_n 0, 0, 0, 0) := by decide +kernel
theorem at_39_51 : j_at 39 51 = some (.dup, 0, 0, 0) := by decide +kernel
theorem at_39_52 : j_at 39 52 = some (.getfield 45, 5, 0, 0) := by decide +kernel
theorem at_39_55 : j_at 39 55 = some (.iconst 1, 0, 0, 1) := by decide +kernel
theorem at_39_56 : j_at 39 56 = some (.iadd, 0, 0, 0) := by decide +kernel
theorem at_39_57 : j_at 39 57 = some (.putfield 45, 5, 0, 0) := by decide +kernel
theorem at_39_60 : j_at 39 60 = some (.iload 4, 0, 0, 0) := by decide +kernel
theorem at_39_62 : j_at 39 62 = some (.ireturn, 0, 0, 0) := by decide +kernel
theorem at_40_0 : j_at 40 0 = some (.aload_n 0, 0, 0, 0) := by decide +kernel
theorem at_40_1 : j_at 40 1 = some (.bipush 40, 0, 0, 40) := by decide +kernel
theorem at_40_3 : j_at 40 3 = some (.iload_n 1, 0, 0, 0) := by decide +kernel
theorem at_40_4 : j_at 40 4 = some (.iadd, 0, 0, 0) := by decide +kernel
theorem at_40_5 : j_at 40 5 = some (.lload_n 2, 0, 0, 0) := by decide +kernel
theorem at_40_6 : j_at 40 6 = some (.lneg, 0, 0, 0) := by decide +kernel
theorem at_40_7 : j_at 40 7 = some (.invokevirtual 69, 39, 2, 0) := by decide +kernel
theorem at_40_10 : j_at 40 10 = some (.istore 4, 0, 0, 0) := by decide +kernel
theorem at_40_12 : j_at 40 12 = some (.aload_n 0, 0, 0, 0) := by decide +kernel
theorem at_40_13 : j_at 40 13 = some (.getfield 26, 5, 7, 0) := by decide +kernel
theorem at_40_16 : j_at 40 16 = some (.iload 4, 0, 0, 0) := by decide +kernel
theorem at_40_18 : j_at 40 18 = some (.iconst 5, 0, 0, 5) := by decide +kernel
theorem at_40_19 : j_at 40 19 = some (.imul, 0, 0, 0) := by decide +kernel
theorem at_40_20 : j_at 40 20 = some (.iload_n 1, 0, 0, 0) := by decide +kernel
theorem at_40_21 : j_at 40 21 = some (.iadd, 0, 0, 0) := by decide +kernel
theorem at_40_22 : j_at 40 22 = some (.ldc2_w 73, 0, 0, -1) := by decide +kernel
theorem at_40_25 : j_at 40 25 = some (.lastore, 0, 0, 0) := by decide +kernel
theorem at_40_26 : j_at 40 26 = some (.return_, 0, 0, 0) := by decide +kernel
theorem at_41_0 : j_at 41 0 = some (.aload_n 0, 0, 0, 0) := by decide +kernel
theorem at_41_1 : j_at 41 1 = some (.bipush 50, 0, 0, 50) := by decide +kernel
theorem at_41_3 : j_at 41 3 = some (.iload_n 1, 0, 0, 0) := by decide +kernel
theorem at_41_4 : j_at 41 4 = some (.iadd, 0, 0, 0) := by decide +kernel
theorem at_41_5 : j_at 41 5 = some (.lload_n 2, 0, 0, 0) := by decide +kernel
theorem at_41_6 : j_at 41 6 = some (.invokevirtual 69, 39, 2, 0) := by decide +kernel
theorem at_41_9 : j_at 41 9 = some (.istore 4, 0, 0, 0) := by decide +kernel
theorem at_41_11 : j_at 41 11 = some (.aload_n 0, 0, 0, 0) := by decide +kernel
theorem at_41_12 : j_at 41 12 = some (.getfield 26, 5, 7, 0) := by decide +kernel
theorem at_41_15 : j_at 41 15 = some (.iload 4, 0, 0, 0) := by decide +kernel
theorem at_41_17 : j_at 41 17 = some (.iconst 5, 0, 0, 5) := by decide +kernel
theorem at_41_18 : j_at 41 18 = some (.imul, 0, 0, 0) := by decide +kernel
theorem at_41_19 : j_at 41 19 = some (.iload_n 1, 0, 0, 0) := by decide +kernel
theorem at_41_20 : j_at 41 20 = some (.iadd, 0, 0, 0) := by decide +kernel
theorem at_41_21 : j_at 41 21 = some (.lconst 1, 0, 0, 1) := by decide +kernel
theorem at_41_22 : j_at 41 22 = some (.lastore, 0, 0, 0) := by decide +kernel
theorem at_41_23 : j_at 41 23 = some (.return_, 0, 0, 0) := by decide +kernel
theorem at_42_0 : j_at 42 0 = some (.aload_n 0, 0, 0, 0) := by decide +kernel
theorem at_42_1 : j_at 42 1 = some (.iload_n 1, 0, 0, 0) := by decide +kernel
theorem at_42_2 : j_at 42 2 = some (.aload_n 0, 0, 0, 0) := by decide +kernel
theorem at_42_3 : j_at 42 3 = some (.aload_n 0, 0, 0, 0) := by decide +kernel
theorem at_42_4 : j_at 42 4 = some (.getfield 30, 5, 8, 0) := by decide +kernel
theorem at_42_7 : j_at 42 7 = some (.iload_n 2, 0, 0, 0) := by decide +kernel
theorem at_42_8 : j_at 42 8 = some (.laload, 0, 0, 0) := by decide +kernel
theorem at_42_9 : j_at 42 9 = some (.invokevirtual 75, 43, 1, 0) := by decide +kernel
theorem at_42_12 : j_at 42 12 = some (.lneg, 0, 0, 0) := by decide +kernel
theorem at_42_13 : j_at 42 13 = some (.invokevirtual 69, 39, 2, 0) := by decide +kernel
theorem at_42_16 : j_at 42 16 = some (.istore_n 3, 0, 0, 0) := by decide +kernel
theorem at_42_17 : j_at 42 17 = some (.iconst 0, 0, 0, 0) := by decide +kernel
theorem at_42_18 : j_at 42 18 = some (.istore 4, 0, 0, 0) := by decide +kernel
theorem at_42_20 : j_at 42 20 = some (.iload 4, 0, 0, 0) := by decide +kernel
theorem at_42_22 : j_at 42 22 = some (.aload_n 0, 0, 0, 0) := by decide +kernel
theorem at_42_23 : j_at 42 23 = some (.getfield 9, 5, 1, 0) := by decide +kernel
theorem at_42_26 : j_at 42 26 = some (.if_icmp .ge 36, 62, 0, 0) := by decide +kernel
theorem at_42_29 : j_at 42 29 = some (.aload_n 0, 0, 0, 0) := by decide +kernel
theorem at_42_30 : j_at 42 30 = some (.getfield 26, 5, 7, 0) := by decide +kernel
theorem at_42_33 : j_at 42 33 = some (.iload_n 3, 0, 0, 0) := by decide +kernel
theorem at_42_34 : j_at 42 34 = some (.iconst 5, 0, 0, 5) := by decide +kernel
theorem at_42_35 : j_at 42 35 = some (.imul, 0, 0, 0) := by decide +kernel
theorem at_42_36 : j_at 42 36 = some (.iload 4, 0, 0, 0) := by decide +kernel
theorem at_42_38 : j_at 42 38 = some (.iadd, 0, 0, 0) := by decide +kernel
theorem at_42_39 : j_at 42 39 = some (.aload_n 0, 0, 0, 0) := by decide +kernel
theorem at_42_40 : j_at 42 40 = some (.aload_n 0, 0, 0, 0) := by decide +kernel
theorem at_42_41 : j_at 42 41 = some (.getfield 26, 5, 7, 0) := by decide +kernel
theorem at_42_44 : j_at 42 44 = some (.iload_n 2, 0, 0, 0) := by decide +kernel
theorem at_42_45 : j_at 42 45 = some (.iconst 5, 0, 0, 5) := by decide +kernel
theorem at_42_46 : j_at 42 46 = some (.imul, 0, 0, 0) := by decide +kernel
theorem at_42_47 : j_at 42 47 = some (.iload 4, 0, 0, 0) := by decide +kernel
theorem at_42_49 : j_at 42 49 = some (.iadd, 0, 0, 0) := by decide +kernel
theorem at_42_50 : j_at 42 50 = some (.laload, 0, 0, 0) := by decide +kernel
theorem at_42_51 : j_at 42 51 = some (.invokevirtual 75, 43, 1, 0) := by decide +kernel
theorem at_42_54 : j_at 42 54 = some (.lneg, 0, 0, 0) := by decide +kernel
theorem at_42_55 : j_at 42 55 = some (.lastore, 0, 0, 0) := by decide +kernel
theorem at_42_56 : j_at 42 56 = some (.iinc 4 1, 0, 0, 0) := by decide +kernel
theorem at_42_59 : j_at 42 59 = some (.goto (-39), 20, 0, 0) := by decide +kernel
theorem at_42_62 : j_at 42 62 = some (.return_, 0, 0, 0) := by decide +kernel
theorem at_43_0 : j_at 43 0 = some (.aload_n 0, 0, 0, 0) := by decide +kernel
theorem at_43_1 : j_at 43 1 = some (.getfield 15, 5, 4, 0) := by decide +kernel
theorem at_43_4 : j_at 43 4 = some (.lconst 0, 0, 0, 0) := by decide +kernel
theorem at_43_5 : j_at 43 5 = some (.lcmp, 0, 0, 0) := by decide +kernel
theorem at_43_6 : j_at 43 6 = some (.ifCond .le 14, 20, 0, 0) := by decide +kernel
theorem at_43_9 : j_at 43 9 = some (.lload_n 1, 0, 0, 0) := by decide +kernel
theorem at_43_10 : j_at 43 10 = some (.aload_n 0, 0, 0, 0) := by decide +kernel
theorem at_43_11 : j_at 43 11 = some (.getfield 15, 5, 4, 0) := by decide +kernel
theorem at_43_14 : j_at 43 14 = some (.invokestatic 79, 266, 2, 0) := by decide +kernel
theorem at_43_17 : j_at 43 17 = some (.goto 4, 21, 0, 0) := by decide +kernel
theorem at_43_20 : j_at 43 20 = some (.lconst 0, 0, 0, 0) := by decide +kernel
theorem at_43_21 : j_at 43 21 = some (.lreturn, 0, 0, 0) := by decide +kernel
theorem at_44_0 : j_at 44 0 = some (.aload_n 0, 0, 0, 0) := by decide +kernel
theorem at_44_1 : j_at 44 1 = some (.getfield 15, 5, 4, 0) := by decide +kernel
theorem at_44_4 : j_at 44 4 = some (.lconst 0, 0, 0, 0) := by decide +kernel
theorem at_44_5 : j_at 44 5 = some (.lcmp, 0, 0, 0) := by decide +kernel
theorem at_44_6 : j_at 44 6 = some (.ifCond .le 14, 20, 0, 0) := by decide +kernel
theorem at_44_9 : j_at 44 9 = some (.lload_n 1, 0, 0, 0) := by decide +kernel
theorem at_44_10 : j_at 44 10 = some (.aload_n 0, 0, 0, 0) := by decide +kernel
theorem at_44_11 : j_at 44 11 = some (.getfield 15, 5, 4, 0) := by decide +kernel
theorem at_44_14 : j_at 44 14 = some (.invokestatic 85, 265, 2, 0) := by decide +kernel
theorem at_44_17 : j_at 44 17 = some (.goto 4, 21, 0, 0) := by decide +kernel
theorem at_44_20 : j_at 44 20 = some (.lconst 0, 0, 0, 0) := by decide +kernel
theorem at_44_21 : j_at 44 21 = some (.lreturn, 0, 0, 0) := by decide +kernel
theorem at_45_0 : j_at 45 0 = some (.iconst 0, 0, 0, 0) := by decide +kernel
theorem at_45_1 : j_at 45 1 = some (.istore_n 1, 0, 0, 0) := by decide +kernel
theorem at_45_2 : j_at 45 2 = some (.iload_n 1, 0, 0, 0) := by decide +kernel
theorem at_45_3 : j_at 45 3 = some (.bipush 60, 0, 0, 60) := by decide +kernel
theorem at_45_5 : j_at 45 5 = some (.if_icmp .gt 53, 58, 0, 0) := by decide +kernel
theorem at_45_8 : j_at 45 8 = some (.aload_n 0, 0, 0, 0) := by decide +kernel
theorem at_45_9 : j_at 45 9 = some (.invokevirtual 88, 46, 0, 0) := by decide +kernel
theorem at_45_12 : j_at 45 12 = some (.istore_n 2, 0, 0, 0) := by decide +kernel
theorem at_45_13 : j_at 45 13 = some (.iload_n 2, 0, 0, 0) := by decide +kernel
theorem at_45_14 : j_at 45 14 = some (.ifCond .ge 5, 19, 0, 0) := by decide +kernel
theorem at_45_17 : j_at 45 17 = some (.iconst 3, 0, 0, 3) := by decide +kernel
theorem at_45_18 : j_at 45 18 = some (.ireturn, 0, 0, 0) := by decide +kernel
theorem at_45_19 : j_at 45 19 = some (.aload_n 0, 0, 0, 0) := by decide +kernel
theorem at_45_20 : j_at 45 20 = some (.iload_n 2, 0, 0, 0) := by decide +kernel
theorem at_45_21 : j_at 45 21 = some (.invokevirtual 92, 47, 1, 0) := by decide +kernel
theorem at_45_24 : j_at 45 24 = some (.istore_n 3, 0, 0, 0) := by decide +kernel
theorem at_45_25 : j_at 45 25 = some (.iload_n 3, 0, 0, 0) := by decide +kernel
theorem at_45_26 : j_at 45 26 = some (.ifCond .ge 5, 31, 0, 0) := by decide +kernel
theorem at_45_29 : j_at 45 29 = some (.iconst 0, 0, 0, 0) := by decide +kernel
theorem at_45_30 : j_at 45 30 = some (.ireturn, 0, 0, 0) := by decide +kernel
theorem at_45_31 : j_at 45 31 = some (.aload_n 0, 0, 0, 0) := by decide +kernel
theorem at_45_32 : j_at 45 32 = some (.getfield 53, 5, 2, 0) := by decide +kernel
theorem at_45_35 : j_at 45 35 = some (.bipush 60, 0, 0, 60) := by decide +kernel
theorem at_45_37 : j_at 45 37 = some (.if_icmp .ge 12, 49, 0, 0) := by decide +kernel
theorem at_45_40 : j_at 45 40 = some (.aload_n 0, 0, 0, 0) := by decide +kernel
theorem at_45_41 : j_at 45 41 = some (.iload_n 2, 0, 0, 0) := by decide +kernel
theorem at_45_42 : j_at 45 42 = some (.iload_n 3, 0, 0, 0) := by decide +kernel
theorem at_45_43 : j_at 45 43 = some (.invokevirtual 96, 49, 2, 0) := by decide +kernel
theorem at_45_46 : j_at 45 46 = some (.ifCond .ne 6, 52, 0, 0) := by decide +kernel
theorem at_45_49 : j_at 45 49 = some (.bipush (-6), 0, 0, -6) := by decide +kernel
theorem at_45_51 : j_at 45 51 = some (.ireturn, 0, 0, 0) := by decide +kernel
theorem at_45_52 : j_at 45 52 = some (.iinc 1 1, 0, 0, 0) := by decide +kernel
theorem at_45_55 : j_at 45 55 = some (.goto (-53), 2, 0, 0) := by decide +kernel
theorem at_45_58 : j_at 45 58 = some (.bipush (-6), 0, 0, -6) := by decide +kernel
theorem at_45_60 : j_at 45 60 = some (.ireturn, 0, 0, 0) := by decide +kernel
theorem at_46_0 : j_at 46 0 = some (.iconst (-1), 0, 0, -1) := by decide +kernel
theorem at_46_1 : j_at 46 1 = some (.istore_n 1, 0, 0, 0) := by decide +kernel
theorem at_46_2 : j_at 46 2 = some (.iconst 0, 0, 0, 0) := by decide +kernel
theorem at_46_3 : j_at 46 3 = some (.istore_n 2, 0, 0, 0) := by decide +kernel
theorem at_46_4 : j_at 46 4 = some (.iload_n 2, 0, 0, 0) := by decide +kernel
theorem at_46_5 : j_at 46 5 = some (.aload_n 0, 0, 0, 0) := by decide +kernel
theorem at_46_6 : j_at 46 6 = some (.getfield 45, 5, 0, 0) := by decide +kernel
theorem at_46_9 : j_at 46 9 = some (.if_icmp .ge 42, 51, 0, 0) := by decide +kernel
theorem at_46_12 : j_at 46 12 = some (.aload_n 0, 0, 0, 0) := by decide +kernel
theorem at_46_13 : j_at 46 13 = some (.getfield 30, 5, 8, 0) := by decide +kernel
theorem at_46_16 : j_at 46 16 = some (.iload_n 2, 0, 0, 0) := by decide +kernel
theorem at_46_17 : j_at 46 17 = some (.laload, 0, 0, 0) := by decide +kernel
theorem at_46_18 : j_at 46 18 = some (.lconst 0, 0, 0, 0) := by decide +kernel
theorem at_46_19 : j_at 46 19 = some (.lcmp, 0, 0, 0) := by decide +kernel
theorem at_46_20 : j_at 46 20 = some (.ifCond .ge 25, 45, 0, 0) := by decide +kernel
theorem at_46_23 : j_at 46 23 = some (.iload_n 1, 0, 0, 0) := by decide +kernel
theorem at_46_24 : j_at 46 24 = some (.ifCond .lt 19, 43, 0, 0) := by decide +kernel
theorem at_46_27 : j_at 46 27 = some (.aload_n 0, 0, 0, 0) := by decide +kernel
theorem at_46_28 : j_at 46 28 = some (.getfield 30, 5, 8, 0) := by decide +kernel
theorem at_46_31 : j_at 46 31 = some (.iload_n 2, 0, 0, 0) := by decide +kernel
theorem at_46_32 : j_at 46 32 = some (.laload, 0, 0, 0) := by decide +kernel
theorem at_46_33 : j_at 46 33 = some (.aload_n 0, 0, 0, 0) := by decide +kernel
theorem at_46_34 : j_at 46 34 = some (.getfield 30, 5, 8, 0) := by decide +kernel
theorem at_46_37 : j_at 46 37 = some (.iload_n 1, 0, 0, 0) := by decide +kernel
theorem at_46_38 : j_at 46 38 = some (.laload, 0, 0, 0) := by decide +kernel
theorem at_46_39 : j_at 46 39 = some (.lcmp, 0, 0, 0) := by decide +kernel
theorem at_46_40 : j_at 46 40 = some (.ifCond .ge 5, 45, 0, 0) := by decide +kernel
theorem at_46_43 : j_at 46 43 = some (.iload_n 2, 0, 0, 0) := by decide +kernel
theorem at_46_44 : j_at 46 44 = some (.istore_n 1, 0, 0, 0) := by decide +kernel
theorem at_46_45 : j_at 46 45 = some (.iinc 2 1, 0, 0, 0) := by decide +kernel
theorem at_46_48 : j_at 46 48 = some (.goto (-44), 4, 0, 0) := by decide +kernel
theorem at_46_51 : j_at 46 51 = some (.iload_n 1, 0, 0, 0) := by decide +kernel
theorem at_46_52 : j_at 46 52 = some (.ireturn, 0, 0, 0) := by decide +kernel
theorem at_47_0 : j_at 47 0 = some (.iconst (-1), 0, 0, -1) := by decide +kernel
theorem at_47_1 : j_at 47 1 = some (.istore_n 2, 0, 0, 0) := by decide +kernel
theorem at_47_2 : j_at 47 2 = some (.iconst 0, 0, 0, 0) := by decide +kernel
theorem at_47_3 : j_at 47 3 = some (.istore_n 3, 0, 0, 0) := by decide +kernel
theorem at_47_4 : j_at 47 4 = some (.iload_n 3, 0, 0, 0) := by decide +kernel
theorem at_47_5 : j_at 47 5 = some (.aload_n 0, 0, 0, 0) := by decide +kernel
theorem at_47_6 : j_at 47 6 = some (.getfield 9, 5, 1, 0) := by decide +kernel
theorem at_47_9 : j_at 47 9 = some (.if_icmp .ge 43, 52, 0, 0) := by decide +kernel
theorem at_47_12 : j_at 47 12 = some (.aload_n 0, 0, 0, 0) := by decide +kernel
theorem at_47_13 : j_at 47 13 = some (.getfield 26, 5, 7, 0) := by decide +kernel
theorem at_47_16 : j_at 47 16 = some (.iload_n 1, 0, 0, 0) := by decide +kernel
theorem at_47_17 : j_at 47 17 = some (.iconst 5, 0, 0, 5) := by decide +kernel
theorem at_47_18 : j_at 47 18 = some (.imul, 0, 0, 0) := by decide +kernel
theorem at_47_19 : j_at 47 19 = some (.iload_n 3, 0, 0, 0) := by decide +kernel
theorem at_47_20 : j_at 47 20 = some (.iadd, 0, 0, 0) := by decide +kernel
theorem at_47_21 : j_at 47 21 = some (.laload, 0, 0, 0) := by decide +kernel
theorem at_47_22 : j_at 47 22 = some (.lconst 0, 0, 0, 0) := by decide +kernel
theorem at_47_23 : j_at 47 23 = some (.lcmp, 0, 0, 0) := by decide +kernel
theorem at_47_24 : j_at 47 24 = some (.ifCond .lt 6, 30, 0, 0) := by decide +kernel
theorem at_47_27 : j_at 47 27 = some (.goto 19, 46, 0, 0) := by decide +kernel
theorem at_47_30 : j_at 47 30 = some (.iload_n 2, 0, 0, 0) := by decide +kernel
theorem at_47_31 : j_at 47 31 = some (.ifCond .lt 13, 44, 0, 0) := by decide +kernel
theorem at_47_34 : j_at 47 34 = some (.aload_n 0, 0, 0, 0) := by decide +kernel
theorem at_47_35 : j_at 47 35 = some (.iload_n 1, 0, 0, 0) := by decide +kernel
theorem at_47_36 : j_at 47 36 = some (.iload_n 3, 0, 0, 0) := by decide +kernel
theorem at_47_37 : j_at 47 37 = some (.iload_n 2, 0, 0, 0) := by decide +kernel
theorem at_47_38 : j_at 47 38 = some (.invokevirtual 100, 48, 3, 0) := by decide +kernel
theorem at_47_41 : j_at 47 41 = some (.ifCond .eq 5, 46, 0, 0) := by decide +kernel
theorem at_47_44 : j_at 47 44 = some (.iload_n 3, 0, 0, 0) := by decide +kernel
theorem at_47_45 : j_at 47 45 = some (.istore_n 2, 0, 0, 0) := by decide +kernel
theorem at_47_46 : j_at 47 46 = some (.iinc 3 1, 0, 0, 0) := by decide +kernel
theorem at_47_49 : j_at 47 49 = some (.goto (-45), 4, 0, 0) := by decide +kernel
theorem at_47_52 : j_at 47 52 = some (.iload_n 2, 0, 0, 0) := by decide +kernel
theorem at_47_53 : j_at 47 53 = some (.ireturn, 0, 0, 0) := by decide +kernel
theorem at_48_0 : j_at 48 0 = some (.aload_n 0, 0, 0, 0) := by decide +kernel
theorem at_48_1 : j_at 48 1 = some (.getfield 33, 5, 9, 0) := by decide +kernel
theorem at_48_4 : j_at 48 4 = some (.iload_n 2, 0, 0, 0) := by decide +kernel
theorem at_48_5 : j_at 48 5 = some (.laload, 0, 0, 0) := by decide +kernel
theorem at_48_6 : j_at 48 6 = some (.aload_n 0, 0, 0, 0) := by decide +kernel
theorem at_48_7 : j_at 48 7 = some (.getfield 26, 5, 7, 0) := by decide +kernel
theorem at_48_10 : j_at 48 10 = some (.iload_n 1, 0, 0, 0) := by decide +kernel
theorem at_48_11 : j_at 48 11 = some (.iconst 5, 0, 0, 5) := by decide +kernel
theorem at_48_12 : j_at 48 12 = some (.imul, 0, 0, 0) := by decide +kernel
theorem at_48_13 : j_at 48 13 = some (.iload_n 3, 0, 0, 0) := by decide +kernel
theorem at_48_14 : j_at 48 14 = some (.iadd, 0, 0, 0) := by decide +kernel
theorem at_48_15 : j_at 48 15 = some (.laload, 0, 0, 0) := by decide +kernel
theorem at_48_16 : j_at 48 16 = some (.lneg, 0, 0, 0) := by decide +kernel
theorem at_48_17 : j_at 48 17 = some (.lmul, 0, 0, 0) := by decide +kernel
theorem at_48_18 : j_at 48 18 = some (.lstore 4, 0, 0, 0) := by decide +kernel
theorem at_48_20 : j_at 48 20 = some (.aload_n 0, 0, 0, 0) := by decide +kernel
theorem at_48_21 : j_at 48 21 = some (.getfield 33, 5, 9, 0) := by decide +kernel
theorem at_48_24 : j_at 48 24 = some (.iload_n 3, 0, 0, 0) := by decide +kernel
theorem at_48_25 : j_at 48 25 = some (.laload, 0, 0, 0) := by decide +kernel
theorem at_48_26 : j_at 48 26 = some (.aload_n 0, 0, 0, 0) := by decide +kernel
theorem at_48_27 : j_at 48 27 = some (.getfield 26, 5, 7, 0) := by decide +kernel
theorem at_48_30 : j_at 48 30 = some (.iload_n 1, 0, 0, 0) := by decide +kernel
theorem at_48_31 : j_at 48 31 = some (.iconst 5, 0, 0, 5) := by decide +kernel
theorem at_48_32 : j_at 48 32 = some (.imul, 0, 0, 0) := by decide +kernel
theorem at_48_33 : j_at 48 33 = some (.iload_n 2, 0, 0, 0) := by decide +kernel
theorem at_48_34 : j_at 48 34 = some (.iadd, 0, 0, 0) := by decide +kernel
theorem at_48_35 : j_at 48 35 = some (.laload, 0, 0, 0) := by decide +kernel
theorem at_48_36 : j_at 48 36 = some (.lneg, 0, 0, 0) := by decide +kernel
theorem at_48_37 : j_at 48 37 = some (.lmul, 0, 0, 0) := by decide +kernel
theorem at_48_38 : j_at 48 38 = some (.lstore 6, 0, 0, 0) := by decide +kernel
theorem at_48_40 : j_at 48 40 = some (.lload 4, 0, 0, 0) := by decide +kernel
theorem at_48_42 : j_at 48 42 = some (.lload 6, 0, 0, 0) := by decide +kernel
theorem at_48_44 : j_at 48 44 = some (.lcmp, 0, 0, 0) := by decide +kernel
theorem at_48_45 : j_at 48 45 = some (.ifCond .lt 26, 71, 0, 0) := by decide +kernel
theorem at_48_48 : j_at 48 48 = some (.lload 4, 0, 0, 0) := by decide +kernel
theorem at_48_50 : j_at 48 50 = some (.lload 6, 0, 0, 0) := by decide +kernel
theorem at_48_52 : j_at 48 52 = some (.lcmp, 0, 0, 0) := by decide +kernel
theorem at_48_53 : j_at 48 53 = some (.ifCond .ne 22, 75, 0, 0) := by decide +kernel
theorem at_48_56 : j_at 48 56 = some (.aload_n 0, 0, 0, 0) := by decide +kernel
theorem at_48_57 : j_at 48 57 = some (.getfield 23, 5, 6, 0) := by decide +kernel
theorem at_48_60 : j_at 48 60 = some (.iload_n 2, 0, 0, 0) := by decide +kernel
theorem at_48_61 : j_at 48 61 = some (.iaload, 0, 0, 0) := by decide +kernel
theorem at_48_62 : j_at 48 62 = some (.aload_n 0, 0, 0, 0) := by decide +kernel
theorem at_48_63 : j_at 48 63 = some (.getfield 23, 5, 6, 0) := by decide +kernel
theorem at_48_66 : j_at 48 66 = some (.iload_n 3, 0, 0, 0) := by decide +kernel
theorem at_48_67 : j_at 48 67 = some (.iaload, 0, 0, 0) := by decide +kernel
theorem at_48_68 : j_at 48 68 = some (.if_icmp .ge 7, 75, 0, 0) := by decide +kernel
theorem at_48_71 : j_at 48 71 = some (.iconst 1, 0, 0, 1) := by decide +kernel
theorem at_48_72 : j_at 48 72 = some (.goto 4, 76, 0, 0) := by decide +kernel
theorem at_48_75 : j_at 48 75 = some (.iconst 0, 0, 0, 0) := by decide +kernel
theorem at_48_76 : j_at 48 76 = some (.ireturn, 0, 0, 0) := by decide +kernel
theorem at_49_0 : j_at 49 0 = some (.iconst 0, 0, 0, 0) := by decide +kernel
theorem at_49_1 : j_at 49 1 = some (.istore_n 3, 0, 0, 0) := by decide +kernel
theorem at_49_2 : j_at 49 2 = some (.iload_n 3, 0, 0, 0) := by decide +kernel
theorem at_49_3 : j_at 49 3 = some (.aload_n 0, 0, 0, 0) := by decide +kernel
theorem at_49_4 : j_at 49 4 = some (.getfield 45, 5, 0, 0) := by decide +kernel
theorem at_49_7 : j_at 49 7 = some (.if_icmp .ge 21, 28, 0, 0) := by decide +kernel
theorem at_49_10 : j_at 49 10 = some (.aload_n 0, 0, 0, 0) := by decide +kernel
theorem at_49_11 : j_at 49 11 = some (.iload_n 3, 0, 0, 0) := by decide +kernel
theorem at_49_12 : j_at 49 12 = some (.iload_n 1, 0, 0, 0) := by decide +kernel
theorem at_49_13 : j_at 49 13 = some (.iload_n 2, 0, 0, 0) := by decide +kernel
theorem at_49_14 : j_at 49 14 = some (.invokevirtual 104, 50, 3, 0) := by decide +kernel
theorem at_49_17 : j_at 49 17 = some (.ifCond .ne 5, 22, 0, 0) := by decide +kernel
theorem at_49_20 : j_at 49 20 = some (.iconst 0, 0, 0, 0) := by decide +kernel
theorem at_49_21 : j_at 49 21 = some (.ireturn, 0, 0, 0) := by decide +kernel
theorem at_49_22 : j_at 49 22 = some (.iinc 3 1, 0, 0, 0) := by decide +kernel
theorem at_49_25 : j_at 49 25 = some (.goto (-23), 2, 0, 0) := by decide +kernel
theorem at_49_28 : j_at 49 28 = some (.iconst 0, 0, 0, 0) := by decide +kernel
theorem at_49_29 : j_at 49 29 = some (.istore_n 3, 0, 0, 0) := by decide +kernel
theorem at_49_30 : j_at 49 30 = some (.iload_n 3, 0, 0, 0) := by decide +kernel
theorem at_49_31 : j_at 49 31 = some (.aload_n 0, 0, 0, 0) := by decide +kernel
theorem at_49_32 : j_at 49 32 = some (.getfield 9, 5, 1, 0) := by decide +kernel
theorem at_49_35 : j_at 49 35 = some (.if_icmp .ge 71, 106, 0, 0) := by decide +kernel
theorem at_49_38 : j_at 49 38 = some (.aload_n 0, 0, 0, 0) := by decide +kernel
theorem at_49_39 : j_at 49 39 = some (.getfield 42, 5, 12, 0) := by decide +kernel
theorem at_49_42 : j_at 49 42 = some (.iload_n 3, 0, 0, 0) := by decide +kernel
theorem at_49_43 : j_at 49 43 = some (.iload_n 3, 0, 0, 0) := by decide +kernel
theorem at_49_44 : j_at 49 44 = some (.iload_n 2, 0, 0, 0) := by decide +kernel
theorem at_49_45 : j_at 49 45 = some (.if_icmp .ne 12, 57, 0, 0) := by decide +kernel
theorem at_49_48 : j_at 49 48 = some (.aload_n 0, 0, 0, 0) := by decide +kernel
theorem at_49_49 : j_at 49 49 = some (.getfield 33, 5, 9, 0) := by decide +kernel
theorem at_49_52 : j_at 49 52 = some (.iload_n 2, 0, 0, 0) := by decide +kernel
theorem at_49_53 : j_at 49 53 = some (.laload, 0, 0, 0) := by decide +kernel
theorem at_49_54 : j_at 49 54 = some (.goto 31, 85, 0, 0) := by decide +kernel
theorem at_49_57 : j_at 49 57 = some (.aload_n 0, 0, 0, 0) := by decide +kernel
theorem at_49_58 : j_at 49 58 = some (.aload_n 0, 0, 0, 0) := by decide +kernel
theorem at_49_59 : j_at 49 59 = some (.getfield 33, 5, 9, 0) := by decide +kernel
theorem at_49_62 : j_at 49 62 = some (.iload_n 3, 0, 0, 0) := by decide +kernel
theorem at_49_63 : j_at 49 63 = some (.laload, 0, 0, 0) := by decide +kernel
theorem at_49_64 : j_at 49 64 = some (.aload_n 0, 0, 0, 0) := by decide +kernel
theorem at_49_65 : j_at 49 65 = some (.getfield 33, 5, 9, 0) := by decide +kernel
theorem at_49_68 : j_at 49 68 = some (.iload_n 2, 0, 0, 0) := by decide +kernel
theorem at_49_69 : j_at 49 69 = some (.laload, 0, 0, 0) := by decide +kernel
theorem at_49_70 : j_at 49 70 = some (.aload_n 0, 0, 0, 0) := by decide +kernel
theorem at_49_71 : j_at 49 71 = some (.getfield 26, 5, 7, 0) := by decide +kernel
theorem at_49_74 : j_at 49 74 = some (.iload_n 1, 0, 0, 0) := by decide +kernel
theorem at_49_75 : j_at 49 75 = some (.iconst 5, 0, 0, 5) := by decide +kernel
theorem at_49_76 : j_at 49 76 = some (.imul, 0, 0, 0) := by decide +kernel
theorem at_49_77 : j_at 49 77 = some (.iload_n 3, 0, 0, 0) := by decide +kernel
theorem at_49_78 : j_at 49 78 = some (.iadd, 0, 0, 0) := by decide +kernel
theorem at_49_79 : j_at 49 79 = some (.laload, 0, 0, 0) := by decide +kernel
theorem at_49_80 : j_at 49 80 = some (.iload_n 1, 0, 0, 0) := by decide +kernel
theorem at_49_81 : j_at 49 81 = some (.iload_n 2, 0, 0, 0) := by decide +kernel
theorem at_49_82 : j_at 49 82 = some (.invokevirtual 107, 51, 5, 0) := by decide +kernel
theorem at_49_85 : j_at 49 85 = some (.lastore, 0, 0, 0) := by decide +kernel
theorem at_49_86 : j_at 49 86 = some (.aload_n 0, 0, 0, 0) := by decide +kernel
theorem at_49_87 : j_at 49 87 = some (.getfield 42, 5, 12, 0) := by decide +kernel
theorem at_49_90 : j_at 49 90 = some (.iload_n 3, 0, 0, 0) := by decide +kernel
theorem at_49_91 : j_at 49 91 = some (.laload, 0, 0, 0) := by decide +kernel
theorem at_49_92 : j_at 49 92 = some (.invokestatic 111, 144, 1, 0) := by decide +kernel
theorem at_49_95 : j_at 49 95 = some (.ifCond .ne 5, 100, 0, 0) := by decide +kernel
theorem at_49_98 : j_at 49 98 = some (.iconst 0, 0, 0, 0) := by decide +kernel
theorem at_49_99 : j_at 49 99 = some (.ireturn, 0, 0, 0) := by decide +kernel
theorem at_49_100 : j_at 49 100 = some (.iinc 3 1, 0, 0, 0) := by decide +kernel
theorem at_49_103 : j_at 49 103 = some (.goto (-73), 30, 0, 0) := by decide +kernel
theorem at_49_106 : j_at 49 106 = some (.aload_n 0, 0, 0, 0) := by decide +kernel
theorem at_49_107 : j_at 49 107 = some (.aload_n 0, 0, 0, 0) := by decide +kernel
theorem at_49_108 : j_at 49 108 = some (.getfield 56, 5, 3, 0) := by decide +kernel
theorem at_49_111 : j_at 49 111 = some (.aload_n 0, 0, 0, 0) := by decide +kernel
theorem at_49_112 : j_at 49 112 = some (.getfield 33, 5, 9, 0) := by decide +kernel
theorem at_49_115 : j_at 49 115 = some (.iload_n 2, 0, 0, 0) := by decide +kernel
theorem at_49_116 : j_at 49 116 = some (.laload, 0, 0, 0) := by decide +kernel
theorem at_49_117 : j_at 49 117 = some (.lneg, 0, 0, 0) := by decide +kernel
theorem at_49_118 : j_at 49 118 = some (.aload_n 0, 0, 0, 0) := by decide +kernel
theorem at_49_119 : j_at 49 119 = some (.getfield 30, 5, 8, 0) := by decide +kernel
theorem at_49_122 : j_at 49 122 = some (.iload_n 1, 0, 0, 0) := by decide +kernel
theorem at_49_123 : j_at 49 123 = some (.laload, 0, 0, 0) := by decide +kernel
theorem at_49_124 : j_at 49 124 = some (.iload_n 1, 0, 0, 0) := by decide +kernel
theorem at_49_125 : j_at 49 125 = some (.iload_n 2, 0, 0, 0) := by decide +kernel
theorem at_49_126 : j_at 49 126 = some (.invokevirtual 107, 51, 5, 0) := by decide +kernel
theorem at_49_129 : j_at 49 129 = some (.lstore_n 3, 0, 0, 0) := by decide +kernel
theorem at_49_130 : j_at 49 130 = some (.lload_n 3, 0, 0, 0) := by decide +kernel
theorem at_49_131 : j_at 49 131 = some (.invokestatic 111, 144, 1, 0) := by decide +kernel
theorem at_49_134 : j_at 49 134 = some (.ifCond .ne 5, 139, 0, 0) := by decide +kernel
theorem at_49_137 : j_at 49 137 = some (.iconst 0, 0, 0, 0) := by decide +kernel
theorem at_49_138 : j_at 49 138 = some (.ireturn, 0, 0, 0) := by decide +kernel
theorem at_49_139 : j_at 49 139 = some (.aload_n 0, 0, 0, 0) := by decide +kernel
theorem at_49_140 : j_at 49 140 = some (.lload_n 3, 0, 0, 0) := by decide +kernel
theorem at_49_141 : j_at 49 141 = some (.putfield 56, 5, 3, 0) := by decide +kernel
theorem at_49_144 : j_at 49 144 = some (.aload_n 0, 0, 0, 0) := by decide +kernel
theorem at_49_145 : j_at 49 145 = some (.aload_n 0, 0, 0, 0) := by decide +kernel
theorem at_49_146 : j_at 49 146 = some (.getfield 26, 5, 7, 0) := by decide +kernel
theorem at_49_149 : j_at 49 149 = some (.iload_n 1, 0, 0, 0) := by decide +kernel
theorem at_49_150 : j_at 49 150 = some (.iconst 5, 0, 0, 5) := by decide +kernel
theorem at_49_151 : j_at 49 151 = some (.imul, 0, 0, 0) := by decide +kernel
theorem at_49_152 : j_at 49 152 = some (.iload_n 2, 0, 0, 0) := by decide +kernel
theorem at_49_153 : j_at 49 153 = some (.iadd, 0, 0, 0) := by decide +kernel
theorem at_49_154 : j_at 49 154 = some (.laload, 0, 0, 0) := by decide +kernel
theorem at_49_155 : j_at 49 155 = some (.lneg, 0, 0, 0) := by decide +kernel
theorem at_49_156 : j_at 49 156 = some (.putfield 15, 5, 4, 0) := by decide +kernel
theorem at_49_159 : j_at 49 159 = some (.aload_n 0, 0, 0, 0) := by decide +kernel
theorem at_49_160 : j_at 49 160 = some (.getfield 36, 5, 10, 0) := by decide +kernel
theorem at_49_163 : j_at 49 163 = some (.iconst 0, 0, 0, 0) := by decide +kernel
theorem at_49_164 : j_at 49 164 = some (.aload_n 0, 0, 0, 0) := by decide +kernel
theorem at_49_165 : j_at 49 165 = some (.getfield 26, 5, 7, 0) := by decide +kernel
theorem at_49_168 : j_at 49 168 = some (.iconst 0, 0, 0, 0) := by decide +kernel
theorem at_49_169 : j_at 49 169 = some (.aload_n 0, 0, 0, 0) := by decide +kernel
theorem at_49_170 : j_at 49 170 = some (.getfield 45, 5, 0, 0) := by decide +kernel
theorem at_49_173 : j_at 49 173 = some (.iconst 5, 0, 0, 5) := by decide +kernel
theorem at_49_174 : j_at 49 174 = some (.imul, 0, 0, 0) := by decide +kernel
theorem at_49_175 : j_at 49 175 = some (.invokestatic 115, 9999, 5, 0) := by decide +kernel
theorem at_49_178 : j_at 49 178 = some (.aload_n 0, 0, 0, 0) := by decide +kernel
theorem at_49_179 : j_at 49 179 = some (.getfield 39, 5, 11, 0) := by decide +kernel
theorem at_49_182 : j_at 49 182 = some (.iconst 0, 0, 0, 0) := by decide +kernel
theorem at_49_183 : j_at 49 183 = some (.aload_n 0, 0, 0, 0) := by decide +kernel
theorem at_49_184 : j_at 49 184 = some (.getfield 30, 5, 8, 0) := by decide +kernel
theorem at_49_187 : j_at 49 187 = some (.iconst 0, 0, 0, 0) := by decide +kernel
theorem at_49_188 : j_at 49 188 = some (.aload_n 0, 0, 0, 0) := by decide +kernel
theorem at_49_189 : j_at 49 189 = some (.getfield 45, 5, 0, 0) := by decide +kernel
theorem at_49_192 : j_at 49 192 = some (.invokestatic 115, 9999, 5, 0) := by decide +kernel
theorem at_49_195 : j_at 49 195 = some (.aload_n 0, 0, 0, 0) := by decide +kernel
theorem at_49_196 : j_at 49 196 = some (.getfield 42, 5, 12, 0) := by decide +kernel
theorem at_49_199 : j_at 49 199 = some (.iconst 0, 0, 0, 0) := by decide +kernel
theorem at_49_200 : j_at 49 200 = some (.aload_n 0, 0, 0, 0) := by decide +kernel
theorem at_49_201 : j_at 49 201 = some (.getfield 33, 5, 9, 0) := by decide +kernel
theorem at_49_204 : j_at 49 204 = some (.iconst 0, 0, 0, 0) := by decide +kernel
theorem at_49_205 : j_at 49 205 = some (.aload_n 0, 0, 0, 0) := by decide +kernel
theorem at_49_206 : j_at 49 206 = some (.getfield 9, 5, 1, 0) := by decide +kernel
theorem at_49_209 : j_at 49 209 = some (.invokestatic 115, 9999, 5, 0) := by decide +kernel
theorem at_49_212 : j_at 49 212 = some (.aload_n 0, 0, 0, 0) := by decide +kernel
theorem at_49_213 : j_at 49 213 = some (.getfield 19, 5, 5, 0) := by decide +kernel
theorem at_49_216 : j_at 49 216 = some (.iload_n 1, 0, 0, 0) := by decide +kernel
theorem at_49_217 : j_at 49 217 = some (.iaload, 0, 0, 0) := by decide +kernel
theorem at_49_218 : j_at 49 218 = some (.istore 5, 0, 0, 0) := by decide +kernel
theorem at_49_220 : j_at 49 220 = some (.aload_n 0, 0, 0, 0) := by decide +kernel
theorem at_49_221 : j_at 49 221 = some (.getfield 19, 5, 5, 0) := by decide +kernel
theorem at_49_224 : j_at 49 224 = some (.iload_n 1, 0, 0, 0) := by decide +kernel
theorem at_49_225 : j_at 49 225 = some (.aload_n 0, 0, 0, 0) := by decide +kernel
theorem at_49_226 : j_at 49 226 = some (.getfield 23, 5, 6, 0) := by decide +kernel
theorem at_49_229 : j_at 49 229 = some (.iload_n 2, 0, 0, 0) := by decide +kernel
theorem at_49_230 : j_at 49 230 = some (.iaload, 0, 0, 0) := by decide +kernel
theorem at_49_231 : j_at 49 231 = some (.iastore, 0, 0, 0) := by decide +kernel
theorem at_49_232 : j_at 49 232 = some (.aload_n 0, 0, 0, 0) := by decide +kernel
theorem at_49_233 : j_at 49 233 = some (.getfield 23, 5, 6, 0) := by decide +kernel
theorem at_49_236 : j_at 49 236 = some (.iload_n 2, 0, 0, 0) := by decide +kernel
theorem at_49_237 : j_at 49 237 = some (.iload 5, 0, 0, 0) := by decide +kernel
theorem at_49_239 : j_at 49 239 = some (.iastore, 0, 0, 0) := by decide +kernel
theorem at_49_240 : j_at 49 240 = some (.aload_n 0, 0, 0, 0) := by decide +kernel
theorem at_49_241 : j_at 49 241 = some (.dup, 0, 0, 0) := by decide +kernel
theorem at_49_242 : j_at 49 242 = some (.getfield 53, 5, 2, 0) := by decide +kernel
theorem at_49_245 : j_at 49 245 = some (.iconst 1, 0, 0, 1) := by decide +kernel
theorem at_49_246 : j_at 49 246 = some (.iadd, 0, 0, 0) := by decide +kernel
theorem at_49_247 : j_at 49 247 = some (.putfield 53, 5, 2, 0) := by decide +kernel
theorem at_49_250 : j_at 49 250 = some (.iconst 1, 0, 0, 1) := by decide +kernel
theorem at_49_251 : j_at 49 251 = some (.ireturn, 0, 0, 0) := by decide +kernel
theorem at_50_0 : j_at 50 0 = some (.aload_n 0, 0, 0, 0) := by decide +kernel
theorem at_50_1 : j_at 50 1 = some (.getfield 26, 5, 7, 0) := by decide +kernel
theorem at_50_4 : j_at 50 4 = some (.iload_n 1, 0, 0, 0) := by decide +kernel
theorem at_50_5 : j_at 50 5 = some (.iconst 5, 0, 0, 5) := by decide +kernel
theorem at_50_6 : j_at 50 6 = some (.imul, 0, 0, 0) := by decide +kernel
theorem at_50_7 : j_at 50 7 = some (.iload_n 3, 0, 0, 0) := by decide +kernel
theorem at_50_8 : j_at 50 8 = some (.iadd, 0, 0, 0) := by decide +kernel
theorem at_50_9 : j_at 50 9 = some (.laload, 0, 0, 0) := by decide +kernel
theorem at_50_10 : j_at 50 10 = some (.lstore 4, 0, 0, 0) := by decide +kernel
theorem at_50_12 : j_at 50 12 = some (.iconst 0, 0, 0, 0) := by decide +kernel
theorem at_50_13 : j_at 50 13 = some (.istore 6, 0, 0, 0) := by decide +kernel
theorem at_50_15 : j_at 50 15 = some (.iload 6, 0, 0, 0) := by decide +kernel
theorem at_50_17 : j_at 50 17 = some (.aload_n 0, 0, 0, 0) := by decide +kernel
theorem at_50_18 : j_at 50 18 = some (.getfield 9, 5, 1, 0) := by decide +kernel
theorem at_50_21 : j_at 50 21 = some (.if_icmp .ge 108, 129, 0, 0) := by decide +kernel
theorem at_50_24 : j_at 50 24 = some (.aload_n 0, 0, 0, 0) := by decide +kernel
theorem at_50_25 : j_at 50 25 = some (.getfield 26, 5, 7, 0) := by decide +kernel
theorem at_50_28 : j_at 50 28 = some (.iload_n 1, 0, 0, 0) := by decide +kernel
theorem at_50_29 : j_at 50 29 = some (.iconst 5, 0, 0, 5) := by decide +kernel
theorem at_50_30 : j_at 50 30 = some (.imul, 0, 0, 0) := by decide +kernel
theorem at_50_31 : j_at 50 31 = some (.iload 6, 0, 0, 0) := by decide +kernel
theorem at_50_33 : j_at 50 33 = some (.iadd, 0, 0, 0) := by decide +kernel
theorem at_50_34 : j_at 50 34 = some (.laload, 0, 0, 0) := by decide +kernel
theorem at_50_35 : j_at 50 35 = some (.lstore 7, 0, 0, 0) := by decide +kernel
theorem at_50_37 : j_at 50 37 = some (.iload_n 1, 0, 0, 0) := by decide +kernel
theorem at_50_38 : j_at 50 38 = some (.iload_n 2, 0, 0, 0) := by decide +kernel
theorem at_50_39 : j_at 50 39 = some (.if_icmp .ne 25, 64, 0, 0) := by decide +kernel
theorem at_50_42 : j_at 50 42 = some (.iload 6, 0, 0, 0) := by decide +kernel
theorem at_50_44 : j_at 50 44 = some (.iload_n 3, 0, 0, 0) := by decide +kernel
theorem at_50_45 : j_at 50 45 = some (.if_icmp .ne 11, 56, 0, 0) := by decide +kernel
theorem at_50_48 : j_at 50 48 = some (.aload_n 0, 0, 0, 0) := by decide +kernel
theorem at_50_49 : j_at 50 49 = some (.getfield 15, 5, 4, 0) := by decide +kernel
theorem at_50_52 : j_at 50 52 = some (.lneg, 0, 0, 0) := by decide +kernel
theorem at_50_53 : j_at 50 53 = some (.goto 6, 59, 0, 0) := by decide +kernel
theorem at_50_56 : j_at 50 56 = some (.lload 7, 0, 0, 0) := by decide +kernel
theorem at_50_58 : j_at 50 58 = some (.lneg, 0, 0, 0) := by decide +kernel
theorem at_50_59 : j_at 50 59 = some (.lstore 9, 0, 0, 0) := by decide +kernel
theorem at_50_61 : j_at 50 61 = some (.goto 39, 100, 0, 0) := by decide +kernel
theorem at_50_64 : j_at 50 64 = some (.iload 6, 0, 0, 0) := by decide +kernel
theorem at_50_66 : j_at 50 66 = some (.iload_n 3, 0, 0, 0) := by decide +kernel
theorem at_50_67 : j_at 50 67 = some (.if_icmp .ne 10, 77, 0, 0) := by decide +kernel
theorem at_50_70 : j_at 50 70 = some (.lload 7, 0, 0, 0) := by decide +kernel
theorem at_50_72 : j_at 50 72 = some (.lstore 9, 0, 0, 0) := by decide +kernel
theorem at_50_74 : j_at 50 74 = some (.goto 26, 100, 0, 0) := by decide +kernel
theorem at_50_77 : j_at 50 77 = some (.aload_n 0, 0, 0, 0) := by decide +kernel
theorem at_50_78 : j_at 50 78 = some (.lload 7, 0, 0, 0) := by decide +kernel
theorem at_50_80 : j_at 50 80 = some (.lload 4, 0, 0, 0) := by decide +kernel
theorem at_50_82 : j_at 50 82 = some (.aload_n 0, 0, 0, 0) := by decide +kernel
theorem at_50_83 : j_at 50 83 = some (.getfield 26, 5, 7, 0) := by decide +kernel
theorem at_50_86 : j_at 50 86 = some (.iload_n 2, 0, 0, 0) := by decide +kernel
theorem at_50_87 : j_at 50 87 = some (.iconst 5, 0, 0, 5) := by decide +kernel
theorem at_50_88 : j_at 50 88 = some (.imul, 0, 0, 0) := by decide +kernel
theorem at_50_89 : j_at 50 89 = some (.iload 6, 0, 0, 0) := by decide +kernel
theorem at_50_91 : j_at 50 91 = some (.iadd, 0, 0, 0) := by decide +kernel
theorem at_50_92 : j_at 50 92 = some (.laload, 0, 0, 0) := by decide +kernel
theorem at_50_93 : j_at 50 93 = some (.iload_n 2, 0, 0, 0) := by decide +kernel
theorem at_50_94 : j_at 50 94 = some (.iload_n 3, 0, 0, 0) := by decide +kernel
theorem at_50_95 : j_at 50 95 = some (.invokevirtual 107, 51, 5, 0) := by decide +kernel
theorem at_50_98 : j_at 50 98 = some (.lstore 9, 0, 0, 0) := by decide +kernel
theorem at_50_100 : j_at 50 100 = some (.lload 9, 0, 0, 0) := by decide +kernel
theorem at_50_102 : j_at 50 102 = some (.invokestatic 111, 144, 1, 0) := by decide +kernel
theorem at_50_105 : j_at 50 105 = some (.ifCond .ne 5, 110, 0, 0) := by decide +kernel
theorem at_50_108 : j_at 50 108 = some (.iconst 0, 0, 0, 0) := by decide +kernel
theorem at_50_109 : j_at 50 109 = some (.ireturn, 0, 0, 0) := by decide +kernel
theorem at_50_110 : j_at 50 110 = some (.aload_n 0, 0, 0, 0) := by decide +kernel
theorem at_50_111 : j_at 50 111 = some (.getfield 36, 5, 10, 0) := by decide +kernel
theorem at_50_114 : j_at 50 114 = some (.iload_n 1, 0, 0, 0) := by decide +kernel
theorem at_50_115 : j_at 50 115 = some (.iconst 5, 0, 0, 5) := by decide +kernel
theorem at_50_116 : j_at 50 116 = some (.imul, 0, 0, 0) := by decide +kernel
theorem at_50_117 : j_at 50 117 = some (.iload 6, 0, 0, 0) := by decide +kernel
theorem at_50_119 : j_at 50 119 = some (.iadd, 0, 0, 0) := by decide +kernel
theorem at_50_120 : j_at 50 120 = some (.lload 9, 0, 0, 0) := by decide +kernel
theorem at_50_122 : j_at 50 122 = some (.lastore, 0, 0, 0) := by decide +kernel
theorem at_50_123 : j_at 50 123 = some (.iinc 6 1, 0, 0, 0) := by decide +kernel
theorem at_50_126 : j_at 50 126 = some (.goto (-111), 15, 0, 0) := by decide +kernel
theorem at_50_129 : j_at 50 129 = some (.aload_n 0, 0, 0, 0) := by decide +kernel
theorem at_50_130 : j_at 50 130 = some (.getfield 39, 5, 11, 0) := by decide +kernel
theorem at_50_133 : j_at 50 133 = some (.iload_n 1, 0, 0, 0) := by decide +kernel
theorem at_50_134 : j_at 50 134 = some (.iload_n 1, 0, 0, 0) := by decide +kernel
theorem at_50_135 : j_at 50 135 = some (.iload_n 2, 0, 0, 0) := by decide +kernel
theorem at_50_136 : j_at 50 136 = some (.if_icmp .ne 13, 149, 0, 0) := by decide +kernel
theorem at_50_139 : j_at 50 139 = some (.aload_n 0, 0, 0, 0) := by decide +kernel
theorem at_50_140 : j_at 50 140 = some (.getfield 30, 5, 8, 0) := by decide +kernel
theorem at_50_143 : j_at 50 143 = some (.iload_n 2, 0, 0, 0) := by decide +kernel
theorem at_50_144 : j_at 50 144 = some (.laload, 0, 0, 0) := by decide +kernel
theorem at_50_145 : j_at 50 145 = some (.lneg, 0, 0, 0) := by decide +kernel
theorem at_50_146 : j_at 50 146 = some (.goto 23, 169, 0, 0) := by decide +kernel
theorem at_50_149 : j_at 50 149 = some (.aload_n 0, 0, 0, 0) := by decide +kernel
theorem at_50_150 : j_at 50 150 = some (.aload_n 0, 0, 0, 0) := by decide +kernel
theorem at_50_151 : j_at 50 151 = some (.getfield 30, 5, 8, 0) := by decide +kernel
theorem at_50_154 : j_at 50 154 = some (.iload_n 1, 0, 0, 0) := by decide +kernel
theorem at_50_155 : j_at 50 155 = some (.laload, 0, 0, 0) := by decide +kernel
theorem at_50_156 : j_at 50 156 = some (.lload 4, 0, 0, 0) := by decide +kernel
theorem at_50_158 : j_at 50 158 = some (.aload_n 0, 0, 0, 0) := by decide +kernel
theorem at_50_159 : j_at 50 159 = some (.getfield 30, 5, 8, 0) := by decide +kernel
theorem at_50_162 : j_at 50 162 = some (.iload_n 2, 0, 0, 0) := by decide +kernel
theorem at_50_163 : j_at 50 163 = some (.laload, 0, 0, 0) := by decide +kernel
theorem at_50_164 : j_at 50 164 = some (.iload_n 2, 0, 0, 0) := by decide +kernel
theorem at_50_165 : j_at 50 165 = some (.iload_n 3, 0, 0, 0) := by decide +kernel
theorem at_50_166 : j_at 50 166 = some (.invokevirtual 107, 51, 5, 0) := by decide +kernel
theorem at_50_169 : j_at 50 169 = some (.lastore, 0, 0, 0) := by decide +kernel
theorem at_50_170 : j_at 50 170 = some (.aload_n 0, 0, 0, 0) := by decide +kernel
theorem at_50_171 : j_at 50 171 = some (.getfield 39, 5, 11, 0) := by decide +kernel
theorem at_50_174 : j_at 50 174 = some (.iload_n 1, 0, 0, 0) := by decide +kernel
theorem at_50_175 : j_at 50 175 = some (.laload, 0, 0, 0) := by decide +kernel
theorem at_50_176 : j_at 50 176 = some (.invokestatic 111, 144, 1, 0) := by decide +kernel
theorem at_50_179 : j_at 50 179 = some (.ireturn, 0, 0, 0) := by decide +kernel
theorem at_51_0 : j_at 51 0 = some (.aload_n 0, 0, 0, 0) := by decide +kernel
theorem at_51_1 : j_at 51 1 = some (.getfield 26, 5, 7, 0) := by decide +kernel
theorem at_51_4 : j_at 51 4 = some (.iload 7, 0, 0, 0) := by decide +kernel
theorem at_51_6 : j_at 51 6 = some (.iconst 5, 0, 0, 5) := by decide +kernel
theorem at_51_7 : j_at 51 7 = some (.imul, 0, 0, 0) := by decide +kernel
theorem at_51_8 : j_at 51 8 = some (.iload 8, 0, 0, 0) := by decide +kernel
theorem at_51_10 : j_at 51 10 = some (.iadd, 0, 0, 0) := by decide +kernel
theorem at_51_11 : j_at 51 11 = some (.laload, 0, 0, 0) := by decide +kernel
theorem at_51_12 : j_at 51 12 = some (.lneg, 0, 0, 0) := by decide +kernel
theorem at_51_13 : j_at 51 13 = some (.lload_n 1, 0, 0, 0) := by decide +kernel
theorem at_51_14 : j_at 51 14 = some (.lmul, 0, 0, 0) := by decide +kernel
theorem at_51_15 : j_at 51 15 = some (.lload_n 3, 0, 0, 0) := by decide +kernel
theorem at_51_16 : j_at 51 16 = some (.lload 5, 0, 0, 0) := by decide +kernel
theorem at_51_18 : j_at 51 18 = some (.lmul, 0, 0, 0) := by decide +kernel
theorem at_51_19 : j_at 51 19 = some (.ladd, 0, 0, 0) := by decide +kernel
theorem at_51_20 : j_at 51 20 = some (.lstore 9, 0, 0, 0) := by decide +kernel
theorem at_51_22 : j_at 51 22 = some (.aload_n 0, 0, 0, 0) := by decide +kernel
theorem at_51_23 : j_at 51 23 = some (.getfield 15, 5, 4, 0) := by decide +kernel
theorem at_51_26 : j_at 51 26 = some (.lconst 0, 0, 0, 0) := by decide +kernel
theorem at_51_27 : j_at 51 27 = some (.lcmp, 0, 0, 0) := by decide +kernel
theorem at_51_28 : j_at 51 28 = some (.ifCond .le 13, 41, 0, 0) := by decide +kernel
theorem at_51_31 : j_at 51 31 = some (.lload 9, 0, 0, 0) := by decide +kernel
theorem at_51_33 : j_at 51 33 = some (.aload_n 0, 0, 0, 0) := by decide +kernel
theorem at_51_34 : j_at 51 34 = some (.getfield 15, 5, 4, 0) := by decide +kernel
theorem at_51_37 : j_at 51 37 = some (.ldiv, 0, 0, 0) := by decide +kernel
theorem at_51_38 : j_at 51 38 = some (.goto 4, 42, 0, 0) := by decide +kernel
theorem at_51_41 : j_at 51 41 = some (.lconst 0, 0, 0, 0) := by decide +kernel
theorem at_51_42 : j_at 51 42 = some (.lreturn, 0, 0, 0) := by decide +kernel
theorem at_52_0 : j_at 52 0 = some (.iconst 0, 0, 0, 0) := by decide +kernel
theorem at_52_1 : j_at 52 1 = some (.istore_n 2, 0, 0, 0) := by decide +kernel
theorem at_52_2 : j_at 52 2 = some (.iload_n 2, 0, 0, 0) := by decide +kernel
theorem at_52_3 : j_at 52 3 = some (.aload_n 0, 0, 0, 0) := by decide +kernel
theorem at_52_4 : j_at 52 4 = some (.getfield 45, 5, 0, 0) := by decide +kernel
theorem at_52_7 : j_at 52 7 = some (.if_icmp .ge 21, 28, 0, 0) := by decide +kernel
theorem at_52_10 : j_at 52 10 = some (.aload_n 0, 0, 0, 0) := by decide +kernel
theorem at_52_11 : j_at 52 11 = some (.getfield 19, 5, 5, 0) := by decide +kernel
theorem at_52_14 : j_at 52 14 = some (.iload_n 2, 0, 0, 0) := by decide +kernel
theorem at_52_15 : j_at 52 15 = some (.iaload, 0, 0, 0) := by decide +kernel
theorem at_52_16 : j_at 52 16 = some (.iload_n 1, 0, 0, 0) := by decide +kernel
theorem at_52_17 : j_at 52 17 = some (.if_icmp .ne 5, 22, 0, 0) := by decide +kernel
theorem at_52_20 : j_at 52 20 = some (.iload_n 2, 0, 0, 0) := by decide +kernel
theorem at_52_21 : j_at 52 21 = some (.ireturn, 0, 0, 0) := by decide +kernel
theorem at_52_22 : j_at 52 22 = some (.iinc 2 1, 0, 0, 0) := by decide +kernel
theorem at_52_25 : j_at 52 25 = some (.goto (-23), 2, 0, 0) := by decide +kernel
theorem at_52_28 : j_at 52 28 = some (.iconst (-1), 0, 0, -1) := by decide +kernel
theorem at_52_29 : j_at 52 29 = some (.ireturn, 0, 0, 0) := by decide +kernel
theorem at_53_0 : j_at 53 0 = some (.aload_n 0, 0, 0, 0) := by decide +kernel
theorem at_53_1 : j_at 53 1 = some (.iload_n 1, 0, 0, 0) := by decide +kernel
theorem at_53_2 : j_at 53 2 = some (.invokevirtual 121, 52, 1, 0) := by decide +kernel
theorem at_53_5 : j_at 53 5 = some (.istore_n 2, 0, 0, 0) := by decide +kernel
theorem at_53_6 : j_at 53 6 = some (.iload_n 2, 0, 0, 0) := by decide +kernel
theorem at_53_7 : j_at 53 7 = some (.ifCond .ge 7, 14, 0, 0) := by decide +kernel
theorem at_53_10 : j_at 53 10 = some (.lconst 0, 0, 0, 0) := by decide +kernel
theorem at_53_11 : j_at 53 11 = some (.goto 9, 20, 0, 0) := by decide +kernel
theorem at_53_14 : j_at 53 14 = some (.aload_n 0, 0, 0, 0) := by decide +kernel
theorem at_53_15 : j_at 53 15 = some (.getfield 30, 5, 8, 0) := by decide +kernel
theorem at_53_18 : j_at 53 18 = some (.iload_n 2, 0, 0, 0) := by decide +kernel
theorem at_53_19 : j_at 53 19 = some (.laload, 0, 0, 0) := by decide +kernel
theorem at_53_20 : j_at 53 20 = some (.lreturn, 0, 0, 0) := by decide +kernel
theorem at_54_0 : j_at 54 0 = some (.aload_n 0, 0, 0, 0) := by decide +kernel
theorem at_54_1 : j_at 54 1 = some (.aload_n 0, 0, 0, 0) := by decide +kernel
theorem at_54_2 : j_at 54 2 = some (.iload_n 1, 0, 0, 0) := by decide +kernel
theorem at_54_3 : j_at 54 3 = some (.invokevirtual 124, 53, 1, 0) := by decide +kernel
theorem at_54_6 : j_at 54 6 = some (.invokevirtual 128, 44, 1, 0) := by decide +kernel
theorem at_54_9 : j_at 54 9 = some (.lreturn, 0, 0, 0) := by decide +kernel
theorem at_55_0 : j_at 55 0 = some (.iconst 0, 0, 0, 0) := by decide +kernel
theorem at_55_1 : j_at 55 1 = some (.istore_n 2, 0, 0, 0) := by decide +kernel
theorem at_55_2 : j_at 55 2 = some (.iload_n 2, 0, 0, 0) := by decide +kernel
theorem at_55_3 : j_at 55 3 = some (.aload_n 0, 0, 0, 0) := by decide +kernel
theorem at_55_4 : j_at 55 4 = some (.getfield 9, 5, 1, 0) := by decide +kernel
theorem at_55_7 : j_at 55 7 = some (.if_icmp .ge 26, 33, 0, 0) := by decide +kernel
theorem at_55_10 : j_at 55 10 = some (.aload_n 0, 0, 0, 0) := by decide +kernel
theorem at_55_11 : j_at 55 11 = some (.getfield 23, 5, 6, 0) := by decide +kernel
theorem at_55_14 : j_at 55 14 = some (.iload_n 2, 0, 0, 0) := by decide +kernel
theorem at_55_15 : j_at 55 15 = some (.iaload, 0, 0, 0) := by decide +kernel
theorem at_55_16 : j_at 55 16 = some (.iload_n 1, 0, 0, 0) := by decide +kernel
theorem at_55_17 : j_at 55 17 = some (.if_icmp .ne 10, 27, 0, 0) := by decide +kernel
theorem at_55_20 : j_at 55 20 = some (.aload_n 0, 0, 0, 0) := by decide +kernel
theorem at_55_21 : j_at 55 21 = some (.getfield 33, 5, 9, 0) := by decide +kernel
theorem at_55_24 : j_at 55 24 = some (.iload_n 2, 0, 0, 0) := by decide +kernel
theorem at_55_25 : j_at 55 25 = some (.laload, 0, 0, 0) := by decide +kernel
theorem at_55_26 : j_at 55 26 = some (.lreturn, 0, 0, 0) := by decide +kernel
theorem at_55_27 : j_at 55 27 = some (.iinc 2 1, 0, 0, 0) := by decide +kernel
theorem at_55_30 : j_at 55 30 = some (.goto (-28), 2, 0, 0) := by decide +kernel
theorem at_55_33 : j_at 55 33 = some (.lconst 0, 0, 0, 0) := by decide +kernel
theorem at_55_34 : j_at 55 34 = some (.lreturn, 0, 0, 0) := by decide +kernel
theorem at_56_0 : j_at 56 0 = some (.iconst 0, 0, 0, 0) := by decide +kernel
theorem at_56_1 : j_at 56 1 = some (.istore_n 1, 0, 0, 0) := by decide +kernel
theorem at_56_2 : j_at 56 2 = some (.iload_n 1, 0, 0, 0) := by decide +kernel
theorem at_56_3 : j_at 56 3 = some (.aload_n 0, 0, 0, 0) := by decide +kernel
theorem at_56_4 : j_at 56 4 = some (.getfield 45, 5, 0, 0) := by decide +kernel
theorem at_56_7 : j_at 56 7 = some (.if_icmp .ge 37, 44, 0, 0) := by decide +kernel
theorem at_56_10 : j_at 56 10 = some (.aload_n 0, 0, 0, 0) := by decide +kernel
theorem at_56_11 : j_at 56 11 = some (.getfield 19, 5, 5, 0) := by decide +kernel
theorem at_56_14 : j_at 56 14 = some (.iload_n 1, 0, 0, 0) := by decide +kernel
theorem at_56_15 : j_at 56 15 = some (.iaload, 0, 0, 0) := by decide +kernel
theorem at_56_16 : j_at 56 16 = some (.bipush 10, 0, 0, 10) := by decide +kernel
theorem at_56_18 : j_at 56 18 = some (.if_icmp .ge 20, 38, 0, 0) := by decide +kernel
theorem at_56_21 : j_at 56 21 = some (.aload_n 0, 0, 0, 0) := by decide +kernel
theorem at_56_22 : j_at 56 22 = some (.aload_n 0, 0, 0, 0) := by decide +kernel
theorem at_56_23 : j_at 56 23 = some (.getfield 30, 5, 8, 0) := by decide +kernel
theorem at_56_26 : j_at 56 26 = some (.iload_n 1, 0, 0, 0) := by decide +kernel
theorem at_56_27 : j_at 56 27 = some (.laload, 0, 0, 0) := by decide +kernel
theorem at_56_28 : j_at 56 28 = some (.invokevirtual 75, 43, 1, 0) := by decide +kernel
theorem at_56_31 : j_at 56 31 = some (.lconst 0, 0, 0, 0) := by decide +kernel
theorem at_56_32 : j_at 56 32 = some (.lcmp, 0, 0, 0) := by decide +kernel
theorem at_56_33 : j_at 56 33 = some (.ifCond .eq 5, 38, 0, 0) := by decide +kernel
theorem at_56_36 : j_at 56 36 = some (.iload_n 1, 0, 0, 0) := by decide +kernel
theorem at_56_37 : j_at 56 37 = some (.ireturn, 0, 0, 0) := by decide +kernel
theorem at_56_38 : j_at 56 38 = some (.iinc 1 1, 0, 0, 0) := by decide +kernel
theorem at_56_41 : j_at 56 41 = some (.goto (-39), 2, 0, 0) := by decide +kernel
theorem at_56_44 : j_at 56 44 = some (.iconst (-1), 0, 0, -1) := by decide +kernel
theorem at_56_45 : j_at 56 45 = some (.ireturn, 0, 0, 0) := by decide +kernel
theorem at_57_0 : j_at 57 0 = some (.iconst 0, 0, 0, 0) := by decide +kernel
theorem at_57_1 : j_at 57 1 = some (.istore_n 1, 0, 0, 0) := by decide +kernel
theorem at_57_2 : j_at 57 2 = some (.iload_n 1, 0, 0, 0) := by decide +kernel
theorem at_57_3 : j_at 57 3 = some (.aload_n 0, 0, 0, 0) := by decide +kernel
theorem at_57_4 : j_at 57 4 = some (.getfield 9, 5, 1, 0) := by decide +kernel
theorem at_57_7 : j_at 57 7 = some (.if_icmp .ge 25, 32, 0, 0) := by decide +kernel
theorem at_57_10 : j_at 57 10 = some (.aload_n 0, 0, 0, 0) := by decide +kernel
theorem at_57_11 : j_at 57 11 = some (.aload_n 0, 0, 0, 0) := by decide +kernel
theorem at_57_12 : j_at 57 12 = some (.iload_n 1, 0, 0, 0) := by decide +kernel
theorem at_57_13 : j_at 57 13 = some (.invokevirtual 124, 53, 1, 0) := by decide +kernel
theorem at_57_16 : j_at 57 16 = some (.invokevirtual 75, 43, 1, 0) := by decide +kernel
theorem at_57_19 : j_at 57 19 = some (.lconst 0, 0, 0, 0) := by decide +kernel
theorem at_57_20 : j_at 57 20 = some (.lcmp, 0, 0, 0) := by decide +kernel
theorem at_57_21 : j_at 57 21 = some (.ifCond .eq 5, 26, 0, 0) := by decide +kernel
theorem at_57_24 : j_at 57 24 = some (.iload_n 1, 0, 0, 0) := by decide +kernel
theorem at_57_25 : j_at 57 25 = some (.ireturn, 0, 0, 0) := by decide +kernel
theorem at_57_26 : j_at 57 26 = some (.iinc 1 1, 0, 0, 0) := by decide +kernel
theorem at_57_29 : j_at 57 29 = some (.goto (-27), 2, 0, 0) := by decide +kernel
theorem at_57_32 : j_at 57 32 = some (.iconst (-1), 0, 0, -1) := by decide +kernel
theorem at_57_33 : j_at 57 33 = some (.ireturn, 0, 0, 0) := by decide +kernel
theorem at_58_0 : j_at 58 0 = some (.iload_n 2, 0, 0, 0) := by decide +kernel
theorem at_58_1 : j_at 58 1 = some (.aload_n 0, 0, 0, 0) := by decide +kernel
theorem at_58_2 : j_at 58 2 = some (.getfield 9, 5, 1, 0) := by decide +kernel
theorem at_58_5 : j_at 58 5 = some (.if_icmp .ne 10, 15, 0, 0) := by decide +kernel
theorem at_58_8 : j_at 58 8 = some (.aload_n 0, 0, 0, 0) := by decide +kernel
theorem at_58_9 : j_at 58 9 = some (.getfield 30, 5, 8, 0) := by decide +kernel
theorem at_58_12 : j_at 58 12 = some (.iload_n 1, 0, 0, 0) := by decide +kernel
theorem at_58_13 : j_at 58 13 = some (.laload, 0, 0, 0) := by decide +kernel
theorem at_58_14 : j_at 58 14 = some (.lreturn, 0, 0, 0) := by decide +kernel
theorem at_58_15 : j_at 58 15 = some (.iload_n 2, 0, 0, 0) := by decide +kernel
theorem at_58_16 : j_at 58 16 = some (.aload_n 0, 0, 0, 0) := by decide +kernel
theorem at_58_17 : j_at 58 17 = some (.getfield 9, 5, 1, 0) := by decide +kernel
theorem at_58_20 : j_at 58 20 = some (.if_icmp .le 13, 33, 0, 0) := by decide +kernel
theorem at_58_23 : j_at 58 23 = some (.aload_n 0, 0, 0, 0) := by decide +kernel
theorem at_58_24 : j_at 58 24 = some (.getfield 19, 5, 5, 0) := by decide +kernel
theorem at_58_27 : j_at 58 27 = some (.iload_n 1, 0, 0, 0) := by decide +kernel
theorem at_58_28 : j_at 58 28 = some (.iaload, 0, 0, 0) := by decide +kernel
theorem at_58_29 : j_at 58 29 = some (.i2l, 0, 0, 0) := by decide +kernel
theorem at_58_30 : j_at 58 30 = some (.goto 13, 43, 0, 0) := by decide +kernel
theorem at_58_33 : j_at 58 33 = some (.aload_n 0, 0, 0, 0) := by decide +kernel
theorem at_58_34 : j_at 58 34 = some (.getfield 26, 5, 7, 0) := by decide +kernel
theorem at_58_37 : j_at 58 37 = some (.iload_n 1, 0, 0, 0) := by decide +kernel
theorem at_58_38 : j_at 58 38 = some (.iconst 5, 0, 0, 5) := by decide +kernel
theorem at_58_39 : j_at 58 39 = some (.imul, 0, 0, 0) := by decide +kernel
theorem at_58_40 : j_at 58 40 = some (.iload_n 2, 0, 0, 0) := by decide +kernel
theorem at_58_41 : j_at 58 41 = some (.iadd, 0, 0, 0) := by decide +kernel
theorem at_58_42 : j_at 58 42 = some (.laload, 0, 0, 0) := by decide +kernel
theorem at_58_43 : j_at 58 43 = some (.lreturn, 0, 0, 0) := by decide +kernel
theorem at_59_0 : j_at 59 0 = some (.iload_n 1, 0, 0, 0) := by decide +kernel
theorem at_59_1 : j_at 59 1 = some (.aload_n 0, 0, 0, 0) := by decide +kernel
theorem at_59_2 : j_at 59 2 = some (.getfield 9, 5, 1, 0) := by decide +kernel
theorem at_59_5 : j_at 59 5 = some (.if_icmp .ne 8, 13, 0, 0) := by decide +kernel
theorem at_59_8 : j_at 59 8 = some (.aload_n 0, 0, 0, 0) := by decide +kernel
theorem at_59_9 : j_at 59 9 = some (.getfield 56, 5, 3, 0) := by decide +kernel
theorem at_59_12 : j_at 59 12 = some (.lreturn, 0, 0, 0) := by decide +kernel
theorem at_59_13 : j_at 59 13 = some (.iload_n 1, 0, 0, 0) := by decide +kernel
theorem at_59_14 : j_at 59 14 = some (.aload_n 0, 0, 0, 0) := by decide +kernel
theorem at_59_15 : j_at 59 15 = some (.getfield 9, 5, 1, 0) := by decide +kernel
theorem at_59_18 : j_at 59 18 = some (.if_icmp .le 10, 28, 0, 0) := by decide +kernel
theorem at_59_21 : j_at 59 21 = some (.aload_n 0, 0, 0, 0) := by decide +kernel
theorem at_59_22 : j_at 59 22 = some (.getfield 15, 5, 4, 0) := by decide +kernel
theorem at_59_25 : j_at 59 25 = some (.goto 9, 34, 0, 0) := by decide +kernel
theorem at_59_28 : j_at 59 28 = some (.aload_n 0, 0, 0, 0) := by decide +kernel
theorem at_59_29 : j_at 59 29 = some (.getfield 33, 5, 9, 0) := by decide +kernel
theorem at_59_32 : j_at 59 32 = some (.iload_n 1, 0, 0, 0) := by decide +kernel
theorem at_59_33 : j_at 59 33 = some (.laload, 0, 0, 0) := by decide +kernel
theorem at_59_34 : j_at 59 34 = some (.lreturn, 0, 0, 0) := by decide +kernel
theorem at_61_0 : j_at 61 0 = some (.aload_n 0, 0, 0, 0) := by decide +kernel
theorem at_61_1 : j_at 61 1 = some (.getfield 9, 6, 0, 0) := by decide +kernel
theorem at_61_4 : j_at 61 4 = some (.iload_n 1, 0, 0, 0) := by decide +kernel
theorem at_61_5 : j_at 61 5 = some (.iload_n 2, 0, 0, 0) := by decide +kernel
theorem at_61_6 : j_at 61 6 = some (.iastore, 0, 0, 0) := by decide +kernel
theorem at_61_7 : j_at 61 7 = some (.aload_n 0, 0, 0, 0) := by decide +kernel
theorem at_61_8 : j_at 61 8 = some (.getfield 15, 6, 1, 0) := by decide +kernel
theorem at_61_11 : j_at 61 11 = some (.iload_n 1, 0, 0, 0) := by decide +kernel
theorem at_61_12 : j_at 61 12 = some (.iload_n 3, 0, 0, 0) := by decide +kernel
theorem at_61_13 : j_at 61 13 = some (.iastore, 0, 0, 0) := by decide +kernel
theorem at_61_14 : j_at 61 14 = some (.aload_n 0, 0, 0, 0) := by decide +kernel
theorem at_61_15 : j_at 61 15 = some (.getfield 20, 6, 2, 0) := by decide +kernel
theorem at_61_18 : j_at 61 18 = some (.iload_n 1, 0, 0, 0) := by decide +kernel
theorem at_61_19 : j_at 61 19 = some (.aaload, 0, 0, 0) := by decide +kernel
theorem at_61_20 : j_at 61 20 = some (.lconst 0, 0, 0, 0) := by decide +kernel
theorem at_61_21 : j_at 61 21 = some (.invokestatic 23, 269, 2, 0) := by decide +kernel
theorem at_61_24 : j_at 61 24 = some (.return_, 0, 0, 0) := by decide +kernel
theorem at_62_0 : j_at 62 0 = some (.iload_n 1, 0, 0, 0) := by decide +kernel
theorem at_62_1 : j_at 62 1 = some (.tableswitch 61 0 4 #[35, 40, 45, 61, 49], 0, 0, 0) := by decide +kernel
theorem at_62_36 : j_at 62 36 = some (.lload_n 2, 0, 0, 0) := by decide +kernel
theorem at_62_37 : j_at 62 37 = some (.l2i, 0, 0, 0) := by decide +kernel
theorem at_62_38 : j_at 62 38 = some (.i2b, 0, 0, 0) := by decide +kernel
theorem at_62_39 : j_at 62 39 = some (.i2l, 0, 0, 0) := by decide +kernel
theorem at_62_40 : j_at 62 40 = some (.lreturn, 0, 0, 0) := by decide +kernel
theorem at_62_41 : j_at 62 41 = some (.lload_n 2, 0, 0, 0) := by decide +kernel
theorem at_62_42 : j_at 62 42 = some (.l2i, 0, 0, 0) := by decide +kernel
theorem at_62_43 : j_at 62 43 = some (.i2s, 0, 0, 0) := by decide +kernel
theorem at_62_44 : j_at 62 44 = some (.i2l, 0, 0, 0) := by decide +kernel
theorem at_62_45 : j_at 62 45 = some (.lreturn, 0, 0, 0) := by decide +kernel
theorem at_62_46 : j_at 62 46 = some (.lload_n 2, 0, 0, 0) := by decide +kernel
theorem at_62_47 : j_at 62 47 = some (.l2i, 0, 0, 0) := by decide +kernel
theorem at_62_48 : j_at 62 48 = some (.i2l, 0, 0, 0) := by decide +kernel
theorem at_62_49 : j_at 62 49 = some (.lreturn, 0, 0, 0) := by decide +kernel
theorem at_62_50 : j_at 62 50 = some (.lload_n 2, 0, 0, 0) := by decide +kernel
theorem at_62_51 : j_at 62 51 = some (.lconst 0, 0, 0, 0) := by decide +kernel
theorem at_62_52 : j_at 62 52 = some (.lcmp, 0, 0, 0) := by decide +kernel
theorem at_62_53 : j_at 62 53 = some (.ifCond .eq 7, 60, 0, 0) := by decide +kernel
theorem at_62_56 : j_at 62 56 = some (.lconst 1, 0, 0, 1) := by decide +kernel
theorem at_62_57 : j_at 62 57 = some (.goto 4, 61, 0, 0) := by decide +kernel
theorem at_62_60 : j_at 62 60 = some (.lconst 0, 0, 0, 0) := by decide +kernel
theorem at_62_61 : j_at 62 61 = some (.lreturn, 0, 0, 0) := by decide +kernel
theorem at_62_62 : j_at 62 62 = some (.lload_n 2, 0, 0, 0) := by decide +kernel
theorem at_62_63 : j_at 62 63 = some (.lreturn, 0, 0, 0) := by decide +kernel
theorem at_63_0 : j_at 63 0 = some (.iload_n 3, 0, 0, 0) := by decide +kernel
theorem at_63_1 : j_at 63 1 = some (.ifCond .lt 33, 34, 0, 0) := by decide +kernel
theorem at_63_4 : j_at 63 4 = some (.iload_n 2, 0, 0, 0) := by decide +kernel
theorem at_63_5 : j_at 63 5 = some (.ifCond .lt 29, 34, 0, 0) := by decide +kernel
theorem at_63_8 : j_at 63 8 = some (.iload_n 3, 0, 0, 0) := by decide +kernel
theorem at_63_9 : j_at 63 9 = some (.aload_n 0, 0, 0, 0) := by decide +kernel
theorem at_63_10 : j_at 63 10 = some (.getfield 15, 6, 1, 0) := by decide +kernel
theorem at_63_13 : j_at 63 13 = some (.iload_n 1, 0, 0, 0) := by decide +kernel
theorem at_63_14 : j_at 63 14 = some (.iaload, 0, 0, 0) := by decide +kernel
theorem at_63_15 : j_at 63 15 = some (.if_icmp .gt 19, 34, 0, 0) := by decide +kernel
theorem at_63_18 : j_at 63 18 = some (.iload_n 2, 0, 0, 0) := by decide +kernel
theorem at_63_19 : j_at 63 19 = some (.aload_n 0, 0, 0, 0) := by decide +kernel
theorem at_63_20 : j_at 63 20 = some (.getfield 15, 6, 1, 0) := by decide +kernel
theorem at_63_23 : j_at 63 23 = some (.iload_n 1, 0, 0, 0) := by decide +kernel
theorem at_63_24 : j_at 63 24 = some (.iaload, 0, 0, 0) := by decide +kernel
theorem at_63_25 : j_at 63 25 = some (.iload_n 3, 0, 0, 0) := by decide +kernel
theorem at_63_26 : j_at 63 26 = some (.isub, 0, 0, 0) := by decide +kernel
theorem at_63_27 : j_at 63 27 = some (.if_icmp .gt 7, 34, 0, 0) := by decide +kernel
theorem at_63_30 : j_at 63 30 = some (.iconst 1, 0, 0, 1) := by decide +kernel
theorem at_63_31 : j_at 63 31 = some (.goto 4, 35, 0, 0) := by decide +kernel
theorem at_63_34 : j_at 63 34 = some (.iconst 0, 0, 0, 0) := by decide +kernel
theorem at_63_35 : j_at 63 35 = some (.ireturn, 0, 0, 0) := by decide +kernel
theorem at_65_0 : j_at 65 0 = some (.aload_n 0, 0, 0, 0) := by decide +kernel
theorem at_65_1 : j_at 65 1 = some (.iload_n 1, 0, 0, 0) := by decide +kernel
theorem at_65_2 : j_at 65 2 = some (.putfield 25, 7, 4, 0) := by decide +kernel
theorem at_65_5 : j_at 65 5 = some (.aload_n 0, 0, 0, 0) := by decide +kernel
theorem at_65_6 : j_at 65 6 = some (.iconst 0, 0, 0, 0) := by decide +kernel
theorem at_65_7 : j_at 65 7 = some (.putfield 29, 7, 3, 0) := by decide +kernel
theorem at_65_10 : j_at 65 10 = some (.aload_n 0, 0, 0, 0) := by decide +kernel
theorem at_65_11 : j_at 65 11 = some (.iconst 0, 0, 0, 0) := by decide +kernel
theorem at_65_12 : j_at 65 12 = some (.putfield 32, 7, 1, 0) := by decide +kernel
theorem at_65_15 : j_at 65 15 = some (.iconst 0, 0, 0, 0) := by decide +kernel
theorem at_65_16 : j_at 65 16 = some (.istore_n 2, 0, 0, 0) := by decide +kernel
theorem at_65_17 : j_at 65 17 = some (.iload_n 2, 0, 0, 0) := by decide +kernel
theorem at_65_18 : j_at 65 18 = some (.iconst 4, 0, 0, 4) := by decide +kernel
theorem at_65_19 : j_at 65 19 = some (.if_icmp .ge 66, 85, 0, 0) := by decide +kernel
theorem at_65_22 : j_at 65 22 = some (.aload_n 0, 0, 0, 0) := by decide +kernel
theorem at_65_23 : j_at 65 23 = some (.invokevirtual 35, 70, 0, 0) := by decide +kernel
theorem at_65_26 : j_at 65 26 = some (.ifCond .ne 8, 34, 0, 0) := by decide +kernel
theorem at_65_29 : j_at 65 29 = some (.aload_n 0, 0, 0, 0) := by decide +kernel
theorem at_65_30 : j_at 65 30 = some (.getfield 29, 7, 3, 0) := by decide +kernel
theorem at_65_33 : j_at 65 33 = some (.ireturn, 0, 0, 0) := by decide +kernel
theorem at_65_34 : j_at 65 34 = some (.aload_n 0, 0, 0, 0) := by decide +kernel
theorem at_65_35 : j_at 65 35 = some (.dup, 0, 0, 0) := by decide +kernel
theorem at_65_36 : j_at 65 36 = some (.getfield 32, 7, 1, 0) := by decide +kernel
theorem at_65_39 : j_at 65 39 = some (.iconst 1, 0, 0, 1) := by decide +kernel
theorem at_65_40 : j_at 65 40 = some (.iadd, 0, 0, 0) := by decide +kernel
theorem at_65_41 : j_at 65 41 = some (.putfield 32, 7, 1, 0) := by decide +kernel
theorem at_65_44 : j_at 65 44 = some (.aload_n 0, 0, 0, 0) := by decide +kernel
theorem at_65_45 : j_at 65 45 = some (.getfield 29, 7, 3, 0) := by decide +kernel
theorem at_65_48 : j_at 65 48 = some (.aload_n 0, 0, 0, 0) := by decide +kernel
theorem at_65_49 : j_at 65 49 = some (.getfield 39, 7, 0, 0) := by decide +kernel
theorem at_65_52 : j_at 65 52 = some (.if_icmp .lt 5, 57, 0, 0) := by decide +kernel
theorem at_65_55 : j_at 65 55 = some (.iconst (-1), 0, 0, -1) := by decide +kernel
theorem at_65_56 : j_at 65 56 = some (.ireturn, 0, 0, 0) := by decide +kernel
theorem at_65_57 : j_at 65 57 = some (.aload_n 0, 0, 0, 0) := by decide +kernel
theorem at_65_58 : j_at 65 58 = some (.getfield 32, 7, 1, 0) := by decide +kernel
theorem at_65_61 : j_at 65 61 = some (.iconst 4, 0, 0, 4) := by decide +kernel
theorem at_65_62 : j_at 65 62 = some (.if_icmp .eq 12, 74, 0, 0) := by decide +kernel
theorem at_65_65 : j_at 65 65 = some (.aload_n 0, 0, 0, 0) := by decide +kernel
theorem at_65_66 : j_at 65 66 = some (.bipush 59, 0, 0, 59) := by decide +kernel
theorem at_65_68 : j_at 65 68 = some (.invokevirtual 42, 68, 1, 0) := by decide +kernel
theorem at_65_71 : j_at 65 71 = some (.ifCond .ne 8, 79, 0, 0) := by decide +kernel
theorem at_65_74 : j_at 65 74 = some (.aload_n 0, 0, 0, 0) := by decide +kernel
theorem at_65_75 : j_at 65 75 = some (.getfield 29, 7, 3, 0) := by decide +kernel
theorem at_65_78 : j_at 65 78 = some (.ireturn, 0, 0, 0) := by decide +kernel
theorem at_65_79 : j_at 65 79 = some (.iinc 2 1, 0, 0, 0) := by decide +kernel
theorem at_65_82 : j_at 65 82 = some (.goto (-65), 17, 0, 0) := by decide +kernel
theorem at_65_85 : j_at 65 85 = some (.aload_n 0, 0, 0, 0) := by decide +kernel
theorem at_65_86 : j_at 65 86 = some (.getfield 29, 7, 3, 0) := by decide +kernel
theorem at_65_89 : j_at 65 89 = some (.ireturn, 0, 0, 0) := by decide +kernel
theorem at_66_0 : j_at 66 0 = some (.iconst 0, 0, 0, 0) := by decide +kernel
theorem at_66_1 : j_at 66 1 = some (.istore_n 2, 0, 0, 0) := by decide +kernel
theorem at_66_2 : j_at 66 2 = some (.iload_n 2, 0, 0, 0) := by decide +kernel
theorem at_66_3 : j_at 66 3 = some (.aload_n 0, 0, 0, 0) := by decide +kernel
theorem at_66_4 : j_at 66 4 = some (.getfield 32, 7, 1, 0) := by decide +kernel
theorem at_66_7 : j_at 66 7 = some (.if_icmp .ge 62, 69, 0, 0) := by decide +kernel
theorem at_66_10 : j_at 66 10 = some (.aload_n 1, 0, 0, 0) := by decide +kernel
theorem at_66_11 : j_at 66 11 = some (.aload_n 0, 0, 0, 0) := by decide +kernel
theorem at_66_12 : j_at 66 12 = some (.getfield 15, 7, 5, 0) := by decide +kernel
theorem at_66_15 : j_at 66 15 = some (.iload_n 2, 0, 0, 0) := by decide +kernel
theorem at_66_16 : j_at 66 16 = some (.iaload, 0, 0, 0) := by decide +kernel
theorem at_66_17 : j_at 66 17 = some (.aload_n 0, 0, 0, 0) := by decide +kernel
theorem at_66_18 : j_at 66 18 = some (.getfield 19, 7, 6, 0) := by decide +kernel
theorem at_66_21 : j_at 66 21 = some (.iload_n 2, 0, 0, 0) := by decide +kernel
theorem at_66_22 : j_at 66 22 = some (.iaload, 0, 0, 0) := by decide +kernel
theorem at_66_23 : j_at 66 23 = some (.invokevirtual 46, 10, 2, 0) := by decide +kernel
theorem at_66_26 : j_at 66 26 = some (.iconst 0, 0, 0, 0) := by decide +kernel
theorem at_66_27 : j_at 66 27 = some (.istore_n 3, 0, 0, 0) := by decide +kernel
theorem at_66_28 : j_at 66 28 = some (.iload_n 3, 0, 0, 0) := by decide +kernel
theorem at_66_29 : j_at 66 29 = some (.aload_n 1, 0, 0, 0) := by decide +kernel
theorem at_66_30 : j_at 66 30 = some (.getfield 52, 1, 0, 0) := by decide +kernel
theorem at_66_33 : j_at 66 33 = some (.if_icmp .ge 30, 63, 0, 0) := by decide +kernel
theorem at_66_36 : j_at 66 36 = some (.aload_n 1, 0, 0, 0) := by decide +kernel
theorem at_66_37 : j_at 66 37 = some (.aload_n 1, 0, 0, 0) := by decide +kernel
theorem at_66_38 : j_at 66 38 = some (.getfield 55, 1, 1, 0) := by decide +kernel
theorem at_66_41 : j_at 66 41 = some (.iconst 1, 0, 0, 1) := by decide +kernel
theorem at_66_42 : j_at 66 42 = some (.isub, 0, 0, 0) := by decide +kernel
theorem at_66_43 : j_at 66 43 = some (.iload_n 3, 0, 0, 0) := by decide +kernel
theorem at_66_44 : j_at 66 44 = some (.aload_n 0, 0, 0, 0) := by decide +kernel
theorem at_66_45 : j_at 66 45 = some (.getfield 22, 7, 7, 0) := by decide +kernel
theorem at_66_48 : j_at 66 48 = some (.iload_n 2, 0, 0, 0) := by decide +kernel
theorem at_66_49 : j_at 66 49 = some (.iconst 5, 0, 0, 5) := by decide +kernel
theorem at_66_50 : j_at 66 50 = some (.imul, 0, 0, 0) := by decide +kernel
theorem at_66_51 : j_at 66 51 = some (.iload_n 3, 0, 0, 0) := by decide +kernel
theorem at_66_52 : j_at 66 52 = some (.iadd, 0, 0, 0) := by decide +kernel
theorem at_66_53 : j_at 66 53 = some (.iaload, 0, 0, 0) := by decide +kernel
theorem at_66_54 : j_at 66 54 = some (.invokevirtual 58, 12, 3, 0) := by decide +kernel
theorem at_66_57 : j_at 66 57 = some (.iinc 3 1, 0, 0, 0) := by decide +kernel
theorem at_66_60 : j_at 66 60 = some (.goto (-32), 28, 0, 0) := by decide +kernel
theorem at_66_63 : j_at 66 63 = some (.iinc 2 1, 0, 0, 0) := by decide +kernel
theorem at_66_66 : j_at 66 66 = some (.goto (-64), 2, 0, 0) := by decide +kernel
theorem at_66_69 : j_at 66 69 = some (.return_, 0, 0, 0) := by decide +kernel
theorem at_67_0 : j_at 67 0 = some (.aload_n 0, 0, 0, 0) := by decide +kernel
theorem at_67_1 : j_at 67 1 = some (.getfield 29, 7, 3, 0) := by decide +kernel
theorem at_67_4 : j_at 67 4 = some (.aload_n 0, 0, 0, 0) := by decide +kernel
theorem at_67_5 : j_at 67 5 = some (.getfield 39, 7, 0, 0) := by decide +kernel
theorem at_67_8 : j_at 67 8 = some (.if_icmp .ge 15, 23, 0, 0) := by decide +kernel
theorem at_67_11 : j_at 67 11 = some (.aload_n 0, 0, 0, 0) := by decide +kernel
theorem at_67_12 : j_at 67 12 = some (.getfield 9, 7, 2, 0) := by decide +kernel
theorem at_67_15 : j_at 67 15 = some (.aload_n 0, 0, 0, 0) := by decide +kernel
theorem at_67_16 : j_at 67 16 = some (.getfield 29, 7, 3, 0) := by decide +kernel
theorem at_67_19 : j_at 67 19 = some (.baload, 0, 0, 0) := by decide +kernel
theorem at_67_20 : j_at 67 20 = some (.goto 4, 24, 0, 0) := by decide +kernel
theorem at_67_23 : j_at 67 23 = some (.iconst (-1), 0, 0, -1) := by decide +kernel
theorem at_67_24 : j_at 67 24 = some (.ireturn, 0, 0, 0) := by decide +kernel
theorem at_68_0 : j_at 68 0 = some (.aload_n 0, 0, 0, 0) := by decide +kernel
theorem at_68_1 : j_at 68 1 = some (.invokevirtual 62, 67, 0, 0) := by decide +kernel
theorem at_68_4 : j_at 68 4 = some (.iload_n 1, 0, 0, 0) := by decide +kernel
theorem at_68_5 : j_at 68 5 = some (.if_icmp .eq 5, 10, 0, 0) := by decide +kernel
theorem at_68_8 : j_at 68 8 = some (.iconst 0, 0, 0, 0) := by decide +kernel
theorem at_68_9 : j_at 68 9 = some (.ireturn, 0, 0, 0) := by decide +kernel
theorem at_68_10 : j_at 68 10 = some (.aload_n 0, 0, 0, 0) := by decide +kernel
theorem at_68_11 : j_at 68 11 = some (.dup, 0, 0, 0) := by decide +kernel
theorem at_68_12 : j_at 68 12 = some (.getfield 29, 7, 3, 0) := by decide +kernel
theorem at_68_15 : j_at 68 15 = some (.iconst 1, 0, 0, 1) := by decide +kernel
theorem at_68_16 : j_at 68 16 = some (.iadd, 0, 0, 0) := by decide +kernel
theorem at_68_17 : j_at 68 17 = some (.putfield 29, 7, 3, 0) := by decide +kernel
theorem at_68_20 : j_at 68 20 = some (.iconst 1, 0, 0, 1) := by decide +kernel
theorem at_68_21 : j_at 68 21 = some (.ireturn, 0, 0, 0) := by decide +kernel
theorem at_69_0 : j_at 69 0 = some (.aload_n 0, 0, 0, 0) := by decide +kernel
theorem at_69_1 : j_at 69 1 = some (.invokevirtual 62, 67, 0, 0) := by decide +kernel
theorem at_69_4 : j_at 69 4 = some (.bipush 48, 0, 0, 48) := by decide +kernel
theorem at_69_6 : j_at 69 6 = some (.if_icmp .lt 16, 22, 0, 0) := by decide +kernel
theorem at_69_9 : j_at 69 9 = some (.aload_n 0, 0, 0, 0) := by decide +kernel
theorem at_69_10 : j_at 69 10 = some (.invokevirtual 62, 67, 0, 0) := by decide +kernel
theorem at_69_13 : j_at 69 13 = some (.bipush 57, 0, 0, 57) := by decide +kernel
theorem at_69_15 : j_at 69 15 = some (.if_icmp .gt 7, 22, 0, 0) := by decide +kernel
theorem at_69_18 : j_at 69 18 = some (.iconst 1, 0, 0, 1) := by decide +kernel
theorem at_69_19 : j_at 69 19 = some (.goto 4, 23, 0, 0) := by decide +kernel
theorem at_69_22 : j_at 69 22 = some (.iconst 0, 0, 0, 0) := by decide +kernel
theorem at_69_23 : j_at 69 23 = some (.ireturn, 0, 0, 0) := by decide +kernel
theorem at_70_0 : j_at 70 0 = some (.iconst 0, 0, 0, 0) := by decide +kernel
theorem at_70_1 : j_at 70 1 = some (.istore_n 1, 0, 0, 0) := by decide +kernel
theorem at_70_2 : j_at 70 2 = some (.iload_n 1, 0, 0, 0) := by decide +kernel
theorem at_70_3 : j_at 70 3 = some (.iconst 5, 0, 0, 5) := by decide +kernel
theorem at_70_4 : j_at 70 4 = some (.if_icmp .ge 23, 27, 0, 0) := by decide +kernel
theorem at_70_7 : j_at 70 7 = some (.aload_n 0, 0, 0, 0) := by decide +kernel
theorem at_70_8 : j_at 70 8 = some (.getfield 22, 7, 7, 0) := by decide +kernel
theorem at_70_11 : j_at 70 11 = some (.aload_n 0, 0, 0, 0) := by decide +kernel
theorem at_70_12 : j_at 70 12 = some (.getfield 32, 7, 1, 0) := by decide +kernel
theorem at_70_15 : j_at 70 15 = some (.iconst 5, 0, 0, 5) := by decide +kernel
theorem at_70_16 : j_at 70 16 = some (.imul, 0, 0, 0) := by decide +kernel
theorem at_70_17 : j_at 70 17 = some (.iload_n 1, 0, 0, 0) := by decide +kernel
theorem at_70_18 : j_at 70 18 = some (.iadd, 0, 0, 0) := by decide +kernel
theorem at_70_19 : j_at 70 19 = some (.iconst 0, 0, 0, 0) := by decide +kernel
theorem at_70_20 : j_at 70 20 = some (.iastore, 0, 0, 0) := by decide +kernel
theorem at_70_21 : j_at 70 21 = some (.iinc 1 1, 0, 0, 0) := by decide +kernel
theorem at_70_24 : j_at 70 24 = some (.goto (-22), 2, 0, 0) := by decide +kernel
theorem at_70_27 : j_at 70 27 = some (.aload_n 0, 0, 0, 0) := by decide +kernel
theorem at_70_28 : j_at 70 28 = some (.aload_n 0, 0, 0, 0) := by decide +kernel
theorem at_70_29 : j_at 70 29 = some (.bipush 45, 0, 0, 45) := by decide +kernel
theorem at_70_31 : j_at 70 31 = some (.invokevirtual 42, 68, 1, 0) := by decide +kernel
theorem at_70_34 : j_at 70 34 = some (.invokevirtual 66, 71, 1, 0) := by decide +kernel
theorem at_70_37 : j_at 70 37 = some (.ifCond .ne 5, 42, 0, 0) := by decide +kernel
theorem at_70_40 : j_at 70 40 = some (.iconst 0, 0, 0, 0) := by decide +kernel
theorem at_70_41 : j_at 70 41 = some (.ireturn, 0, 0, 0) := by decide +kernel
theorem at_70_42 : j_at 70 42 = some (.iconst 0, 0, 0, 0) := by decide +kernel
theorem at_70_43 : j_at 70 43 = some (.istore_n 1, 0, 0, 0) := by decide +kernel
theorem at_70_44 : j_at 70 44 = some (.iload_n 1, 0, 0, 0) := by decide +kernel
theorem at_70_45 : j_at 70 45 = some (.bipush 80, 0, 0, 80) := by decide +kernel
theorem at_70_47 : j_at 70 47 = some (.if_icmp .ge 62, 109, 0, 0) := by decide +kernel
theorem at_70_50 : j_at 70 50 = some (.aload_n 0, 0, 0, 0) := by decide +kernel
theorem at_70_51 : j_at 70 51 = some (.invokevirtual 62, 67, 0, 0) := by decide +kernel
theorem at_70_54 : j_at 70 54 = some (.bipush 43, 0, 0, 43) := by decide +kernel
theorem at_70_56 : j_at 70 56 = some (.if_icmp .eq 12, 68, 0, 0) := by decide +kernel
theorem at_70_59 : j_at 70 59 = some (.aload_n 0, 0, 0, 0) := by decide +kernel
theorem at_70_60 : j_at 70 60 = some (.invokevirtual 62, 67, 0, 0) := by decide +kernel
theorem at_70_63 : j_at 70 63 = some (.bipush 45, 0, 0, 45) := by decide +kernel
theorem at_70_65 : j_at 70 65 = some (.if_icmp .ne 44, 109, 0, 0) := by decide +kernel
theorem at_70_68 : j_at 70 68 = some (.aload_n 0, 0, 0, 0) := by decide +kernel
theorem at_70_69 : j_at 70 69 = some (.invokevirtual 62, 67, 0, 0) := by decide +kernel
theorem at_70_72 : j_at 70 72 = some (.bipush 45, 0, 0, 45) := by decide +kernel
theorem at_70_74 : j_at 70 74 = some (.if_icmp .ne 7, 81, 0, 0) := by decide +kernel
theorem at_70_77 : j_at 70 77 = some (.iconst 1, 0, 0, 1) := by decide +kernel
theorem at_70_78 : j_at 70 78 = some (.goto 4, 82, 0, 0) := by decide +kernel
theorem at_70_81 : j_at 70 81 = some (.iconst 0, 0, 0, 0) := by decide +kernel
theorem at_70_82 : j_at 70 82 = some (.istore_n 2, 0, 0, 0) := by decide +kernel
theorem at_70_83 : j_at 70 83 = some (.aload_n 0, 0, 0, 0) := by decide +kernel
theorem at_70_84 : j_at 70 84 = some (.dup, 0, 0, 0) := by decide +kernel
theorem at_70_85 : j_at 70 85 = some (.getfield 29, 7, 3, 0) := by decide +kernel
theorem at_70_88 : j_at 70 88 = some (.iconst 1, 0, 0, 1) := by decide +kernel
theorem at_70_89 : j_at 70 89 = some (.iadd, 0, 0, 0) := by decide +kernel
theorem at_70_90 : j_at 70 90 = some (.putfield 29, 7, 3, 0) := by decide +kernel
theorem at_70_93 : j_at 70 93 = some (.aload_n 0, 0, 0, 0) := by decide +kernel
theorem at_70_94 : j_at 70 94 = some (.iload_n 2, 0, 0, 0) := by decide +kernel
theorem at_70_95 : j_at 70 95 = some (.invokevirtual 66, 71, 1, 0) := by decide +kernel
theorem at_70_98 : j_at 70 98 = some (.ifCond .ne 5, 103, 0, 0) := by decide +kernel
theorem at_70_101 : j_at 70 101 = some (.iconst 0, 0, 0, 0) := by decide +kernel
theorem at_70_102 : j_at 70 102 = some (.ireturn, 0, 0, 0) := by decide +kernel
theorem at_70_103 : j_at 70 103 = some (.iinc 1 1, 0, 0, 0) := by decide +kernel
theorem at_70_106 : j_at 70 106 = some (.goto (-62), 44, 0, 0) := by decide +kernel
theorem at_70_109 : j_at 70 109 = some (.aload_n 0, 0, 0, 0) := by decide +kernel
theorem at_70_110 : j_at 70 110 = some (.invokevirtual 62, 67, 0, 0) := by decide +kernel
theorem at_70_113 : j_at 70 113 = some (.bipush 62, 0, 0, 62) := by decide +kernel
theorem at_70_115 : j_at 70 115 = some (.if_icmp .eq 14, 129, 0, 0) := by decide +kernel
theorem at_70_118 : j_at 70 118 = some (.aload_n 0, 0, 0, 0) := by decide +kernel
theorem at_70_119 : j_at 70 119 = some (.invokevirtual 62, 67, 0, 0) := by decide +kernel
theorem at_70_122 : j_at 70 122 = some (.bipush 60, 0, 0, 60) := by decide +kernel
theorem at_70_124 : j_at 70 124 = some (.if_icmp .eq 5, 129, 0, 0) := by decide +kernel
theorem at_70_127 : j_at 70 127 = some (.iconst 0, 0, 0, 0) := by decide +kernel
theorem at_70_128 : j_at 70 128 = some (.ireturn, 0, 0, 0) := by decide +kernel
theorem at_70_129 : j_at 70 129 = some (.aload_n 0, 0, 0, 0) := by decide +kernel
theorem at_70_130 : j_at 70 130 = some (.getfield 15, 7, 5, 0) := by decide +kernel
theorem at_70_133 : j_at 70 133 = some (.aload_n 0, 0, 0, 0) := by decide +kernel
theorem at_70_134 : j_at 70 134 = some (.getfield 32, 7, 1, 0) := by decide +kernel
theorem at_70_137 : j_at 70 137 = some (.aload_n 0, 0, 0, 0) := by decide +kernel
theorem at_70_138 : j_at 70 138 = some (.invokevirtual 62, 67, 0, 0) := by decide +kernel
theorem at_70_141 : j_at 70 141 = some (.bipush 62, 0, 0, 62) := by decide +kernel
theorem at_70_143 : j_at 70 143 = some (.if_icmp .ne 7, 150, 0, 0) := by decide +kernel
theorem at_70_146 : j_at 70 146 = some (.iconst 0, 0, 0, 0) := by decide +kernel
theorem at_70_147 : j_at 70 147 = some (.goto 4, 151, 0, 0) := by decide +kernel
theorem at_70_150 : j_at 70 150 = some (.iconst 1, 0, 0, 1) := by decide +kernel
theorem at_70_151 : j_at 70 151 = some (.iastore, 0, 0, 0) := by decide +kernel
theorem at_70_152 : j_at 70 152 = some (.aload_n 0, 0, 0, 0) := by decide +kernel
theorem at_70_153 : j_at 70 153 = some (.dup, 0, 0, 0) := by decide +kernel
theorem at_70_154 : j_at 70 154 = some (.getfield 29, 7, 3, 0) := by decide +kernel
theorem at_70_157 : j_at 70 157 = some (.iconst 1, 0, 0, 1) := by decide +kernel
theorem at_70_158 : j_at 70 158 = some (.iadd, 0, 0, 0) := by decide +kernel
theorem at_70_159 : j_at 70 159 = some (.putfield 29, 7, 3, 0) := by decide +kernel
theorem at_70_162 : j_at 70 162 = some (.aload_n 0, 0, 0, 0) := by decide +kernel
theorem at_70_163 : j_at 70 163 = some (.aload_n 0, 0, 0, 0) := by decide +kernel
theorem at_70_164 : j_at 70 164 = some (.bipush 45, 0, 0, 45) := by decide +kernel
theorem at_70_166 : j_at 70 166 = some (.invokevirtual 42, 68, 1, 0) := by decide +kernel
theorem at_70_169 : j_at 70 169 = some (.invokevirtual 70, 72, 1, 0) := by decide +kernel
theorem at_70_172 : j_at 70 172 = some (.ireturn, 0, 0, 0) := by decide +kernel
theorem at_71_0 : j_at 71 0 = some (.iconst 1, 0, 0, 1) := by decide +kernel
theorem at_71_1 : j_at 71 1 = some (.istore_n 2, 0, 0, 0) := by decide +kernel
theorem at_71_2 : j_at 71 2 = some (.aload_n 0, 0, 0, 0) := by decide +kernel
theorem at_71_3 : j_at 71 3 = some (.invokevirtual 73, 69, 0, 0) := by decide +kernel
theorem at_71_6 : j_at 71 6 = some (.ifCond .eq 21, 27, 0, 0) := by decide +kernel
theorem at_71_9 : j_at 71 9 = some (.aload_n 0, 0, 0, 0) := by decide +kernel
theorem at_71_10 : j_at 71 10 = some (.invokevirtual 62, 67, 0, 0) := by decide +kernel
theorem at_71_13 : j_at 71 13 = some (.bipush 48, 0, 0, 48) := by decide +kernel
theorem at_71_15 : j_at 71 15 = some (.isub, 0, 0, 0) := by decide +kernel
theorem at_71_16 : j_at 71 16 = some (.istore_n 2, 0, 0, 0) := by decide +kernel
theorem at_71_17 : j_at 71 17 = some (.aload_n 0, 0, 0, 0) := by decide +kernel
theorem at_71_18 : j_at 71 18 = some (.dup, 0, 0, 0) := by decide +kernel
theorem at_71_19 : j_at 71 19 = some (.getfield 29, 7, 3, 0) := by decide +kernel
theorem at_71_22 : j_at 71 22 = some (.iconst 1, 0, 0, 1) := by decide +kernel
theorem at_71_23 : j_at 71 23 = some (.iadd, 0, 0, 0) := by decide +kernel
theorem at_71_24 : j_at 71 24 = some (.putfield 29, 7, 3, 0) := by decide +kernel
theorem at_71_27 : j_at 71 27 = some (.aload_n 0, 0, 0, 0) := by decide +kernel
theorem at_71_28 : j_at 71 28 = some (.invokevirtual 62, 67, 0, 0) := by decide +kernel
theorem at_71_31 : j_at 71 31 = some (.bipush 97, 0, 0, 97) := by decide +kernel
theorem at_71_33 : j_at 71 33 = some (.isub, 0, 0, 0) := by decide +kernel
theorem at_71_34 : j_at 71 34 = some (.istore_n 3, 0, 0, 0) := by decide +kernel
theorem at_71_35 : j_at 71 35 = some (.iload_n 3, 0, 0, 0) := by decide +kernel
theorem at_71_36 : j_at 71 36 = some (.ifCond .lt 11, 47, 0, 0) := by decide +kernel
theorem at_71_39 : j_at 71 39 = some (.iload_n 3, 0, 0, 0) := by decide +kernel
theorem at_71_40 : j_at 71 40 = some (.aload_n 0, 0, 0, 0) := by decide +kernel
theorem at_71_41 : j_at 71 41 = some (.getfield 25, 7, 4, 0) := by decide +kernel
theorem at_71_44 : j_at 71 44 = some (.if_icmp .lt 5, 49, 0, 0) := by decide +kernel
theorem at_71_47 : j_at 71 47 = some (.iconst 0, 0, 0, 0) := by decide +kernel
theorem at_71_48 : j_at 71 48 = some (.ireturn, 0, 0, 0) := by decide +kernel
theorem at_71_49 : j_at 71 49 = some (.aload_n 0, 0, 0, 0) := by decide +kernel
theorem at_71_50 : j_at 71 50 = some (.getfield 22, 7, 7, 0) := by decide +kernel
theorem at_71_53 : j_at 71 53 = some (.aload_n 0, 0, 0, 0) := by decide +kernel
theorem at_71_54 : j_at 71 54 = some (.getfield 32, 7, 1, 0) := by decide +kernel
theorem at_71_57 : j_at 71 57 = some (.iconst 5, 0, 0, 5) := by decide +kernel
theorem at_71_58 : j_at 71 58 = some (.imul, 0, 0, 0) := by decide +kernel
theorem at_71_59 : j_at 71 59 = some (.iload_n 3, 0, 0, 0) := by decide +kernel
theorem at_71_60 : j_at 71 60 = some (.iadd, 0, 0, 0) := by decide +kernel
theorem at_71_61 : j_at 71 61 = some (.iaload, 0, 0, 0) := by decide +kernel
theorem at_71_62 : j_at 71 62 = some (.iload_n 1, 0, 0, 0) := by decide +kernel
theorem at_71_63 : j_at 71 63 = some (.ifCond .eq 8, 71, 0, 0) := by decide +kernel
theorem at_71_66 : j_at 71 66 = some (.iload_n 2, 0, 0, 0) := by decide +kernel
theorem at_71_67 : j_at 71 67 = some (.ineg, 0, 0, 0) := by decide +kernel
theorem at_71_68 : j_at 71 68 = some (.goto 4, 72, 0, 0) := by decide +kernel
theorem at_71_71 : j_at 71 71 = some (.iload_n 2, 0, 0, 0) := by decide +kernel
theorem at_71_72 : j_at 71 72 = some (.iadd, 0, 0, 0) := by decide +kernel
theorem at_71_73 : j_at 71 73 = some (.istore 4, 0, 0, 0) := by decide +kernel
theorem at_71_75 : j_at 71 75 = some (.iload 4, 0, 0, 0) := by decide +kernel
theorem at_71_77 : j_at 71 77 = some (.invokestatic 76, 140, 1, 0) := by decide +kernel
theorem at_71_80 : j_at 71 80 = some (.ifCond .ne 5, 85, 0, 0) := by decide +kernel
theorem at_71_83 : j_at 71 83 = some (.iconst 0, 0, 0, 0) := by decide +kernel
theorem at_71_84 : j_at 71 84 = some (.ireturn, 0, 0, 0) := by decide +kernel
theorem at_71_85 : j_at 71 85 = some (.aload_n 0, 0, 0, 0) := by decide +kernel
theorem at_71_86 : j_at 71 86 = some (.getfield 22, 7, 7, 0) := by decide +kernel
theorem at_71_89 : j_at 71 89 = some (.aload_n 0, 0, 0, 0) := by decide +kernel
theorem at_71_90 : j_at 71 90 = some (.getfield 32, 7, 1, 0) := by decide +kernel
theorem at_71_93 : j_at 71 93 = some (.iconst 5, 0, 0, 5) := by decide +kernel
theorem at_71_94 : j_at 71 94 = some (.imul, 0, 0, 0) := by decide +kernel
theorem at_71_95 : j_at 71 95 = some (.iload_n 3, 0, 0, 0) := by decide +kernel
theorem at_71_96 : j_at 71 96 = some (.iadd, 0, 0, 0) := by decide +kernel
theorem at_71_97 : j_at 71 97 = some (.iload 4, 0, 0, 0) := by decide +kernel
theorem at_71_99 : j_at 71 99 = some (.iastore, 0, 0, 0) := by decide +kernel
theorem at_71_100 : j_at 71 100 = some (.aload_n 0, 0, 0, 0) := by decide +kernel
theorem at_71_101 : j_at 71 101 = some (.dup, 0, 0, 0) := by decide +kernel
theorem at_71_102 : j_at 71 102 = some (.getfield 29, 7, 3, 0) := by decide +kernel
theorem at_71_105 : j_at 71 105 = some (.iconst 1, 0, 0, 1) := by decide +kernel
theorem at_71_106 : j_at 71 106 = some (.iadd, 0, 0, 0) := by decide +kernel
theorem at_71_107 : j_at 71 107 = some (.putfield 29, 7, 3, 0) := by decide +kernel
theorem at_71_110 : j_at 71 110 = some (.iconst 1, 0, 0, 1) := by decide +kernel
theorem at_71_111 : j_at 71 111 = some (.ireturn, 0, 0, 0) := by decide +kernel
theorem at_72_0 : j_at 72 0 = some (.iconst 0, 0, 0, 0) := by decide +kernel
theorem at_72_1 : j_at 72 1 = some (.istore_n 2, 0, 0, 0) := by decide +kernel
theorem at_72_2 : j_at 72 2 = some (.iconst 0, 0, 0, 0) := by decide +kernel
theorem at_72_3 : j_at 72 3 = some (.istore_n 3, 0, 0, 0) := by decide +kernel
theorem at_72_4 : j_at 72 4 = some (.iload_n 3, 0, 0, 0) := by decide +kernel
theorem at_72_5 : j_at 72 5 = some (.iconst 3, 0, 0, 3) := by decide +kernel
theorem at_72_6 : j_at 72 6 = some (.if_icmp .ge 52, 58, 0, 0) := by decide +kernel
theorem at_72_9 : j_at 72 9 = some (.aload_n 0, 0, 0, 0) := by decide +kernel
theorem at_72_10 : j_at 72 10 = some (.invokevirtual 73, 69, 0, 0) := by decide +kernel
theorem at_72_13 : j_at 72 13 = some (.ifCond .eq 45, 58, 0, 0) := by decide +kernel
theorem at_72_16 : j_at 72 16 = some (.iload_n 2, 0, 0, 0) := by decide +kernel
theorem at_72_17 : j_at 72 17 = some (.bipush 10, 0, 0, 10) := by decide +kernel
theorem at_72_19 : j_at 72 19 = some (.imul, 0, 0, 0) := by decide +kernel
theorem at_72_20 : j_at 72 20 = some (.aload_n 0, 0, 0, 0) := by decide +kernel
theorem at_72_21 : j_at 72 21 = some (.invokevirtual 62, 67, 0, 0) := by decide +kernel
theorem at_72_24 : j_at 72 24 = some (.iadd, 0, 0, 0) := by decide +kernel
theorem at_72_25 : j_at 72 25 = some (.bipush 48, 0, 0, 48) := by decide +kernel
theorem at_72_27 : j_at 72 27 = some (.isub, 0, 0, 0) := by decide +kernel
theorem at_72_28 : j_at 72 28 = some (.istore_n 2, 0, 0, 0) := by decide +kernel
theorem at_72_29 : j_at 72 29 = some (.iload_n 1, 0, 0, 0) := by decide +kernel
theorem at_72_30 : j_at 72 30 = some (.ifCond .eq 12, 42, 0, 0) := by decide +kernel
theorem at_72_33 : j_at 72 33 = some (.iload_n 2, 0, 0, 0) := by decide +kernel
theorem at_72_34 : j_at 72 34 = some (.ineg, 0, 0, 0) := by decide +kernel
theorem at_72_35 : j_at 72 35 = some (.bipush (-99), 0, 0, -99) := by decide +kernel
theorem at_72_37 : j_at 72 37 = some (.if_icmp .ge 5, 42, 0, 0) := by decide +kernel
theorem at_72_40 : j_at 72 40 = some (.iconst 0, 0, 0, 0) := by decide +kernel
theorem at_72_41 : j_at 72 41 = some (.ireturn, 0, 0, 0) := by decide +kernel
theorem at_72_42 : j_at 72 42 = some (.aload_n 0, 0, 0, 0) := by decide +kernel
theorem at_72_43 : j_at 72 43 = some (.dup, 0, 0, 0) := by decide +kernel
theorem at_72_44 : j_at 72 44 = some (.getfield 29, 7, 3, 0) := by decide +kernel
theorem at_72_47 : j_at 72 47 = some (.iconst 1, 0, 0, 1) := by decide +kernel
theorem at_72_48 : j_at 72 48 = some (.iadd, 0, 0, 0) := by decide +kernel
theorem at_72_49 : j_at 72 49 = some (.putfield 29, 7, 3, 0) := by decide +kernel
theorem at_72_52 : j_at 72 52 = some (.iinc 3 1, 0, 0, 0) := by decide +kernel
theorem at_72_55 : j_at 72 55 = some (.goto (-51), 4, 0, 0) := by decide +kernel
theorem at_72_58 : j_at 72 58 = some (.aload_n 0, 0, 0, 0) := by decide +kernel
theorem at_72_59 : j_at 72 59 = some (.getfield 19, 7, 6, 0) := by decide +kernel
theorem at_72_62 : j_at 72 62 = some (.aload_n 0, 0, 0, 0) := by decide +kernel
theorem at_72_63 : j_at 72 63 = some (.getfield 32, 7, 1, 0) := by decide +kernel
theorem at_72_66 : j_at 72 66 = some (.iload_n 1, 0, 0, 0) := by decide +kernel
theorem at_72_67 : j_at 72 67 = some (.ifCond .eq 8, 75, 0, 0) := by decide +kernel
theorem at_72_70 : j_at 72 70 = some (.iload_n 2, 0, 0, 0) := by decide +kernel
theorem at_72_71 : j_at 72 71 = some (.ineg, 0, 0, 0) := by decide +kernel
theorem at_72_72 : j_at 72 72 = some (.goto 4, 76, 0, 0) := by decide +kernel
theorem at_72_75 : j_at 72 75 = some (.iload_n 2, 0, 0, 0) := by decide +kernel
theorem at_72_76 : j_at 72 76 = some (.iastore, 0, 0, 0) := by decide +kernel
theorem at_72_77 : j_at 72 77 = some (.iload_n 3, 0, 0, 0) := by decide +kernel
theorem at_72_78 : j_at 72 78 = some (.ifCond .le 7, 85, 0, 0) := by decide +kernel
theorem at_72_81 : j_at 72 81 = some (.iconst 1, 0, 0, 1) := by decide +kernel
theorem at_72_82 : j_at 72 82 = some (.goto 4, 86, 0, 0) := by decide +kernel
theorem at_72_85 : j_at 72 85 = some (.iconst 0, 0, 0, 0) := by decide +kernel
theorem at_72_86 : j_at 72 86 = some (.ireturn, 0, 0, 0) := by decide +kernel
theorem at_74_0 : j_at 74 0 = some (.aload_n 0, 0, 0, 0) := by decide +kernel
theorem at_74_1 : j_at 74 1 = some (.iconst 0, 0, 0, 0) := by decide +kernel
theorem at_74_2 : j_at 74 2 = some (.putfield 45, 8, 0, 0) := by decide +kernel
theorem at_74_5 : j_at 74 5 = some (.aload_n 0, 0, 0, 0) := by decide +kernel
theorem at_74_6 : j_at 74 6 = some (.iconst 0, 0, 0, 0) := by decide +kernel
theorem at_74_7 : j_at 74 7 = some (.putfield 49, 8, 1, 0) := by decide +kernel
theorem at_74_10 : j_at 74 10 = some (.aload_n 0, 0, 0, 0) := by decide +kernel
theorem at_74_11 : j_at 74 11 = some (.getfield 9, 8, 2, 0) := by decide +kernel
theorem at_74_14 : j_at 74 14 = some (.iconst 0, 0, 0, 0) := by decide +kernel
theorem at_74_15 : j_at 74 15 = some (.iconst 0, 0, 0, 0) := by decide +kernel
theorem at_74_16 : j_at 74 16 = some (.iastore, 0, 0, 0) := by decide +kernel
theorem at_74_17 : j_at 74 17 = some (.iconst 0, 0, 0, 0) := by decide +kernel
theorem at_74_18 : j_at 74 18 = some (.istore_n 2, 0, 0, 0) := by decide +kernel
theorem at_74_19 : j_at 74 19 = some (.iload_n 2, 0, 0, 0) := by decide +kernel
theorem at_74_20 : j_at 74 20 = some (.iconst 5, 0, 0, 5) := by decide +kernel
theorem at_74_21 : j_at 74 21 = some (.if_icmp .ge 25, 46, 0, 0) := by decide +kernel
theorem at_74_24 : j_at 74 24 = some (.aload_n 0, 0, 0, 0) := by decide +kernel
theorem at_74_25 : j_at 74 25 = some (.getfield 26, 8, 5, 0) := by decide +kernel
theorem at_74_28 : j_at 74 28 = some (.iload_n 2, 0, 0, 0) := by decide +kernel
theorem at_74_29 : j_at 74 29 = some (.lconst 0, 0, 0, 0) := by decide +kernel
theorem at_74_30 : j_at 74 30 = some (.lastore, 0, 0, 0) := by decide +kernel
theorem at_74_31 : j_at 74 31 = some (.aload_n 0, 0, 0, 0) := by decide +kernel
theorem at_74_32 : j_at 74 32 = some (.getfield 29, 8, 6, 0) := by decide +kernel
theorem at_74_35 : j_at 74 35 = some (.iload_n 2, 0, 0, 0) := by decide +kernel
theorem at_74_36 : j_at 74 36 = some (.ldc2_w 52, 0, 0, -1) := by decide +kernel
theorem at_74_39 : j_at 74 39 = some (.lastore, 0, 0, 0) := by decide +kernel
theorem at_74_40 : j_at 74 40 = some (.iinc 2 1, 0, 0, 0) := by decide +kernel
theorem at_74_43 : j_at 74 43 = some (.goto (-24), 19, 0, 0) := by decide +kernel
theorem at_74_46 : j_at 74 46 = some (.aload_n 0, 0, 0, 0) := by decide +kernel
theorem at_74_47 : j_at 74 47 = some (.aload_n 1, 0, 0, 0) := by decide +kernel
theorem at_74_48 : j_at 74 48 = some (.invokevirtual 54, 77, 1, 0) := by decide +kernel
theorem at_74_51 : j_at 74 51 = some (.ifCond .ne 6, 57, 0, 0) := by decide +kernel
theorem at_74_54 : j_at 74 54 = some (.bipush (-6), 0, 0, -6) := by decide +kernel
theorem at_74_56 : j_at 74 56 = some (.ireturn, 0, 0, 0) := by decide +kernel
theorem at_74_57 : j_at 74 57 = some (.iconst 0, 0, 0, 0) := by decide +kernel
theorem at_74_58 : j_at 74 58 = some (.istore_n 2, 0, 0, 0) := by decide +kernel
theorem at_74_59 : j_at 74 59 = some (.iload_n 2, 0, 0, 0) := by decide +kernel
theorem at_74_60 : j_at 74 60 = some (.bipush 40, 0, 0, 40) := by decide +kernel
theorem at_74_62 : j_at 74 62 = some (.if_icmp .gt 51, 113, 0, 0) := by decide +kernel
theorem at_74_65 : j_at 74 65 = some (.aload_n 0, 0, 0, 0) := by decide +kernel
theorem at_74_66 : j_at 74 66 = some (.invokevirtual 58, 78, 0, 0) := by decide +kernel
theorem at_74_69 : j_at 74 69 = some (.istore_n 3, 0, 0, 0) := by decide +kernel
theorem at_74_70 : j_at 74 70 = some (.iload_n 3, 0, 0, 0) := by decide +kernel
theorem at_74_71 : j_at 74 71 = some (.ifCond .ge 6, 77, 0, 0) := by decide +kernel
theorem at_74_74 : j_at 74 74 = some (.bipush (-5), 0, 0, -5) := by decide +kernel
theorem at_74_76 : j_at 74 76 = some (.ireturn, 0, 0, 0) := by decide +kernel
theorem at_74_77 : j_at 74 77 = some (.aload_n 0, 0, 0, 0) := by decide +kernel
theorem at_74_78 : j_at 74 78 = some (.getfield 38, 8, 9, 0) := by decide +kernel
theorem at_74_81 : j_at 74 81 = some (.iload_n 3, 0, 0, 0) := by decide +kernel
theorem at_74_82 : j_at 74 82 = some (.iaload, 0, 0, 0) := by decide +kernel
theorem at_74_83 : j_at 74 83 = some (.ifCond .ge 5, 88, 0, 0) := by decide +kernel
theorem at_74_86 : j_at 74 86 = some (.iload_n 3, 0, 0, 0) := by decide +kernel
theorem at_74_87 : j_at 74 87 = some (.ireturn, 0, 0, 0) := by decide +kernel
theorem at_74_88 : j_at 74 88 = some (.aload_n 0, 0, 0, 0) := by decide +kernel
theorem at_74_89 : j_at 74 89 = some (.getfield 41, 8, 10, 0) := by decide +kernel
theorem at_74_92 : j_at 74 92 = some (.iload_n 3, 0, 0, 0) := by decide +kernel
theorem at_74_93 : j_at 74 93 = some (.iconst 0, 0, 0, 0) := by decide +kernel
theorem at_74_94 : j_at 74 94 = some (.bastore, 0, 0, 0) := by decide +kernel
theorem at_74_95 : j_at 74 95 = some (.aload_n 0, 0, 0, 0) := by decide +kernel
theorem at_74_96 : j_at 74 96 = some (.aload_n 1, 0, 0, 0) := by decide +kernel
theorem at_74_97 : j_at 74 97 = some (.iload_n 3, 0, 0, 0) := by decide +kernel
theorem at_74_98 : j_at 74 98 = some (.invokevirtual 62, 75, 2, 0) := by decide +kernel
theorem at_74_101 : j_at 74 101 = some (.ifCond .ne 6, 107, 0, 0) := by decide +kernel
theorem at_74_104 : j_at 74 104 = some (.bipush (-6), 0, 0, -6) := by decide +kernel
theorem at_74_106 : j_at 74 106 = some (.ireturn, 0, 0, 0) := by decide +kernel
theorem at_74_107 : j_at 74 107 = some (.iinc 2 1, 0, 0, 0) := by decide +kernel
theorem at_74_110 : j_at 74 110 = some (.goto (-51), 59, 0, 0) := by decide +kernel
theorem at_74_113 : j_at 74 113 = some (.bipush (-6), 0, 0, -6) := by decide +kernel
theorem at_74_115 : j_at 74 115 = some (.ireturn, 0, 0, 0) := by decide +kernel
theorem at_75_0 : j_at 75 0 = some (.aload_n 0, 0, 0, 0) := by decide +kernel
theorem at_75_1 : j_at 75 1 = some (.getfield 38, 8, 9, 0) := by decide +kernel
theorem at_75_4 : j_at 75 4 = some (.iload_n 2, 0, 0, 0) := by decide +kernel
theorem at_75_5 : j_at 75 5 = some (.iaload, 0, 0, 0) := by decide +kernel
theorem at_75_6 : j_at 75 6 = some (.istore_n 3, 0, 0, 0) := by decide +kernel
theorem at_75_7 : j_at 75 7 = some (.aload_n 0, 0, 0, 0) := by decide +kernel
theorem at_75_8 : j_at 75 8 = some (.getfield 15, 8, 3, 0) := by decide +kernel
theorem at_75_11 : j_at 75 11 = some (.iload_n 2, 0, 0, 0) := by decide +kernel
theorem at_75_12 : j_at 75 12 = some (.iconst 5, 0, 0, 5) := by decide +kernel
theorem at_75_13 : j_at 75 13 = some (.imul, 0, 0, 0) := by decide +kernel
theorem at_75_14 : j_at 75 14 = some (.iload_n 3, 0, 0, 0) := by decide +kernel
theorem at_75_15 : j_at 75 15 = some (.iadd, 0, 0, 0) := by decide +kernel
theorem at_75_16 : j_at 75 16 = some (.laload, 0, 0, 0) := by decide +kernel
theorem at_75_17 : j_at 75 17 = some (.lstore 4, 0, 0, 0) := by decide +kernel
theorem at_75_19 : j_at 75 19 = some (.aload_n 0, 0, 0, 0) := by decide +kernel
theorem at_75_20 : j_at 75 20 = some (.getfield 45, 8, 0, 0) := by decide +kernel
theorem at_75_23 : j_at 75 23 = some (.bipush 40, 0, 0, 40) := by decide +kernel
theorem at_75_25 : j_at 75 25 = some (.if_icmp .lt 5, 30, 0, 0) := by decide +kernel
theorem at_75_28 : j_at 75 28 = some (.iconst 0, 0, 0, 0) := by decide +kernel
theorem at_75_29 : j_at 75 29 = some (.ireturn, 0, 0, 0) := by decide +kernel
theorem at_75_30 : j_at 75 30 = some (.aload_n 0, 0, 0, 0) := by decide +kernel
theorem at_75_31 : j_at 75 31 = some (.iload_n 2, 0, 0, 0) := by decide +kernel
theorem at_75_32 : j_at 75 32 = some (.invokevirtual 66, 76, 1, 0) := by decide +kernel
theorem at_75_35 : j_at 75 35 = some (.aload_n 0, 0, 0, 0) := by decide +kernel
theorem at_75_36 : j_at 75 36 = some (.getfield 29, 8, 6, 0) := by decide +kernel
theorem at_75_39 : j_at 75 39 = some (.aload_n 0, 0, 0, 0) := by decide +kernel
theorem at_75_40 : j_at 75 40 = some (.getfield 45, 8, 0, 0) := by decide +kernel
theorem at_75_43 : j_at 75 43 = some (.iconst 5, 0, 0, 5) := by decide +kernel
theorem at_75_44 : j_at 75 44 = some (.imul, 0, 0, 0) := by decide +kernel
theorem at_75_45 : j_at 75 45 = some (.iload_n 3, 0, 0, 0) := by decide +kernel
theorem at_75_46 : j_at 75 46 = some (.iadd, 0, 0, 0) := by decide +kernel
theorem at_75_47 : j_at 75 47 = some (.lload 4, 0, 0, 0) := by decide +kernel
theorem at_75_49 : j_at 75 49 = some (.lastore, 0, 0, 0) := by decide +kernel
theorem at_75_50 : j_at 75 50 = some (.aload_n 0, 0, 0, 0) := by decide +kernel
theorem at_75_51 : j_at 75 51 = some (.aload_n 1, 0, 0, 0) := by decide +kernel
theorem at_75_52 : j_at 75 52 = some (.invokevirtual 54, 77, 1, 0) := by decide +kernel
theorem at_75_55 : j_at 75 55 = some (.ifCond .ne 5, 60, 0, 0) := by decide +kernel
theorem at_75_58 : j_at 75 58 = some (.iconst 0, 0, 0, 0) := by decide +kernel
theorem at_75_59 : j_at 75 59 = some (.ireturn, 0, 0, 0) := by decide +kernel
theorem at_75_60 : j_at 75 60 = some (.aload_n 0, 0, 0, 0) := by decide +kernel
theorem at_75_61 : j_at 75 61 = some (.getfield 45, 8, 0, 0) := by decide +kernel
theorem at_75_64 : j_at 75 64 = some (.bipush 40, 0, 0, 40) := by decide +kernel
theorem at_75_66 : j_at 75 66 = some (.if_icmp .lt 5, 71, 0, 0) := by decide +kernel
theorem at_75_69 : j_at 75 69 = some (.iconst 0, 0, 0, 0) := by decide +kernel
theorem at_75_70 : j_at 75 70 = some (.ireturn, 0, 0, 0) := by decide +kernel
theorem at_75_71 : j_at 75 71 = some (.aload_n 0, 0, 0, 0) := by decide +kernel
theorem at_75_72 : j_at 75 72 = some (.iload_n 2, 0, 0, 0) := by decide +kernel
theorem at_75_73 : j_at 75 73 = some (.invokevirtual 66, 76, 1, 0) := by decide +kernel
theorem at_75_76 : j_at 75 76 = some (.aload_n 0, 0, 0, 0) := by decide +kernel
theorem at_75_77 : j_at 75 77 = some (.getfield 26, 8, 5, 0) := by decide +kernel
theorem at_75_80 : j_at 75 80 = some (.aload_n 0, 0, 0, 0) := by decide +kernel
theorem at_75_81 : j_at 75 81 = some (.getfield 45, 8, 0, 0) := by decide +kernel
theorem at_75_84 : j_at 75 84 = some (.iconst 5, 0, 0, 5) := by decide +kernel
theorem at_75_85 : j_at 75 85 = some (.imul, 0, 0, 0) := by decide +kernel
theorem at_75_86 : j_at 75 86 = some (.iload_n 3, 0, 0, 0) := by decide +kernel
theorem at_75_87 : j_at 75 87 = some (.iadd, 0, 0, 0) := by decide +kernel
theorem at_75_88 : j_at 75 88 = some (.lload 4, 0, 0, 0) := by decide +kernel
theorem at_75_90 : j_at 75 90 = some (.lconst 1, 0, 0, 1) := by decide +kernel
theorem at_75_91 : j_at 75 91 = some (.ladd, 0, 0, 0) := by decide +kernel
theorem at_75_92 : j_at 75 92 = some (.lastore, 0, 0, 0) := by decide +kernel
theorem at_75_93 : j_at 75 93 = some (.aload_n 0, 0, 0, 0) := by decide +kernel
theorem at_75_94 : j_at 75 94 = some (.aload_n 1, 0, 0, 0) := by decide +kernel
theorem at_75_95 : j_at 75 95 = some (.invokevirtual 54, 77, 1, 0) := by decide +kernel
theorem at_75_98 : j_at 75 98 = some (.ireturn, 0, 0, 0) := by decide +kernel
theorem at_76_0 : j_at 76 0 = some (.aload_n 0, 0, 0, 0) := by decide +kernel
theorem at_76_1 : j_at 76 1 = some (.getfield 9, 8, 2, 0) := by decide +kernel
theorem at_76_4 : j_at 76 4 = some (.aload_n 0, 0, 0, 0) := by decide +kernel
theorem at_76_5 : j_at 76 5 = some (.getfield 45, 8, 0, 0) := by decide +kernel
theorem at_76_8 : j_at 76 8 = some (.aload_n 0, 0, 0, 0) := by decide +kernel
theorem at_76_9 : j_at 76 9 = some (.getfield 9, 8, 2, 0) := by decide +kernel
theorem at_76_12 : j_at 76 12 = some (.iload_n 1, 0, 0, 0) := by decide +kernel
theorem at_76_13 : j_at 76 13 = some (.iaload, 0, 0, 0) := by decide +kernel
theorem at_76_14 : j_at 76 14 = some (.iconst 1, 0, 0, 1) := by decide +kernel
theorem at_76_15 : j_at 76 15 = some (.iadd, 0, 0, 0) := by decide +kernel
theorem at_76_16 : j_at 76 16 = some (.iastore, 0, 0, 0) := by decide +kernel
theorem at_76_17 : j_at 76 17 = some (.aload_n 0, 0, 0, 0) := by decide +kernel
theorem at_76_18 : j_at 76 18 = some (.getfield 26, 8, 5, 0) := by decide +kernel
theorem at_76_21 : j_at 76 21 = some (.iload_n 1, 0, 0, 0) := by decide +kernel
theorem at_76_22 : j_at 76 22 = some (.iconst 5, 0, 0, 5) := by decide +kernel
theorem at_76_23 : j_at 76 23 = some (.imul, 0, 0, 0) := by decide +kernel
theorem at_76_24 : j_at 76 24 = some (.aload_n 0, 0, 0, 0) := by decide +kernel
theorem at_76_25 : j_at 76 25 = some (.getfield 26, 8, 5, 0) := by decide +kernel
theorem at_76_28 : j_at 76 28 = some (.aload_n 0, 0, 0, 0) := by decide +kernel
theorem at_76_29 : j_at 76 29 = some (.getfield 45, 8, 0, 0) := by decide +kernel
theorem at_76_32 : j_at 76 32 = some (.iconst 5, 0, 0, 5) := by decide +kernel
theorem at_76_33 : j_at 76 33 = some (.imul, 0, 0, 0) := by decide +kernel
theorem at_76_34 : j_at 76 34 = some (.iconst 5, 0, 0, 5) := by decide +kernel
theorem at_76_35 : j_at 76 35 = some (.invokestatic 70, 9999, 5, 0) := by decide +kernel
theorem at_76_38 : j_at 76 38 = some (.aload_n 0, 0, 0, 0) := by decide +kernel
theorem at_76_39 : j_at 76 39 = some (.getfield 29, 8, 6, 0) := by decide +kernel
theorem at_76_42 : j_at 76 42 = some (.iload_n 1, 0, 0, 0) := by decide +kernel
theorem at_76_43 : j_at 76 43 = some (.iconst 5, 0, 0, 5) := by decide +kernel
theorem at_76_44 : j_at 76 44 = some (.imul, 0, 0, 0) := by decide +kernel
theorem at_76_45 : j_at 76 45 = some (.aload_n 0, 0, 0, 0) := by decide +kernel
theorem at_76_46 : j_at 76 46 = some (.getfield 29, 8, 6, 0) := by decide +kernel
theorem at_76_49 : j_at 76 49 = some (.aload_n 0, 0, 0, 0) := by decide +kernel
theorem at_76_50 : j_at 76 50 = some (.getfield 45, 8, 0, 0) := by decide +kernel
theorem at_76_53 : j_at 76 53 = some (.iconst 5, 0, 0, 5) := by decide +kernel
theorem at_76_54 : j_at 76 54 = some (.imul, 0, 0, 0) := by decide +kernel
theorem at_76_55 : j_at 76 55 = some (.iconst 5, 0, 0, 5) := by decide +kernel
theorem at_76_56 : j_at 76 56 = some (.invokestatic 70, 9999, 5, 0) := by decide +kernel
theorem at_76_59 : j_at 76 59 = some (.return_, 0, 0, 0) := by decide +kernel
theorem at_77_0 : j_at 77 0 = some (.aload_n 0, 0, 0, 0) := by decide +kernel
theorem at_77_1 : j_at 77 1 = some (.getfield 45, 8, 0, 0) := by decide +kernel
theorem at_77_4 : j_at 77 4 = some (.istore_n 2, 0, 0, 0) := by decide +kernel
theorem at_77_5 : j_at 77 5 = some (.aload_n 0, 0, 0, 0) := by decide +kernel
theorem at_77_6 : j_at 77 6 = some (.dup, 0, 0, 0) := by decide +kernel
theorem at_77_7 : j_at 77 7 = some (.getfield 45, 8, 0, 0) := by decide +kernel
theorem at_77_10 : j_at 77 10 = some (.iconst 1, 0, 0, 1) := by decide +kernel
theorem at_77_11 : j_at 77 11 = some (.iadd, 0, 0, 0) := by decide +kernel
theorem at_77_12 : j_at 77 12 = some (.putfield 45, 8, 0, 0) := by decide +kernel
theorem at_77_15 : j_at 77 15 = some (.aload_n 0, 0, 0, 0) := by decide +kernel
theorem at_77_16 : j_at 77 16 = some (.getfield 22, 8, 4, 0) := by decide +kernel
theorem at_77_19 : j_at 77 19 = some (.aload_n 1, 0, 0, 0) := by decide +kernel
theorem at_77_20 : j_at 77 20 = some (.invokevirtual 76, 38, 1, 0) := by decide +kernel
theorem at_77_23 : j_at 77 23 = some (.iconst 0, 0, 0, 0) := by decide +kernel
theorem at_77_24 : j_at 77 24 = some (.istore_n 3, 0, 0, 0) := by decide +kernel
theorem at_77_25 : j_at 77 25 = some (.iload_n 3, 0, 0, 0) := by decide +kernel
theorem at_77_26 : j_at 77 26 = some (.aload_n 1, 0, 0, 0) := by decide +kernel
theorem at_77_27 : j_at 77 27 = some (.getfield 80, 1, 0, 0) := by decide +kernel
theorem at_77_30 : j_at 77 30 = some (.if_icmp .ge 75, 105, 0, 0) := by decide +kernel
theorem at_77_33 : j_at 77 33 = some (.aload_n 0, 0, 0, 0) := by decide +kernel
theorem at_77_34 : j_at 77 34 = some (.getfield 26, 8, 5, 0) := by decide +kernel
theorem at_77_37 : j_at 77 37 = some (.iload_n 2, 0, 0, 0) := by decide +kernel
theorem at_77_38 : j_at 77 38 = some (.iconst 5, 0, 0, 5) := by decide +kernel
theorem at_77_39 : j_at 77 39 = some (.imul, 0, 0, 0) := by decide +kernel
theorem at_77_40 : j_at 77 40 = some (.iload_n 3, 0, 0, 0) := by decide +kernel
theorem at_77_41 : j_at 77 41 = some (.iadd, 0, 0, 0) := by decide +kernel
theorem at_77_42 : j_at 77 42 = some (.laload, 0, 0, 0) := by decide +kernel
theorem at_77_43 : j_at 77 43 = some (.lconst 0, 0, 0, 0) := by decide +kernel
theorem at_77_44 : j_at 77 44 = some (.lcmp, 0, 0, 0) := by decide +kernel
theorem at_77_45 : j_at 77 45 = some (.ifCond .le 21, 66, 0, 0) := by decide +kernel
theorem at_77_48 : j_at 77 48 = some (.aload_n 0, 0, 0, 0) := by decide +kernel
theorem at_77_49 : j_at 77 49 = some (.getfield 22, 8, 4, 0) := by decide +kernel
theorem at_77_52 : j_at 77 52 = some (.iload_n 3, 0, 0, 0) := by decide +kernel
theorem at_77_53 : j_at 77 53 = some (.aload_n 0, 0, 0, 0) := by decide +kernel
theorem at_77_54 : j_at 77 54 = some (.getfield 26, 8, 5, 0) := by decide +kernel
theorem at_77_57 : j_at 77 57 = some (.iload_n 2, 0, 0, 0) := by decide +kernel
theorem at_77_58 : j_at 77 58 = some (.iconst 5, 0, 0, 5) := by decide +kernel
theorem at_77_59 : j_at 77 59 = some (.imul, 0, 0, 0) := by decide +kernel
theorem at_77_60 : j_at 77 60 = some (.iload_n 3, 0, 0, 0) := by decide +kernel
theorem at_77_61 : j_at 77 61 = some (.iadd, 0, 0, 0) := by decide +kernel
theorem at_77_62 : j_at 77 62 = some (.laload, 0, 0, 0) := by decide +kernel
theorem at_77_63 : j_at 77 63 = some (.invokevirtual 85, 40, 2, 0) := by decide +kernel
theorem at_77_66 : j_at 77 66 = some (.aload_n 0, 0, 0, 0) := by decide +kernel
theorem at_77_67 : j_at 77 67 = some (.getfield 29, 8, 6, 0) := by decide +kernel
theorem at_77_70 : j_at 77 70 = some (.iload_n 2, 0, 0, 0) := by decide +kernel
theorem at_77_71 : j_at 77 71 = some (.iconst 5, 0, 0, 5) := by decide +kernel
theorem at_77_72 : j_at 77 72 = some (.imul, 0, 0, 0) := by decide +kernel
theorem at_77_73 : j_at 77 73 = some (.iload_n 3, 0, 0, 0) := by decide +kernel
theorem at_77_74 : j_at 77 74 = some (.iadd, 0, 0, 0) := by decide +kernel
theorem at_77_75 : j_at 77 75 = some (.laload, 0, 0, 0) := by decide +kernel
theorem at_77_76 : j_at 77 76 = some (.lconst 0, 0, 0, 0) := by decide +kernel
theorem at_77_77 : j_at 77 77 = some (.lcmp, 0, 0, 0) := by decide +kernel
theorem at_77_78 : j_at 77 78 = some (.ifCond .lt 21, 99, 0, 0) := by decide +kernel
theorem at_77_81 : j_at 77 81 = some (.aload_n 0, 0, 0, 0) := by decide +kernel
theorem at_77_82 : j_at 77 82 = some (.getfield 22, 8, 4, 0) := by decide +kernel
theorem at_77_85 : j_at 77 85 = some (.iload_n 3, 0, 0, 0) := by decide +kernel
theorem at_77_86 : j_at 77 86 = some (.aload_n 0, 0, 0, 0) := by decide +kernel
theorem at_77_87 : j_at 77 87 = some (.getfield 29, 8, 6, 0) := by decide +kernel
theorem at_77_90 : j_at 77 90 = some (.iload_n 2, 0, 0, 0) := by decide +kernel
theorem at_77_91 : j_at 77 91 = some (.iconst 5, 0, 0, 5) := by decide +kernel
theorem at_77_92 : j_at 77 92 = some (.imul, 0, 0, 0) := by decide +kernel
theorem at_77_93 : j_at 77 93 = some (.iload_n 3, 0, 0, 0) := by decide +kernel
theorem at_77_94 : j_at 77 94 = some (.iadd, 0, 0, 0) := by decide +kernel
theorem at_77_95 : j_at 77 95 = some (.laload, 0, 0, 0) := by decide +kernel
theorem at_77_96 : j_at 77 96 = some (.invokevirtual 89, 41, 2, 0) := by decide +kernel
theorem at_77_99 : j_at 77 99 = some (.iinc 3 1, 0, 0, 0) := by decide +kernel
theorem at_77_102 : j_at 77 102 = some (.goto (-77), 25, 0, 0) := by decide +kernel
theorem at_77_105 : j_at 77 105 = some (.aload_n 0, 0, 0, 0) := by decide +kernel
theorem at_77_106 : j_at 77 106 = some (.getfield 22, 8, 4, 0) := by decide +kernel
theorem at_77_109 : j_at 77 109 = some (.invokevirtual 92, 45, 0, 0) := by decide +kernel
theorem at_77_112 : j_at 77 112 = some (.istore_n 3, 0, 0, 0) := by decide +kernel
theorem at_77_113 : j_at 77 113 = some (.aload_n 0, 0, 0, 0) := by decide +kernel
theorem at_77_114 : j_at 77 114 = some (.dup, 0, 0, 0) := by decide +kernel
theorem at_77_115 : j_at 77 115 = some (.getfield 49, 8, 1, 0) := by decide +kernel
theorem at_77_118 : j_at 77 118 = some (.aload_n 0, 0, 0, 0) := by decide +kernel
theorem at_77_119 : j_at 77 119 = some (.getfield 22, 8, 4, 0) := by decide +kernel
theorem at_77_122 : j_at 77 122 = some (.getfield 95, 5, 2, 0) := by decide +kernel
theorem at_77_125 : j_at 77 125 = some (.iadd, 0, 0, 0) := by decide +kernel
theorem at_77_126 : j_at 77 126 = some (.putfield 49, 8, 1, 0) := by decide +kernel
theorem at_77_129 : j_at 77 129 = some (.aload_n 0, 0, 0, 0) := by decide +kernel
theorem at_77_130 : j_at 77 130 = some (.getfield 41, 8, 10, 0) := by decide +kernel
theorem at_77_133 : j_at 77 133 = some (.iload_n 2, 0, 0, 0) := by decide +kernel
theorem at_77_134 : j_at 77 134 = some (.iload_n 3, 0, 0, 0) := by decide +kernel
theorem at_77_135 : j_at 77 135 = some (.iconst 3, 0, 0, 3) := by decide +kernel
theorem at_77_136 : j_at 77 136 = some (.if_icmp .ne 7, 143, 0, 0) := by decide +kernel
theorem at_77_139 : j_at 77 139 = some (.iconst 1, 0, 0, 1) := by decide +kernel
theorem at_77_140 : j_at 77 140 = some (.goto 4, 144, 0, 0) := by decide +kernel
theorem at_77_143 : j_at 77 143 = some (.iconst 0, 0, 0, 0) := by decide +kernel
theorem at_77_144 : j_at 77 144 = some (.bastore, 0, 0, 0) := by decide +kernel
theorem at_77_145 : j_at 77 145 = some (.aload_n 0, 0, 0, 0) := by decide +kernel
theorem at_77_146 : j_at 77 146 = some (.getfield 32, 8, 7, 0) := by decide +kernel
theorem at_77_149 : j_at 77 149 = some (.iload_n 2, 0, 0, 0) := by decide +kernel
theorem at_77_150 : j_at 77 150 = some (.aload_n 0, 0, 0, 0) := by decide +kernel
theorem at_77_151 : j_at 77 151 = some (.getfield 22, 8, 4, 0) := by decide +kernel
theorem at_77_154 : j_at 77 154 = some (.getfield 96, 5, 3, 0) := by decide +kernel
theorem at_77_157 : j_at 77 157 = some (.lastore, 0, 0, 0) := by decide +kernel
theorem at_77_158 : j_at 77 158 = some (.aload_n 0, 0, 0, 0) := by decide +kernel
theorem at_77_159 : j_at 77 159 = some (.getfield 35, 8, 8, 0) := by decide +kernel
theorem at_77_162 : j_at 77 162 = some (.iload_n 2, 0, 0, 0) := by decide +kernel
theorem at_77_163 : j_at 77 163 = some (.aload_n 0, 0, 0, 0) := by decide +kernel
theorem at_77_164 : j_at 77 164 = some (.getfield 22, 8, 4, 0) := by decide +kernel
theorem at_77_167 : j_at 77 167 = some (.getfield 100, 5, 4, 0) := by decide +kernel
theorem at_77_170 : j_at 77 170 = some (.lastore, 0, 0, 0) := by decide +kernel
theorem at_77_171 : j_at 77 171 = some (.aload_n 0, 0, 0, 0) := by decide +kernel
theorem at_77_172 : j_at 77 172 = some (.getfield 38, 8, 9, 0) := by decide +kernel
theorem at_77_175 : j_at 77 175 = some (.iload_n 2, 0, 0, 0) := by decide +kernel
theorem at_77_176 : j_at 77 176 = some (.aload_n 0, 0, 0, 0) := by decide +kernel
theorem at_77_177 : j_at 77 177 = some (.getfield 22, 8, 4, 0) := by decide +kernel
theorem at_77_180 : j_at 77 180 = some (.invokevirtual 103, 57, 0, 0) := by decide +kernel
theorem at_77_183 : j_at 77 183 = some (.iastore, 0, 0, 0) := by decide +kernel
theorem at_77_184 : j_at 77 184 = some (.iconst 0, 0, 0, 0) := by decide +kernel
theorem at_77_185 : j_at 77 185 = some (.istore 4, 0, 0, 0) := by decide +kernel
theorem at_77_187 : j_at 77 187 = some (.iload 4, 0, 0, 0) := by decide +kernel
theorem at_77_189 : j_at 77 189 = some (.aload_n 1, 0, 0, 0) := by decide +kernel
theorem at_77_190 : j_at 77 190 = some (.getfield 80, 1, 0, 0) := by decide +kernel
theorem at_77_193 : j_at 77 193 = some (.if_icmp .ge 29, 222, 0, 0) := by decide +kernel
theorem at_77_196 : j_at 77 196 = some (.aload_n 0, 0, 0, 0) := by decide +kernel
theorem at_77_197 : j_at 77 197 = some (.getfield 15, 8, 3, 0) := by decide +kernel
theorem at_77_200 : j_at 77 200 = some (.iload_n 2, 0, 0, 0) := by decide +kernel
theorem at_77_201 : j_at 77 201 = some (.iconst 5, 0, 0, 5) := by decide +kernel
theorem at_77_202 : j_at 77 202 = some (.imul, 0, 0, 0) := by decide +kernel
theorem at_77_203 : j_at 77 203 = some (.iload 4, 0, 0, 0) := by decide +kernel
theorem at_77_205 : j_at 77 205 = some (.iadd, 0, 0, 0) := by decide +kernel
theorem at_77_206 : j_at 77 206 = some (.aload_n 0, 0, 0, 0) := by decide +kernel
theorem at_77_207 : j_at 77 207 = some (.getfield 22, 8, 4, 0) := by decide +kernel
theorem at_77_210 : j_at 77 210 = some (.iload 4, 0, 0, 0) := by decide +kernel
theorem at_77_212 : j_at 77 212 = some (.invokevirtual 106, 54, 1, 0) := by decide +kernel
theorem at_77_215 : j_at 77 215 = some (.lastore, 0, 0, 0) := by decide +kernel
theorem at_77_216 : j_at 77 216 = some (.iinc 4 1, 0, 0, 0) := by decide +kernel
theorem at_77_219 : j_at 77 219 = some (.goto (-32), 187, 0, 0) := by decide +kernel
theorem at_77_222 : j_at 77 222 = some (.iload_n 3, 0, 0, 0) := by decide +kernel
theorem at_77_223 : j_at 77 223 = some (.bipush (-6), 0, 0, -6) := by decide +kernel
theorem at_77_225 : j_at 77 225 = some (.if_icmp .eq 7, 232, 0, 0) := by decide +kernel
theorem at_77_228 : j_at 77 228 = some (.iconst 1, 0, 0, 1) := by decide +kernel
theorem at_77_229 : j_at 77 229 = some (.goto 4, 233, 0, 0) := by decide +kernel
theorem at_77_232 : j_at 77 232 = some (.iconst 0, 0, 0, 0) := by decide +kernel
theorem at_77_233 : j_at 77 233 = some (.ireturn, 0, 0, 0) := by decide +kernel
theorem at_78_0 : j_at 78 0 = some (.iconst (-1), 0, 0, -1) := by decide +kernel
theorem at_78_1 : j_at 78 1 = some (.istore_n 1, 0, 0, 0) := by decide +kernel
theorem at_78_2 : j_at 78 2 = some (.iconst 0, 0, 0, 0) := by decide +kernel
theorem at_78_3 : j_at 78 3 = some (.istore_n 2, 0, 0, 0) := by decide +kernel
theorem at_78_4 : j_at 78 4 = some (.iload_n 2, 0, 0, 0) := by decide +kernel
theorem at_78_5 : j_at 78 5 = some (.aload_n 0, 0, 0, 0) := by decide +kernel
theorem at_78_6 : j_at 78 6 = some (.getfield 45, 8, 0, 0) := by decide +kernel
theorem at_78_9 : j_at 78 9 = some (.if_icmp .ge 57, 66, 0, 0) := by decide +kernel
theorem at_78_12 : j_at 78 12 = some (.aload_n 0, 0, 0, 0) := by decide +kernel
theorem at_78_13 : j_at 78 13 = some (.getfield 41, 8, 10, 0) := by decide +kernel
theorem at_78_16 : j_at 78 16 = some (.iload_n 2, 0, 0, 0) := by decide +kernel
theorem at_78_17 : j_at 78 17 = some (.baload, 0, 0, 0) := by decide +kernel
theorem at_78_18 : j_at 78 18 = some (.ifCond .ne 6, 24, 0, 0) := by decide +kernel
theorem at_78_21 : j_at 78 21 = some (.goto 39, 60, 0, 0) := by decide +kernel
theorem at_78_24 : j_at 78 24 = some (.iload_n 1, 0, 0, 0) := by decide +kernel
theorem at_78_25 : j_at 78 25 = some (.ifCond .lt 33, 58, 0, 0) := by decide +kernel
theorem at_78_28 : j_at 78 28 = some (.aload_n 0, 0, 0, 0) := by decide +kernel
theorem at_78_29 : j_at 78 29 = some (.getfield 32, 8, 7, 0) := by decide +kernel
theorem at_78_32 : j_at 78 32 = some (.iload_n 2, 0, 0, 0) := by decide +kernel
theorem at_78_33 : j_at 78 33 = some (.laload, 0, 0, 0) := by decide +kernel
theorem at_78_34 : j_at 78 34 = some (.aload_n 0, 0, 0, 0) := by decide +kernel
theorem at_78_35 : j_at 78 35 = some (.getfield 35, 8, 8, 0) := by decide +kernel
theorem at_78_38 : j_at 78 38 = some (.iload_n 1, 0, 0, 0) := by decide +kernel
theorem at_78_39 : j_at 78 39 = some (.laload, 0, 0, 0) := by decide +kernel
theorem at_78_40 : j_at 78 40 = some (.lmul, 0, 0, 0) := by decide +kernel
theorem at_78_41 : j_at 78 41 = some (.aload_n 0, 0, 0, 0) := by decide +kernel
theorem at_78_42 : j_at 78 42 = some (.getfield 32, 8, 7, 0) := by decide +kernel
theorem at_78_45 : j_at 78 45 = some (.iload_n 1, 0, 0, 0) := by decide +kernel
theorem at_78_46 : j_at 78 46 = some (.laload, 0, 0, 0) := by decide +kernel
theorem at_78_47 : j_at 78 47 = some (.aload_n 0, 0, 0, 0) := by decide +kernel
theorem at_78_48 : j_at 78 48 = some (.getfield 35, 8, 8, 0) := by decide +kernel
theorem at_78_51 : j_at 78 51 = some (.iload_n 2, 0, 0, 0) := by decide +kernel
theorem at_78_52 : j_at 78 52 = some (.laload, 0, 0, 0) := by decide +kernel
theorem at_78_53 : j_at 78 53 = some (.lmul, 0, 0, 0) := by decide +kernel
theorem at_78_54 : j_at 78 54 = some (.lcmp, 0, 0, 0) := by decide +kernel
theorem at_78_55 : j_at 78 55 = some (.ifCond .ge 5, 60, 0, 0) := by decide +kernel
theorem at_78_58 : j_at 78 58 = some (.iload_n 2, 0, 0, 0) := by decide +kernel
theorem at_78_59 : j_at 78 59 = some (.istore_n 1, 0, 0, 0) := by decide +kernel
theorem at_78_60 : j_at 78 60 = some (.iinc 2 1, 0, 0, 0) := by decide +kernel
theorem at_78_63 : j_at 78 63 = some (.goto (-59), 4, 0, 0) := by decide +kernel
theorem at_78_66 : j_at 78 66 = some (.iload_n 1, 0, 0, 0) := by decide +kernel
theorem at_78_67 : j_at 78 67 = some (.ireturn, 0, 0, 0) := by decide +kernel
theorem at_79_0 : j_at 79 0 = some (.aload_n 0, 0, 0, 0) := by decide +kernel
theorem at_79_1 : j_at 79 1 = some (.getfield 35, 8, 8, 0) := by decide +kernel
theorem at_79_4 : j_at 79 4 = some (.iload_n 1, 0, 0, 0) := by decide +kernel
theorem at_79_5 : j_at 79 5 = some (.laload, 0, 0, 0) := by decide +kernel
theorem at_79_6 : j_at 79 6 = some (.lconst 0, 0, 0, 0) := by decide +kernel
theorem at_79_7 : j_at 79 7 = some (.lcmp, 0, 0, 0) := by decide +kernel
theorem at_79_8 : j_at 79 8 = some (.ifCond .le 19, 27, 0, 0) := by decide +kernel
theorem at_79_11 : j_at 79 11 = some (.aload_n 0, 0, 0, 0) := by decide +kernel
theorem at_79_12 : j_at 79 12 = some (.getfield 32, 8, 7, 0) := by decide +kernel
theorem at_79_15 : j_at 79 15 = some (.iload_n 1, 0, 0, 0) := by decide +kernel
theorem at_79_16 : j_at 79 16 = some (.laload, 0, 0, 0) := by decide +kernel
theorem at_79_17 : j_at 79 17 = some (.aload_n 0, 0, 0, 0) := by decide +kernel
theorem at_79_18 : j_at 79 18 = some (.getfield 35, 8, 8, 0) := by decide +kernel
theorem at_79_21 : j_at 79 21 = some (.iload_n 1, 0, 0, 0) := by decide +kernel
theorem at_79_22 : j_at 79 22 = some (.laload, 0, 0, 0) := by decide +kernel
theorem at_79_23 : j_at 79 23 = some (.ldiv, 0, 0, 0) := by decide +kernel
theorem at_79_24 : j_at 79 24 = some (.goto 4, 28, 0, 0) := by decide +kernel
theorem at_79_27 : j_at 79 27 = some (.lconst 0, 0, 0, 0) := by decide +kernel
theorem at_79_28 : j_at 79 28 = some (.lreturn, 0, 0, 0) := by decide +kernel
theorem at_81_0 : j_at 81 0 = some (.aload_n 0, 0, 0, 0) := by decide +kernel
theorem at_81_1 : j_at 81 1 = some (.getfield 12, 9, 4, 0) := by decide +kernel
theorem at_81_4 : j_at 81 4 = some (.aload_n 1, 0, 0, 0) := by decide +kernel
theorem at_81_5 : j_at 81 5 = some (.invokevirtual 25, 8, 1, 0) := by decide +kernel
theorem at_81_8 : j_at 81 8 = some (.aload_n 0, 0, 0, 0) := by decide +kernel
theorem at_81_9 : j_at 81 9 = some (.iload_n 2, 0, 0, 0) := by decide +kernel
theorem at_81_10 : j_at 81 10 = some (.putfield 29, 9, 3, 0) := by decide +kernel
theorem at_81_13 : j_at 81 13 = some (.aload_n 0, 0, 0, 0) := by decide +kernel
theorem at_81_14 : j_at 81 14 = some (.iconst 1, 0, 0, 1) := by decide +kernel
theorem at_81_15 : j_at 81 15 = some (.putfield 33, 9, 0, 0) := by decide +kernel
theorem at_81_18 : j_at 81 18 = some (.aload_n 0, 0, 0, 0) := by decide +kernel
theorem at_81_19 : j_at 81 19 = some (.iconst 0, 0, 0, 0) := by decide +kernel
theorem at_81_20 : j_at 81 20 = some (.putfield 36, 9, 1, 0) := by decide +kernel
theorem at_81_23 : j_at 81 23 = some (.aload_n 0, 0, 0, 0) := by decide +kernel
theorem at_81_24 : j_at 81 24 = some (.iconst 0, 0, 0, 0) := by decide +kernel
theorem at_81_25 : j_at 81 25 = some (.putfield 39, 9, 2, 0) := by decide +kernel
theorem at_81_28 : j_at 81 28 = some (.iconst 0, 0, 0, 0) := by decide +kernel
theorem at_81_29 : j_at 81 29 = some (.istore_n 3, 0, 0, 0) := by decide +kernel
theorem at_81_30 : j_at 81 30 = some (.iload_n 3, 0, 0, 0) := by decide +kernel
theorem at_81_31 : j_at 81 31 = some (.aload_n 0, 0, 0, 0) := by decide +kernel
theorem at_81_32 : j_at 81 32 = some (.getfield 12, 9, 4, 0) := by decide +kernel
theorem at_81_35 : j_at 81 35 = some (.getfield 42, 1, 0, 0) := by decide +kernel
theorem at_81_38 : j_at 81 38 = some (.if_icmp .ge 31, 69, 0, 0) := by decide +kernel
theorem at_81_41 : j_at 81 41 = some (.aload_n 0, 0, 0, 0) := by decide +kernel
theorem at_81_42 : j_at 81 42 = some (.getfield 18, 9, 5, 0) := by decide +kernel
theorem at_81_45 : j_at 81 45 = some (.iload_n 3, 0, 0, 0) := by decide +kernel
theorem at_81_46 : j_at 81 46 = some (.iconst 0, 0, 0, 0) := by decide +kernel
theorem at_81_47 : j_at 81 47 = some (.iastore, 0, 0, 0) := by decide +kernel
theorem at_81_48 : j_at 81 48 = some (.aload_n 0, 0, 0, 0) := by decide +kernel
theorem at_81_49 : j_at 81 49 = some (.dup, 0, 0, 0) := by decide +kernel
theorem at_81_50 : j_at 81 50 = some (.getfield 33, 9, 0, 0) := by decide +kernel
theorem at_81_53 : j_at 81 53 = some (.aload_n 0, 0, 0, 0) := by decide +kernel
theorem at_81_54 : j_at 81 54 = some (.getfield 29, 9, 3, 0) := by decide +kernel
theorem at_81_57 : j_at 81 57 = some (.iconst 1, 0, 0, 1) := by decide +kernel
theorem at_81_58 : j_at 81 58 = some (.iadd, 0, 0, 0) := by decide +kernel
theorem at_81_59 : j_at 81 59 = some (.imul, 0, 0, 0) := by decide +kernel
theorem at_81_60 : j_at 81 60 = some (.putfield 33, 9, 0, 0) := by decide +kernel
theorem at_81_63 : j_at 81 63 = some (.iinc 3 1, 0, 0, 0) := by decide +kernel
theorem at_81_66 : j_at 81 66 = some (.goto (-36), 30, 0, 0) := by decide +kernel
theorem at_81_69 : j_at 81 69 = some (.iconst 0, 0, 0, 0) := by decide +kernel
theorem at_81_70 : j_at 81 70 = some (.istore_n 3, 0, 0, 0) := by decide +kernel
theorem at_81_71 : j_at 81 71 = some (.iload_n 3, 0, 0, 0) := by decide +kernel
theorem at_81_72 : j_at 81 72 = some (.aload_n 0, 0, 0, 0) := by decide +kernel
theorem at_81_73 : j_at 81 73 = some (.getfield 12, 9, 4, 0) := by decide +kernel
theorem at_81_76 : j_at 81 76 = some (.getfield 45, 1, 1, 0) := by decide +kernel
theorem at_81_79 : j_at 81 79 = some (.if_icmp .ge 30, 109, 0, 0) := by decide +kernel
theorem at_81_82 : j_at 81 82 = some (.aload_n 0, 0, 0, 0) := by decide +kernel
theorem at_81_83 : j_at 81 83 = some (.getfield 22, 9, 6, 0) := by decide +kernel
theorem at_81_86 : j_at 81 86 = some (.iload_n 3, 0, 0, 0) := by decide +kernel
theorem at_81_87 : j_at 81 87 = some (.aload_n 0, 0, 0, 0) := by decide +kernel
theorem at_81_88 : j_at 81 88 = some (.getfield 12, 9, 4, 0) := by decide +kernel
theorem at_81_91 : j_at 81 91 = some (.iload_n 3, 0, 0, 0) := by decide +kernel
theorem at_81_92 : j_at 81 92 = some (.aload_n 0, 0, 0, 0) := by decide +kernel
theorem at_81_93 : j_at 81 93 = some (.getfield 12, 9, 4, 0) := by decide +kernel
theorem at_81_96 : j_at 81 96 = some (.getfield 42, 1, 0, 0) := by decide +kernel
theorem at_81_99 : j_at 81 99 = some (.invokevirtual 48, 13, 2, 0) := by decide +kernel
theorem at_81_102 : j_at 81 102 = some (.iastore, 0, 0, 0) := by decide +kernel
theorem at_81_103 : j_at 81 103 = some (.iinc 3 1, 0, 0, 0) := by decide +kernel
theorem at_81_106 : j_at 81 106 = some (.goto (-35), 71, 0, 0) := by decide +kernel
theorem at_81_109 : j_at 81 109 = some (.return_, 0, 0, 0) := by decide +kernel
theorem at_82_0 : j_at 82 0 = some (.aload_n 0, 0, 0, 0) := by decide +kernel
theorem at_82_1 : j_at 82 1 = some (.getfield 12, 9, 4, 0) := by decide +kernel
theorem at_82_4 : j_at 82 4 = some (.getfield 42, 1, 0, 0) := by decide +kernel
theorem at_82_7 : j_at 82 7 = some (.iconst 1, 0, 0, 1) := by decide +kernel
theorem at_82_8 : j_at 82 8 = some (.isub, 0, 0, 0) := by decide +kernel
theorem at_82_9 : j_at 82 9 = some (.istore_n 1, 0, 0, 0) := by decide +kernel
theorem at_82_10 : j_at 82 10 = some (.iload_n 1, 0, 0, 0) := by decide +kernel
theorem at_82_11 : j_at 82 11 = some (.ifCond .lt 41, 52, 0, 0) := by decide +kernel
theorem at_82_14 : j_at 82 14 = some (.aload_n 0, 0, 0, 0) := by decide +kernel
theorem at_82_15 : j_at 82 15 = some (.getfield 18, 9, 5, 0) := by decide +kernel
theorem at_82_18 : j_at 82 18 = some (.iload_n 1, 0, 0, 0) := by decide +kernel
theorem at_82_19 : j_at 82 19 = some (.iaload, 0, 0, 0) := by decide +kernel
theorem at_82_20 : j_at 82 20 = some (.aload_n 0, 0, 0, 0) := by decide +kernel
theorem at_82_21 : j_at 82 21 = some (.getfield 29, 9, 3, 0) := by decide +kernel
theorem at_82_24 : j_at 82 24 = some (.if_icmp .ge 10, 34, 0, 0) := by decide +kernel
theorem at_82_27 : j_at 82 27 = some (.aload_n 0, 0, 0, 0) := by decide +kernel
theorem at_82_28 : j_at 82 28 = some (.iload_n 1, 0, 0, 0) := by decide +kernel
theorem at_82_29 : j_at 82 29 = some (.iconst 1, 0, 0, 1) := by decide +kernel
theorem at_82_30 : j_at 82 30 = some (.invokevirtual 52, 83, 2, 0) := by decide +kernel
theorem at_82_33 : j_at 82 33 = some (.return_, 0, 0, 0) := by decide +kernel
theorem at_82_34 : j_at 82 34 = some (.aload_n 0, 0, 0, 0) := by decide +kernel
theorem at_82_35 : j_at 82 35 = some (.iload_n 1, 0, 0, 0) := by decide +kernel
theorem at_82_36 : j_at 82 36 = some (.aload_n 0, 0, 0, 0) := by decide +kernel
theorem at_82_37 : j_at 82 37 = some (.getfield 18, 9, 5, 0) := by decide +kernel
theorem at_82_40 : j_at 82 40 = some (.iload_n 1, 0, 0, 0) := by decide +kernel
theorem at_82_41 : j_at 82 41 = some (.iaload, 0, 0, 0) := by decide +kernel
theorem at_82_42 : j_at 82 42 = some (.ineg, 0, 0, 0) := by decide +kernel
theorem at_82_43 : j_at 82 43 = some (.invokevirtual 52, 83, 2, 0) := by decide +kernel
theorem at_82_46 : j_at 82 46 = some (.iinc 1 (-1), 0, 0, 0) := by decide +kernel
theorem at_82_49 : j_at 82 49 = some (.goto (-39), 10, 0, 0) := by decide +kernel
theorem at_82_52 : j_at 82 52 = some (.return_, 0, 0, 0) := by decide +kernel
theorem at_83_0 : j_at 83 0 = some (.aload_n 0, 0, 0, 0) := by decide +kernel
theorem at_83_1 : j_at 83 1 = some (.getfield 18, 9, 5, 0) := by decide +kernel
theorem at_83_4 : j_at 83 4 = some (.iload_n 1, 0, 0, 0) := by decide +kernel
theorem at_83_5 : j_at 83 5 = some (.dup2, 0, 0, 0) := by decide +kernel
theorem at_83_6 : j_at 83 6 = some (.iaload, 0, 0, 0) := by decide +kernel
theorem at_83_7 : j_at 83 7 = some (.iload_n 2, 0, 0, 0) := by decide +kernel
theorem at_83_8 : j_at 83 8 = some (.iadd, 0, 0, 0) := by decide +kernel
theorem at_83_9 : j_at 83 9 = some (.iastore, 0, 0, 0) := by decide +kernel
theorem at_83_10 : j_at 83 10 = some (.aload_n 0, 0, 0, 0) := by decide +kernel
theorem at_83_11 : j_at 83 11 = some (.dup, 0, 0, 0) := by decide +kernel
theorem at_83_12 : j_at 83 12 = some (.getfield 36, 9, 1, 0) := by decide +kernel
theorem at_83_15 : j_at 83 15 = some (.iload_n 2, 0, 0, 0) := by decide +kernel
theorem at_83_16 : j_at 83 16 = some (.getstatic 56, 0, 0, 0) := by decide +kernel
theorem at_83_19 : j_at 83 19 = some (.aload_n 0, 0, 0, 0) := by decide +kernel
theorem at_83_20 : j_at 83 20 = some (.getfield 12, 9, 4, 0) := by decide +kernel
theorem at_83_23 : j_at 83 23 = some (.getfield 42, 1, 0, 0) := by decide +kernel
theorem at_83_26 : j_at 83 26 = some (.iconst 1, 0, 0, 1) := by decide +kernel
theorem at_83_27 : j_at 83 27 = some (.isub, 0, 0, 0) := by decide +kernel
theorem at_83_28 : j_at 83 28 = some (.iload_n 1, 0, 0, 0) := by decide +kernel
theorem at_83_29 : j_at 83 29 = some (.isub, 0, 0, 0) := by decide +kernel
theorem at_83_30 : j_at 83 30 = some (.iaload, 0, 0, 0) := by decide +kernel
theorem at_83_31 : j_at 83 31 = some (.imul, 0, 0, 0) := by decide +kernel
theorem at_83_32 : j_at 83 32 = some (.iadd, 0, 0, 0) := by decide +kernel
theorem at_83_33 : j_at 83 33 = some (.putfield 36, 9, 1, 0) := by decide +kernel
theorem at_83_36 : j_at 83 36 = some (.aload_n 0, 0, 0, 0) := by decide +kernel
theorem at_83_37 : j_at 83 37 = some (.dup, 0, 0, 0) := by decide +kernel
theorem at_83_38 : j_at 83 38 = some (.getfield 39, 9, 2, 0) := by decide +kernel
theorem at_83_41 : j_at 83 41 = some (.iload_n 2, 0, 0, 0) := by decide +kernel
theorem at_83_42 : j_at 83 42 = some (.aload_n 0, 0, 0, 0) := by decide +kernel
theorem at_83_43 : j_at 83 43 = some (.getfield 12, 9, 4, 0) := by decide +kernel
theorem at_83_46 : j_at 83 46 = some (.getfield 59, 1, 2, 0) := by decide +kernel
theorem at_83_49 : j_at 83 49 = some (.iload_n 1, 0, 0, 0) := by decide +kernel
theorem at_83_50 : j_at 83 50 = some (.iaload, 0, 0, 0) := by decide +kernel
theorem at_83_51 : j_at 83 51 = some (.imul, 0, 0, 0) := by decide +kernel
theorem at_83_52 : j_at 83 52 = some (.iadd, 0, 0, 0) := by decide +kernel
theorem at_83_53 : j_at 83 53 = some (.putfield 39, 9, 2, 0) := by decide +kernel
theorem at_83_56 : j_at 83 56 = some (.iconst 0, 0, 0, 0) := by decide +kernel
theorem at_83_57 : j_at 83 57 = some (.istore_n 3, 0, 0, 0) := by decide +kernel
theorem at_83_58 : j_at 83 58 = some (.iload_n 3, 0, 0, 0) := by decide +kernel
theorem at_83_59 : j_at 83 59 = some (.aload_n 0, 0, 0, 0) := by decide +kernel
theorem at_83_60 : j_at 83 60 = some (.getfield 12, 9, 4, 0) := by decide +kernel
theorem at_83_63 : j_at 83 63 = some (.getfield 45, 1, 1, 0) := by decide +kernel
theorem at_83_66 : j_at 83 66 = some (.if_icmp .ge 29, 95, 0, 0) := by decide +kernel
theorem at_83_69 : j_at 83 69 = some (.aload_n 0, 0, 0, 0) := by decide +kernel
theorem at_83_70 : j_at 83 70 = some (.getfield 22, 9, 6, 0) := by decide +kernel
theorem at_83_73 : j_at 83 73 = some (.iload_n 3, 0, 0, 0) := by decide +kernel
theorem at_83_74 : j_at 83 74 = some (.dup2, 0, 0, 0) := by decide +kernel
theorem at_83_75 : j_at 83 75 = some (.iaload, 0, 0, 0) := by decide +kernel
theorem at_83_76 : j_at 83 76 = some (.iload_n 2, 0, 0, 0) := by decide +kernel
theorem at_83_77 : j_at 83 77 = some (.aload_n 0, 0, 0, 0) := by decide +kernel
theorem at_83_78 : j_at 83 78 = some (.getfield 12, 9, 4, 0) := by decide +kernel
theorem at_83_81 : j_at 83 81 = some (.iload_n 3, 0, 0, 0) := by decide +kernel
theorem at_83_82 : j_at 83 82 = some (.iload_n 1, 0, 0, 0) := by decide +kernel
theorem at_83_83 : j_at 83 83 = some (.invokevirtual 48, 13, 2, 0) := by decide +kernel
theorem at_83_86 : j_at 83 86 = some (.imul, 0, 0, 0) := by decide +kernel
theorem at_83_87 : j_at 83 87 = some (.isub, 0, 0, 0) := by decide +kernel
theorem at_83_88 : j_at 83 88 = some (.iastore, 0, 0, 0) := by decide +kernel
theorem at_83_89 : j_at 83 89 = some (.iinc 3 1, 0, 0, 0) := by decide +kernel
theorem at_83_92 : j_at 83 92 = some (.goto (-34), 58, 0, 0) := by decide +kernel
theorem at_83_95 : j_at 83 95 = some (.return_, 0, 0, 0) := by decide +kernel
theorem at_84_0 : j_at 84 0 = some (.iconst 0, 0, 0, 0) := by decide +kernel
theorem at_84_1 : j_at 84 1 = some (.istore_n 1, 0, 0, 0) := by decide +kernel
theorem at_84_2 : j_at 84 2 = some (.iload_n 1, 0, 0, 0) := by decide +kernel
theorem at_84_3 : j_at 84 3 = some (.aload_n 0, 0, 0, 0) := by decide +kernel
theorem at_84_4 : j_at 84 4 = some (.getfield 12, 9, 4, 0) := by decide +kernel
theorem at_84_7 : j_at 84 7 = some (.getfield 45, 1, 1, 0) := by decide +kernel
theorem at_84_10 : j_at 84 10 = some (.if_icmp .ge 20, 30, 0, 0) := by decide +kernel
theorem at_84_13 : j_at 84 13 = some (.aload_n 0, 0, 0, 0) := by decide +kernel
theorem at_84_14 : j_at 84 14 = some (.getfield 22, 9, 6, 0) := by decide +kernel
theorem at_84_17 : j_at 84 17 = some (.iload_n 1, 0, 0, 0) := by decide +kernel
theorem at_84_18 : j_at 84 18 = some (.iaload, 0, 0, 0) := by decide +kernel
theorem at_84_19 : j_at 84 19 = some (.ifCond .ge 5, 24, 0, 0) := by decide +kernel
theorem at_84_22 : j_at 84 22 = some (.iconst 0, 0, 0, 0) := by decide +kernel
theorem at_84_23 : j_at 84 23 = some (.ireturn, 0, 0, 0) := by decide +kernel
theorem at_84_24 : j_at 84 24 = some (.iinc 1 1, 0, 0, 0) := by decide +kernel
theorem at_84_27 : j_at 84 27 = some (.goto (-25), 2, 0, 0) := by decide +kernel
theorem at_84_30 : j_at 84 30 = some (.iconst 1, 0, 0, 1) := by decide +kernel
theorem at_84_31 : j_at 84 31 = some (.ireturn, 0, 0, 0) := by decide +kernel
theorem at_85_0 : j_at 85 0 = some (.iconst 0, 0, 0, 0) := by decide +kernel
theorem at_85_1 : j_at 85 1 = some (.istore_n 1, 0, 0, 0) := by decide +kernel
theorem at_85_2 : j_at 85 2 = some (.iconst 0, 0, 0, 0) := by decide +kernel
theorem at_85_3 : j_at 85 3 = some (.istore_n 2, 0, 0, 0) := by decide +kernel
theorem at_85_4 : j_at 85 4 = some (.iload_n 2, 0, 0, 0) := by decide +kernel
theorem at_85_5 : j_at 85 5 = some (.aload_n 0, 0, 0, 0) := by decide +kernel
theorem at_85_6 : j_at 85 6 = some (.getfield 12, 9, 4, 0) := by decide +kernel
theorem at_85_9 : j_at 85 9 = some (.getfield 45, 1, 1, 0) := by decide +kernel
theorem at_85_12 : j_at 85 12 = some (.if_icmp .ge 21, 33, 0, 0) := by decide +kernel
theorem at_85_15 : j_at 85 15 = some (.aload_n 0, 0, 0, 0) := by decide +kernel
theorem at_85_16 : j_at 85 16 = some (.getfield 22, 9, 6, 0) := by decide +kernel
theorem at_85_19 : j_at 85 19 = some (.iload_n 2, 0, 0, 0) := by decide +kernel
theorem at_85_20 : j_at 85 20 = some (.iaload, 0, 0, 0) := by decide +kernel
theorem at_85_21 : j_at 85 21 = some (.ifCond .ge 6, 27, 0, 0) := by decide +kernel
theorem at_85_24 : j_at 85 24 = some (.iinc 1 1, 0, 0, 0) := by decide +kernel
theorem at_85_27 : j_at 85 27 = some (.iinc 2 1, 0, 0, 0) := by decide +kernel
theorem at_85_30 : j_at 85 30 = some (.goto (-26), 4, 0, 0) := by decide +kernel
theorem at_85_33 : j_at 85 33 = some (.iload_n 1, 0, 0, 0) := by decide +kernel
theorem at_85_34 : j_at 85 34 = some (.ireturn, 0, 0, 0) := by decide +kernel
theorem at_86_0 : j_at 86 0 = some (.lconst 0, 0, 0, 0) := by decide +kernel
theorem at_86_1 : j_at 86 1 = some (.lstore_n 2, 0, 0, 0) := by decide +kernel
theorem at_86_2 : j_at 86 2 = some (.iconst 0, 0, 0, 0) := by decide +kernel
theorem at_86_3 : j_at 86 3 = some (.istore 4, 0, 0, 0) := by decide +kernel
theorem at_86_5 : j_at 86 5 = some (.iload 4, 0, 0, 0) := by decide +kernel
theorem at_86_7 : j_at 86 7 = some (.aload_n 0, 0, 0, 0) := by decide +kernel
theorem at_86_8 : j_at 86 8 = some (.getfield 12, 9, 4, 0) := by decide +kernel
theorem at_86_11 : j_at 86 11 = some (.getfield 42, 1, 0, 0) := by decide +kernel
theorem at_86_14 : j_at 86 14 = some (.if_icmp .ge 25, 39, 0, 0) := by decide +kernel
theorem at_86_17 : j_at 86 17 = some (.lload_n 2, 0, 0, 0) := by decide +kernel
theorem at_86_18 : j_at 86 18 = some (.aload_n 1, 0, 0, 0) := by decide +kernel
theorem at_86_19 : j_at 86 19 = some (.iload 4, 0, 0, 0) := by decide +kernel
theorem at_86_21 : j_at 86 21 = some (.laload, 0, 0, 0) := by decide +kernel
theorem at_86_22 : j_at 86 22 = some (.aload_n 0, 0, 0, 0) := by decide +kernel
theorem at_86_23 : j_at 86 23 = some (.getfield 18, 9, 5, 0) := by decide +kernel
theorem at_86_26 : j_at 86 26 = some (.iload 4, 0, 0, 0) := by decide +kernel
theorem at_86_28 : j_at 86 28 = some (.iaload, 0, 0, 0) := by decide +kernel
theorem at_86_29 : j_at 86 29 = some (.i2l, 0, 0, 0) := by decide +kernel
theorem at_86_30 : j_at 86 30 = some (.lmul, 0, 0, 0) := by decide +kernel
theorem at_86_31 : j_at 86 31 = some (.ladd, 0, 0, 0) := by decide +kernel
theorem at_86_32 : j_at 86 32 = some (.lstore_n 2, 0, 0, 0) := by decide +kernel
theorem at_86_33 : j_at 86 33 = some (.iinc 4 1, 0, 0, 0) := by decide +kernel
theorem at_86_36 : j_at 86 36 = some (.goto (-31), 5, 0, 0) := by decide +kernel
theorem at_86_39 : j_at 86 39 = some (.lload_n 2, 0, 0, 0) := by decide +kernel
theorem at_86_40 : j_at 86 40 = some (.aload_n 1, 0, 0, 0) := by decide +kernel
theorem at_86_41 : j_at 86 41 = some (.aload_n 0, 0, 0, 0) := by decide +kernel
theorem at_86_42 : j_at 86 42 = some (.getfield 12, 9, 4, 0) := by decide +kernel
theorem at_86_45 : j_at 86 45 = some (.getfield 42, 1, 0, 0) := by decide +kernel
theorem at_86_48 : j_at 86 48 = some (.laload, 0, 0, 0) := by decide +kernel
theorem at_86_49 : j_at 86 49 = some (.lcmp, 0, 0, 0) := by decide +kernel
theorem at_86_50 : j_at 86 50 = some (.ifCond .le 7, 57, 0, 0) := by decide +kernel
theorem at_86_53 : j_at 86 53 = some (.iconst 1, 0, 0, 1) := by decide +kernel
theorem at_86_54 : j_at 86 54 = some (.goto 4, 58, 0, 0) := by decide +kernel
theorem at_86_57 : j_at 86 57 = some (.iconst 0, 0, 0, 0) := by decide +kernel
theorem at_86_58 : j_at 86 58 = some (.ireturn, 0, 0, 0) := by decide +kernel
theorem at_88_0 : j_at 88 0 = some (.iload_n 1, 0, 0, 0) := by decide +kernel
theorem at_88_1 : j_at 88 1 = some (.iconst 1, 0, 0, 1) := by decide +kernel
theorem at_88_2 : j_at 88 2 = some (.if_icmp .lt 8, 10, 0, 0) := by decide +kernel
theorem at_88_5 : j_at 88 5 = some (.iload_n 1, 0, 0, 0) := by decide +kernel
theorem at_88_6 : j_at 88 6 = some (.iconst 5, 0, 0, 5) := by decide +kernel
theorem at_88_7 : j_at 88 7 = some (.if_icmp .le 6, 13, 0, 0) := by decide +kernel
theorem at_88_10 : j_at 88 10 = some (.bipush (-2), 0, 0, -2) := by decide +kernel
theorem at_88_12 : j_at 88 12 = some (.ireturn, 0, 0, 0) := by decide +kernel
theorem at_88_13 : j_at 88 13 = some (.aload_n 0, 0, 0, 0) := by decide +kernel
theorem at_88_14 : j_at 88 14 = some (.getfield 14, 10, 0, 0) := by decide +kernel
theorem at_88_17 : j_at 88 17 = some (.getfield 77, 4, 0, 0) := by decide +kernel
theorem at_88_20 : j_at 88 20 = some (.getfield 80, 1, 0, 0) := by decide +kernel
theorem at_88_23 : j_at 88 23 = some (.istore_n 2, 0, 0, 0) := by decide +kernel
theorem at_88_24 : j_at 88 24 = some (.aload_n 0, 0, 0, 0) := by decide +kernel
theorem at_88_25 : j_at 88 25 = some (.getfield 14, 10, 0, 0) := by decide +kernel
theorem at_88_28 : j_at 88 28 = some (.iload_n 1, 0, 0, 0) := by decide +kernel
theorem at_88_29 : j_at 88 29 = some (.invokevirtual 84, 33, 1, 0) := by decide +kernel
theorem at_88_32 : j_at 88 32 = some (.aload_n 0, 0, 0, 0) := by decide +kernel
theorem at_88_33 : j_at 88 33 = some (.iconst 0, 0, 0, 0) := by decide +kernel
theorem at_88_34 : j_at 88 34 = some (.putfield 88, 10, 11, 0) := by decide +kernel
theorem at_88_37 : j_at 88 37 = some (.iload_n 2, 0, 0, 0) := by decide +kernel
theorem at_88_38 : j_at 88 38 = some (.ireturn, 0, 0, 0) := by decide +kernel
theorem at_89_0 : j_at 89 0 = some (.aload_n 0, 0, 0, 0) := by decide +kernel
theorem at_89_1 : j_at 89 1 = some (.iload_n 1, 0, 0, 0) := by decide +kernel
theorem at_89_2 : j_at 89 2 = some (.invokevirtual 92, 135, 1, 0) := by decide +kernel
theorem at_89_5 : j_at 89 5 = some (.ifCond .ne 5, 10, 0, 0) := by decide +kernel
theorem at_89_8 : j_at 89 8 = some (.iconst (-1), 0, 0, -1) := by decide +kernel
theorem at_89_9 : j_at 89 9 = some (.ireturn, 0, 0, 0) := by decide +kernel
theorem at_89_10 : j_at 89 10 = some (.iload_n 2, 0, 0, 0) := by decide +kernel
theorem at_89_11 : j_at 89 11 = some (.ifCond .lt 9, 20, 0, 0) := by decide +kernel
theorem at_89_14 : j_at 89 14 = some (.iload_n 2, 0, 0, 0) := by decide +kernel
theorem at_89_15 : j_at 89 15 = some (.bipush 99, 0, 0, 99) := by decide +kernel
theorem at_89_17 : j_at 89 17 = some (.if_icmp .le 6, 23, 0, 0) := by decide +kernel
theorem at_89_20 : j_at 89 20 = some (.bipush (-2), 0, 0, -2) := by decide +kernel
theorem at_89_22 : j_at 89 22 = some (.ireturn, 0, 0, 0) := by decide +kernel
theorem at_89_23 : j_at 89 23 = some (.aload_n 0, 0, 0, 0) := by decide +kernel
theorem at_89_24 : j_at 89 24 = some (.getfield 14, 10, 0, 0) := by decide +kernel
theorem at_89_27 : j_at 89 27 = some (.getfield 77, 4, 0, 0) := by decide +kernel
theorem at_89_30 : j_at 89 30 = some (.getfield 96, 1, 2, 0) := by decide +kernel
theorem at_89_33 : j_at 89 33 = some (.iload_n 1, 0, 0, 0) := by decide +kernel
theorem at_89_34 : j_at 89 34 = some (.iaload, 0, 0, 0) := by decide +kernel
theorem at_89_35 : j_at 89 35 = some (.istore_n 3, 0, 0, 0) := by decide +kernel
theorem at_89_36 : j_at 89 36 = some (.aload_n 0, 0, 0, 0) := by decide +kernel
theorem at_89_37 : j_at 89 37 = some (.getfield 14, 10, 0, 0) := by decide +kernel
theorem at_89_40 : j_at 89 40 = some (.getfield 77, 4, 0, 0) := by decide +kernel
theorem at_89_43 : j_at 89 43 = some (.getfield 96, 1, 2, 0) := by decide +kernel
theorem at_89_46 : j_at 89 46 = some (.iload_n 1, 0, 0, 0) := by decide +kernel
theorem at_89_47 : j_at 89 47 = some (.iload_n 2, 0, 0, 0) := by decide +kernel
theorem at_89_48 : j_at 89 48 = some (.iastore, 0, 0, 0) := by decide +kernel
theorem at_89_49 : j_at 89 49 = some (.aload_n 0, 0, 0, 0) := by decide +kernel
theorem at_89_50 : j_at 89 50 = some (.getfield 14, 10, 0, 0) := by decide +kernel
theorem at_89_53 : j_at 89 53 = some (.getfield 100, 4, 1, 0) := by decide +kernel
theorem at_89_56 : j_at 89 56 = some (.invokevirtual 103, 22, 0, 0) := by decide +kernel
theorem at_89_59 : j_at 89 59 = some (.aload_n 0, 0, 0, 0) := by decide +kernel
theorem at_89_60 : j_at 89 60 = some (.iconst 0, 0, 0, 0) := by decide +kernel
theorem at_89_61 : j_at 89 61 = some (.putfield 88, 10, 11, 0) := by decide +kernel
theorem at_89_64 : j_at 89 64 = some (.iload_n 3, 0, 0, 0) := by decide +kernel
theorem at_89_65 : j_at 89 65 = some (.ireturn, 0, 0, 0) := by decide +kernel
theorem at_90_0 : j_at 90 0 = some (.iload_n 1, 0, 0, 0) := by decide +kernel
theorem at_90_1 : j_at 90 1 = some (.ifCond .lt 15, 16, 0, 0) := by decide +kernel
theorem at_90_4 : j_at 90 4 = some (.iload_n 1, 0, 0, 0) := by decide +kernel
theorem at_90_5 : j_at 90 5 = some (.iconst 1, 0, 0, 1) := by decide +kernel
theorem at_90_6 : j_at 90 6 = some (.if_icmp .gt 10, 16, 0, 0) := by decide +kernel
theorem at_90_9 : j_at 90 9 = some (.iload_n 2, 0, 0, 0) := by decide +kernel
theorem at_90_10 : j_at 90 10 = some (.invokestatic 106, 139, 1, 0) := by decide +kernel
theorem at_90_13 : j_at 90 13 = some (.ifCond .ne 6, 19, 0, 0) := by decide +kernel
theorem at_90_16 : j_at 90 16 = some (.bipush (-2), 0, 0, -2) := by decide +kernel
theorem at_90_18 : j_at 90 18 = some (.ireturn, 0, 0, 0) := by decide +kernel
theorem at_90_19 : j_at 90 19 = some (.aload_n 0, 0, 0, 0) := by decide +kernel
theorem at_90_20 : j_at 90 20 = some (.getfield 14, 10, 0, 0) := by decide +kernel
theorem at_90_23 : j_at 90 23 = some (.getfield 77, 4, 0, 0) := by decide +kernel
theorem at_90_26 : j_at 90 26 = some (.getfield 109, 1, 1, 0) := by decide +kernel
theorem at_90_29 : j_at 90 29 = some (.bipush 8, 0, 0, 8) := by decide +kernel
theorem at_90_31 : j_at 90 31 = some (.if_icmp .lt 6, 37, 0, 0) := by decide +kernel
theorem at_90_34 : j_at 90 34 = some (.bipush (-4), 0, 0, -4) := by decide +kernel
theorem at_90_36 : j_at 90 36 = some (.ireturn, 0, 0, 0) := by decide +kernel
theorem at_90_37 : j_at 90 37 = some (.aload_n 0, 0, 0, 0) := by decide +kernel
theorem at_90_38 : j_at 90 38 = some (.getfield 14, 10, 0, 0) := by decide +kernel
theorem at_90_41 : j_at 90 41 = some (.getfield 77, 4, 0, 0) := by decide +kernel
theorem at_90_44 : j_at 90 44 = some (.iload_n 1, 0, 0, 0) := by decide +kernel
theorem at_90_45 : j_at 90 45 = some (.iload_n 2, 0, 0, 0) := by decide +kernel
theorem at_90_46 : j_at 90 46 = some (.invokevirtual 112, 10, 2, 0) := by decide +kernel
theorem at_90_49 : j_at 90 49 = some (.aload_n 0, 0, 0, 0) := by decide +kernel
theorem at_90_50 : j_at 90 50 = some (.iconst 0, 0, 0, 0) := by decide +kernel
theorem at_90_51 : j_at 90 51 = some (.putfield 88, 10, 11, 0) := by decide +kernel
theorem at_90_54 : j_at 90 54 = some (.aload_n 0, 0, 0, 0) := by decide +kernel
theorem at_90_55 : j_at 90 55 = some (.getfield 14, 10, 0, 0) := by decide +kernel
theorem at_90_58 : j_at 90 58 = some (.getfield 77, 4, 0, 0) := by decide +kernel
theorem at_90_61 : j_at 90 61 = some (.getfield 109, 1, 1, 0) := by decide +kernel
theorem at_90_64 : j_at 90 64 = some (.iconst 1, 0, 0, 1) := by decide +kernel
theorem at_90_65 : j_at 90 65 = some (.isub, 0, 0, 0) := by decide +kernel
theorem at_90_66 : j_at 90 66 = some (.ireturn, 0, 0, 0) := by decide +kernel
theorem at_91_0 : j_at 91 0 = some (.aload_n 0, 0, 0, 0) := by decide +kernel
theorem at_91_1 : j_at 91 1 = some (.iload_n 1, 0, 0, 0) := by decide +kernel
theorem at_91_2 : j_at 91 2 = some (.invokevirtual 116, 136, 1, 0) := by decide +kernel
theorem at_91_5 : j_at 91 5 = some (.ifCond .eq 11, 16, 0, 0) := by decide +kernel
theorem at_91_8 : j_at 91 8 = some (.aload_n 0, 0, 0, 0) := by decide +kernel
theorem at_91_9 : j_at 91 9 = some (.iload_n 2, 0, 0, 0) := by decide +kernel
theorem at_91_10 : j_at 91 10 = some (.invokevirtual 92, 135, 1, 0) := by decide +kernel
theorem at_91_13 : j_at 91 13 = some (.ifCond .ne 5, 18, 0, 0) := by decide +kernel
theorem at_91_16 : j_at 91 16 = some (.iconst (-1), 0, 0, -1) := by decide +kernel
theorem at_91_17 : j_at 91 17 = some (.ireturn, 0, 0, 0) := by decide +kernel
theorem at_91_18 : j_at 91 18 = some (.iload_n 3, 0, 0, 0) := by decide +kernel
theorem at_91_19 : j_at 91 19 = some (.invokestatic 119, 140, 1, 0) := by decide +kernel
theorem at_91_22 : j_at 91 22 = some (.ifCond .ne 6, 28, 0, 0) := by decide +kernel
theorem at_91_25 : j_at 91 25 = some (.bipush (-2), 0, 0, -2) := by decide +kernel
theorem at_91_27 : j_at 91 27 = some (.ireturn, 0, 0, 0) := by decide +kernel
theorem at_91_28 : j_at 91 28 = some (.aload_n 0, 0, 0, 0) := by decide +kernel
theorem at_91_29 : j_at 91 29 = some (.getfield 14, 10, 0, 0) := by decide +kernel
theorem at_91_32 : j_at 91 32 = some (.getfield 77, 4, 0, 0) := by decide +kernel
theorem at_91_35 : j_at 91 35 = some (.iload_n 1, 0, 0, 0) := by decide +kernel
theorem at_91_36 : j_at 91 36 = some (.iload_n 2, 0, 0, 0) := by decide +kernel
theorem at_91_37 : j_at 91 37 = some (.invokevirtual 122, 11, 2, 0) := by decide +kernel
theorem at_91_40 : j_at 91 40 = some (.istore 4, 0, 0, 0) := by decide +kernel
theorem at_91_42 : j_at 91 42 = some (.aload_n 0, 0, 0, 0) := by decide +kernel
theorem at_91_43 : j_at 91 43 = some (.getfield 14, 10, 0, 0) := by decide +kernel
theorem at_91_46 : j_at 91 46 = some (.getfield 77, 4, 0, 0) := by decide +kernel
theorem at_91_49 : j_at 91 49 = some (.iload_n 1, 0, 0, 0) := by decide +kernel
theorem at_91_50 : j_at 91 50 = some (.iload_n 2, 0, 0, 0) := by decide +kernel
theorem at_91_51 : j_at 91 51 = some (.iload_n 3, 0, 0, 0) := by decide +kernel
theorem at_91_52 : j_at 91 52 = some (.invokevirtual 126, 12, 3, 0) := by decide +kernel
theorem at_91_55 : j_at 91 55 = some (.aload_n 0, 0, 0, 0) := by decide +kernel
theorem at_91_56 : j_at 91 56 = some (.iconst 0, 0, 0, 0) := by decide +kernel
theorem at_91_57 : j_at 91 57 = some (.putfield 88, 10, 11, 0) := by decide +kernel
theorem at_91_60 : j_at 91 60 = some (.iload 4, 0, 0, 0) := by decide +kernel
theorem at_91_62 : j_at 91 62 = some (.bipush 100, 0, 0, 100) := by decide +kernel
theorem at_91_64 : j_at 91 64 = some (.iadd, 0, 0, 0) := by decide +kernel
theorem at_91_65 : j_at 91 65 = some (.ireturn, 0, 0, 0) := by decide +kernel
theorem at_92_0 : j_at 92 0 = some (.aload_n 0, 0, 0, 0) := by decide +kernel
theorem at_92_1 : j_at 92 1 = some (.iload_n 1, 0, 0, 0) := by decide +kernel
theorem at_92_2 : j_at 92 2 = some (.invokevirtual 116, 136, 1, 0) := by decide +kernel
theorem at_92_5 : j_at 92 5 = some (.ifCond .ne 5, 10, 0, 0) := by decide +kernel
theorem at_92_8 : j_at 92 8 = some (.iconst (-1), 0, 0, -1) := by decide +kernel
theorem at_92_9 : j_at 92 9 = some (.ireturn, 0, 0, 0) := by decide +kernel
theorem at_92_10 : j_at 92 10 = some (.iload_n 2, 0, 0, 0) := by decide +kernel
theorem at_92_11 : j_at 92 11 = some (.invokestatic 106, 139, 1, 0) := by decide +kernel
theorem at_92_14 : j_at 92 14 = some (.ifCond .ne 6, 20, 0, 0) := by decide +kernel
theorem at_92_17 : j_at 92 17 = some (.bipush (-2), 0, 0, -2) := by decide +kernel
theorem at_92_19 : j_at 92 19 = some (.ireturn, 0, 0, 0) := by decide +kernel
theorem at_92_20 : j_at 92 20 = some (.aload_n 0, 0, 0, 0) := by decide +kernel
theorem at_92_21 : j_at 92 21 = some (.getfield 14, 10, 0, 0) := by decide +kernel
theorem at_92_24 : j_at 92 24 = some (.getfield 77, 4, 0, 0) := by decide +kernel
theorem at_92_27 : j_at 92 27 = some (.getfield 130, 1, 4, 0) := by decide +kernel
theorem at_92_30 : j_at 92 30 = some (.iload_n 1, 0, 0, 0) := by decide +kernel
theorem at_92_31 : j_at 92 31 = some (.iaload, 0, 0, 0) := by decide +kernel
theorem at_92_32 : j_at 92 32 = some (.istore_n 3, 0, 0, 0) := by decide +kernel
theorem at_92_33 : j_at 92 33 = some (.aload_n 0, 0, 0, 0) := by decide +kernel
theorem at_92_34 : j_at 92 34 = some (.getfield 14, 10, 0, 0) := by decide +kernel
theorem at_92_37 : j_at 92 37 = some (.getfield 77, 4, 0, 0) := by decide +kernel
theorem at_92_40 : j_at 92 40 = some (.getfield 130, 1, 4, 0) := by decide +kernel
theorem at_92_43 : j_at 92 43 = some (.iload_n 1, 0, 0, 0) := by decide +kernel
theorem at_92_44 : j_at 92 44 = some (.iload_n 2, 0, 0, 0) := by decide +kernel
theorem at_92_45 : j_at 92 45 = some (.iastore, 0, 0, 0) := by decide +kernel
theorem at_92_46 : j_at 92 46 = some (.aload_n 0, 0, 0, 0) := by decide +kernel
theorem at_92_47 : j_at 92 47 = some (.iconst 0, 0, 0, 0) := by decide +kernel
theorem at_92_48 : j_at 92 48 = some (.putfield 88, 10, 11, 0) := by decide +kernel
theorem at_92_51 : j_at 92 51 = some (.iload_n 3, 0, 0, 0) := by decide +kernel
theorem at_92_52 : j_at 92 52 = some (.sipush 1000, 0, 0, 1000) := by decide +kernel
theorem at_92_55 : j_at 92 55 = some (.iadd, 0, 0, 0) := by decide +kernel
theorem at_92_56 : j_at 92 56 = some (.ireturn, 0, 0, 0) := by decide +kernel
theorem at_93_0 : j_at 93 0 = some (.aload_n 0, 0, 0, 0) := by decide +kernel
theorem at_93_1 : j_at 93 1 = some (.getfield 14, 10, 0, 0) := by decide +kernel
theorem at_93_4 : j_at 93 4 = some (.getfield 77, 4, 0, 0) := by decide +kernel
theorem at_93_7 : j_at 93 7 = some (.getfield 109, 1, 1, 0) := by decide +kernel
theorem at_93_10 : j_at 93 10 = some (.ifCond .gt 6, 16, 0, 0) := by decide +kernel
theorem at_93_13 : j_at 93 13 = some (.bipush (-3), 0, 0, -3) := by decide +kernel
theorem at_93_15 : j_at 93 15 = some (.ireturn, 0, 0, 0) := by decide +kernel
theorem at_93_16 : j_at 93 16 = some (.aload_n 0, 0, 0, 0) := by decide +kernel
theorem at_93_17 : j_at 93 17 = some (.getfield 14, 10, 0, 0) := by decide +kernel
theorem at_93_20 : j_at 93 20 = some (.getfield 77, 4, 0, 0) := by decide +kernel
theorem at_93_23 : j_at 93 23 = some (.dup, 0, 0, 0) := by decide +kernel
theorem at_93_24 : j_at 93 24 = some (.getfield 109, 1, 1, 0) := by decide +kernel
theorem at_93_27 : j_at 93 27 = some (.iconst 1, 0, 0, 1) := by decide +kernel
theorem at_93_28 : j_at 93 28 = some (.isub, 0, 0, 0) := by decide +kernel
theorem at_93_29 : j_at 93 29 = some (.putfield 109, 1, 1, 0) := by decide +kernel
theorem at_93_32 : j_at 93 32 = some (.aload_n 0, 0, 0, 0) := by decide +kernel
theorem at_93_33 : j_at 93 33 = some (.getfield 14, 10, 0, 0) := by decide +kernel
theorem at_93_36 : j_at 93 36 = some (.getfield 133, 4, 2, 0) := by decide +kernel
theorem at_93_39 : j_at 93 39 = some (.aload_n 0, 0, 0, 0) := by decide +kernel
theorem at_93_40 : j_at 93 40 = some (.getfield 14, 10, 0, 0) := by decide +kernel
theorem at_93_43 : j_at 93 43 = some (.getfield 77, 4, 0, 0) := by decide +kernel
theorem at_93_46 : j_at 93 46 = some (.getfield 109, 1, 1, 0) := by decide +kernel
theorem at_93_49 : j_at 93 49 = some (.iconst 0, 0, 0, 0) := by decide +kernel
theorem at_93_50 : j_at 93 50 = some (.iastore, 0, 0, 0) := by decide +kernel
theorem at_93_51 : j_at 93 51 = some (.aload_n 0, 0, 0, 0) := by decide +kernel
theorem at_93_52 : j_at 93 52 = some (.iconst 0, 0, 0, 0) := by decide +kernel
theorem at_93_53 : j_at 93 53 = some (.putfield 88, 10, 11, 0) := by decide +kernel
theorem at_93_56 : j_at 93 56 = some (.aload_n 0, 0, 0, 0) := by decide +kernel
theorem at_93_57 : j_at 93 57 = some (.getfield 14, 10, 0, 0) := by decide +kernel
theorem at_93_60 : j_at 93 60 = some (.getfield 77, 4, 0, 0) := by decide +kernel
theorem at_93_63 : j_at 93 63 = some (.getfield 109, 1, 1, 0) := by decide +kernel
theorem at_93_66 : j_at 93 66 = some (.ireturn, 0, 0, 0) := by decide +kernel
theorem at_94_0 : j_at 94 0 = some (.iload_n 1, 0, 0, 0) := by decide +kernel
theorem at_94_1 : j_at 94 1 = some (.ifCond .lt 9, 10, 0, 0) := by decide +kernel
theorem at_94_4 : j_at 94 4 = some (.iload_n 1, 0, 0, 0) := by decide +kernel
theorem at_94_5 : j_at 94 5 = some (.bipush 127, 0, 0, 127) := by decide +kernel
theorem at_94_7 : j_at 94 7 = some (.if_icmp .le 6, 13, 0, 0) := by decide +kernel
theorem at_94_10 : j_at 94 10 = some (.bipush (-2), 0, 0, -2) := by decide +kernel
theorem at_94_12 : j_at 94 12 = some (.ireturn, 0, 0, 0) := by decide +kernel
theorem at_94_13 : j_at 94 13 = some (.aload_n 0, 0, 0, 0) := by decide +kernel
theorem at_94_14 : j_at 94 14 = some (.getfield 62, 10, 8, 0) := by decide +kernel
theorem at_94_17 : j_at 94 17 = some (.getfield 136, 7, 0, 0) := by decide +kernel
theorem at_94_20 : j_at 94 20 = some (.bipush 80, 0, 0, 80) := by decide +kernel
theorem at_94_22 : j_at 94 22 = some (.if_icmp .lt 6, 28, 0, 0) := by decide +kernel
theorem at_94_25 : j_at 94 25 = some (.bipush (-4), 0, 0, -4) := by decide +kernel
theorem at_94_27 : j_at 94 27 = some (.ireturn, 0, 0, 0) := by decide +kernel
theorem at_94_28 : j_at 94 28 = some (.aload_n 0, 0, 0, 0) := by decide +kernel
theorem at_94_29 : j_at 94 29 = some (.getfield 62, 10, 8, 0) := by decide +kernel
theorem at_94_32 : j_at 94 32 = some (.getfield 139, 7, 2, 0) := by decide +kernel
theorem at_94_35 : j_at 94 35 = some (.aload_n 0, 0, 0, 0) := by decide +kernel
theorem at_94_36 : j_at 94 36 = some (.getfield 62, 10, 8, 0) := by decide +kernel
theorem at_94_39 : j_at 94 39 = some (.getfield 136, 7, 0, 0) := by decide +kernel
theorem at_94_42 : j_at 94 42 = some (.iload_n 1, 0, 0, 0) := by decide +kernel
theorem at_94_43 : j_at 94 43 = some (.i2b, 0, 0, 0) := by decide +kernel
theorem at_94_44 : j_at 94 44 = some (.bastore, 0, 0, 0) := by decide +kernel
theorem at_94_45 : j_at 94 45 = some (.aload_n 0, 0, 0, 0) := by decide +kernel
theorem at_94_46 : j_at 94 46 = some (.getfield 62, 10, 8, 0) := by decide +kernel
theorem at_94_49 : j_at 94 49 = some (.dup, 0, 0, 0) := by decide +kernel
theorem at_94_50 : j_at 94 50 = some (.getfield 136, 7, 0, 0) := by decide +kernel
theorem at_94_53 : j_at 94 53 = some (.iconst 1, 0, 0, 1) := by decide +kernel
theorem at_94_54 : j_at 94 54 = some (.iadd, 0, 0, 0) := by decide +kernel
theorem at_94_55 : j_at 94 55 = some (.putfield 136, 7, 0, 0) := by decide +kernel
theorem at_94_58 : j_at 94 58 = some (.aload_n 0, 0, 0, 0) := by decide +kernel
theorem at_94_59 : j_at 94 59 = some (.getfield 62, 10, 8, 0) := by decide +kernel
theorem at_94_62 : j_at 94 62 = some (.getfield 136, 7, 0, 0) := by decide +kernel
theorem at_94_65 : j_at 94 65 = some (.ireturn, 0, 0, 0) := by decide +kernel
theorem at_95_0 : j_at 95 0 = some (.aload_n 0, 0, 0, 0) := by decide +kernel
theorem at_95_1 : j_at 95 1 = some (.getfield 62, 10, 8, 0) := by decide +kernel
theorem at_95_4 : j_at 95 4 = some (.aload_n 0, 0, 0, 0) := by decide +kernel
theorem at_95_5 : j_at 95 5 = some (.getfield 14, 10, 0, 0) := by decide +kernel
theorem at_95_8 : j_at 95 8 = some (.getfield 77, 4, 0, 0) := by decide +kernel
theorem at_95_11 : j_at 95 11 = some (.getfield 80, 1, 0, 0) := by decide +kernel
theorem at_95_14 : j_at 95 14 = some (.invokevirtual 143, 65, 1, 0) := by decide +kernel
theorem at_95_17 : j_at 95 17 = some (.istore_n 1, 0, 0, 0) := by decide +kernel
theorem at_95_18 : j_at 95 18 = some (.aload_n 0, 0, 0, 0) := by decide +kernel
theorem at_95_19 : j_at 95 19 = some (.getfield 62, 10, 8, 0) := by decide +kernel
theorem at_95_22 : j_at 95 22 = some (.iconst 0, 0, 0, 0) := by decide +kernel
theorem at_95_23 : j_at 95 23 = some (.putfield 136, 7, 0, 0) := by decide +kernel
theorem at_95_26 : j_at 95 26 = some (.iload_n 1, 0, 0, 0) := by decide +kernel
theorem at_95_27 : j_at 95 27 = some (.ifCond .lt 8, 35, 0, 0) := by decide +kernel
theorem at_95_30 : j_at 95 30 = some (.bipush (-10), 0, 0, -10) := by decide +kernel
theorem at_95_32 : j_at 95 32 = some (.iload_n 1, 0, 0, 0) := by decide +kernel
theorem at_95_33 : j_at 95 33 = some (.isub, 0, 0, 0) := by decide +kernel
theorem at_95_34 : j_at 95 34 = some (.ireturn, 0, 0, 0) := by decide +kernel
theorem at_95_35 : j_at 95 35 = some (.aload_n 0, 0, 0, 0) := by decide +kernel
theorem at_95_36 : j_at 95 36 = some (.getfield 14, 10, 0, 0) := by decide +kernel
theorem at_95_39 : j_at 95 39 = some (.getfield 77, 4, 0, 0) := by decide +kernel
theorem at_95_42 : j_at 95 42 = some (.getfield 109, 1, 1, 0) := by decide +kernel
theorem at_95_45 : j_at 95 45 = some (.aload_n 0, 0, 0, 0) := by decide +kernel
theorem at_95_46 : j_at 95 46 = some (.getfield 62, 10, 8, 0) := by decide +kernel
theorem at_95_49 : j_at 95 49 = some (.getfield 147, 7, 1, 0) := by decide +kernel
theorem at_95_52 : j_at 95 52 = some (.iadd, 0, 0, 0) := by decide +kernel
theorem at_95_53 : j_at 95 53 = some (.bipush 8, 0, 0, 8) := by decide +kernel
theorem at_95_55 : j_at 95 55 = some (.if_icmp .le 6, 61, 0, 0) := by decide +kernel
theorem at_95_58 : j_at 95 58 = some (.bipush (-4), 0, 0, -4) := by decide +kernel
theorem at_95_60 : j_at 95 60 = some (.ireturn, 0, 0, 0) := by decide +kernel
theorem at_95_61 : j_at 95 61 = some (.aload_n 0, 0, 0, 0) := by decide +kernel
theorem at_95_62 : j_at 95 62 = some (.getfield 62, 10, 8, 0) := by decide +kernel
theorem at_95_65 : j_at 95 65 = some (.aload_n 0, 0, 0, 0) := by decide +kernel
theorem at_95_66 : j_at 95 66 = some (.getfield 14, 10, 0, 0) := by decide +kernel
theorem at_95_69 : j_at 95 69 = some (.getfield 77, 4, 0, 0) := by decide +kernel
theorem at_95_72 : j_at 95 72 = some (.invokevirtual 150, 66, 1, 0) := by decide +kernel
theorem at_95_75 : j_at 95 75 = some (.aload_n 0, 0, 0, 0) := by decide +kernel
theorem at_95_76 : j_at 95 76 = some (.iconst 0, 0, 0, 0) := by decide +kernel
theorem at_95_77 : j_at 95 77 = some (.putfield 88, 10, 11, 0) := by decide +kernel
theorem at_95_80 : j_at 95 80 = some (.aload_n 0, 0, 0, 0) := by decide +kernel
theorem at_95_81 : j_at 95 81 = some (.getfield 62, 10, 8, 0) := by decide +kernel
theorem at_95_84 : j_at 95 84 = some (.getfield 147, 7, 1, 0) := by decide +kernel
theorem at_95_87 : j_at 95 87 = some (.ireturn, 0, 0, 0) := by decide +kernel
theorem at_96_0 : j_at 96 0 = some (.aload_n 0, 0, 0, 0) := by decide +kernel
theorem at_96_1 : j_at 96 1 = some (.iload_n 1, 0, 0, 0) := by decide +kernel
theorem at_96_2 : j_at 96 2 = some (.invokevirtual 116, 136, 1, 0) := by decide +kernel
theorem at_96_5 : j_at 96 5 = some (.ifCond .eq 23, 28, 0, 0) := by decide +kernel
theorem at_96_8 : j_at 96 8 = some (.iload_n 2, 0, 0, 0) := by decide +kernel
theorem at_96_9 : j_at 96 9 = some (.ifCond .lt 19, 28, 0, 0) := by decide +kernel
theorem at_96_12 : j_at 96 12 = some (.iload_n 2, 0, 0, 0) := by decide +kernel
theorem at_96_13 : j_at 96 13 = some (.aload_n 0, 0, 0, 0) := by decide +kernel
theorem at_96_14 : j_at 96 14 = some (.getfield 14, 10, 0, 0) := by decide +kernel
theorem at_96_17 : j_at 96 17 = some (.getfield 77, 4, 0, 0) := by decide +kernel
theorem at_96_20 : j_at 96 20 = some (.getfield 80, 1, 0, 0) := by decide +kernel
theorem at_96_23 : j_at 96 23 = some (.iconst 1, 0, 0, 1) := by decide +kernel
theorem at_96_24 : j_at 96 24 = some (.iadd, 0, 0, 0) := by decide +kernel
theorem at_96_25 : j_at 96 25 = some (.if_icmp .le 5, 30, 0, 0) := by decide +kernel
theorem at_96_28 : j_at 96 28 = some (.iconst (-1), 0, 0, -1) := by decide +kernel
theorem at_96_29 : j_at 96 29 = some (.ireturn, 0, 0, 0) := by decide +kernel
theorem at_96_30 : j_at 96 30 = some (.iload_n 2, 0, 0, 0) := by decide +kernel
theorem at_96_31 : j_at 96 31 = some (.ifCond .ne 20, 51, 0, 0) := by decide +kernel
theorem at_96_34 : j_at 96 34 = some (.aload_n 0, 0, 0, 0) := by decide +kernel
theorem at_96_35 : j_at 96 35 = some (.getfield 14, 10, 0, 0) := by decide +kernel
theorem at_96_38 : j_at 96 38 = some (.getfield 77, 4, 0, 0) := by decide +kernel
theorem at_96_41 : j_at 96 41 = some (.getfield 154, 1, 3, 0) := by decide +kernel
theorem at_96_44 : j_at 96 44 = some (.iload_n 1, 0, 0, 0) := by decide +kernel
theorem at_96_45 : j_at 96 45 = some (.iaload, 0, 0, 0) := by decide +kernel
theorem at_96_46 : j_at 96 46 = some (.sipush 1000, 0, 0, 1000) := by decide +kernel
theorem at_96_49 : j_at 96 49 = some (.iadd, 0, 0, 0) := by decide +kernel
theorem at_96_50 : j_at 96 50 = some (.ireturn, 0, 0, 0) := by decide +kernel
theorem at_96_51 : j_at 96 51 = some (.iload_n 2, 0, 0, 0) := by decide +kernel
theorem at_96_52 : j_at 96 52 = some (.iconst 1, 0, 0, 1) := by decide +kernel
theorem at_96_53 : j_at 96 53 = some (.if_icmp .ne 20, 73, 0, 0) := by decide +kernel
theorem at_96_56 : j_at 96 56 = some (.aload_n 0, 0, 0, 0) := by decide +kernel
theorem at_96_57 : j_at 96 57 = some (.getfield 14, 10, 0, 0) := by decide +kernel
theorem at_96_60 : j_at 96 60 = some (.getfield 77, 4, 0, 0) := by decide +kernel
theorem at_96_63 : j_at 96 63 = some (.getfield 130, 1, 4, 0) := by decide +kernel
theorem at_96_66 : j_at 96 66 = some (.iload_n 1, 0, 0, 0) := by decide +kernel
theorem at_96_67 : j_at 96 67 = some (.iaload, 0, 0, 0) := by decide +kernel
theorem at_96_68 : j_at 96 68 = some (.sipush 1000, 0, 0, 1000) := by decide +kernel
theorem at_96_71 : j_at 96 71 = some (.iadd, 0, 0, 0) := by decide +kernel
theorem at_96_72 : j_at 96 72 = some (.ireturn, 0, 0, 0) := by decide +kernel
theorem at_96_73 : j_at 96 73 = some (.aload_n 0, 0, 0, 0) := by decide +kernel
theorem at_96_74 : j_at 96 74 = some (.getfield 14, 10, 0, 0) := by decide +kernel
theorem at_96_77 : j_at 96 77 = some (.getfield 77, 4, 0, 0) := by decide +kernel
theorem at_96_80 : j_at 96 80 = some (.iload_n 1, 0, 0, 0) := by decide +kernel
theorem at_96_81 : j_at 96 81 = some (.iload_n 2, 0, 0, 0) := by decide +kernel
theorem at_96_82 : j_at 96 82 = some (.iconst 2, 0, 0, 2) := by decide +kernel
theorem at_96_83 : j_at 96 83 = some (.isub, 0, 0, 0) := by decide +kernel
theorem at_96_84 : j_at 96 84 = some (.invokevirtual 122, 11, 2, 0) := by decide +kernel
theorem at_96_87 : j_at 96 87 = some (.sipush 1000, 0, 0, 1000) := by decide +kernel
theorem at_96_90 : j_at 96 90 = some (.iadd, 0, 0, 0) := by decide +kernel
theorem at_96_91 : j_at 96 91 = some (.ireturn, 0, 0, 0) := by decide +kernel
theorem at_97_0 : j_at 97 0 = some (.iload_n 1, 0, 0, 0) := by decide +kernel
theorem at_97_1 : j_at 97 1 = some (.ifCond .lt 9, 10, 0, 0) := by decide +kernel
theorem at_97_4 : j_at 97 4 = some (.iload_n 1, 0, 0, 0) := by decide +kernel
theorem at_97_5 : j_at 97 5 = some (.bipush 12, 0, 0, 12) := by decide +kernel
theorem at_97_7 : j_at 97 7 = some (.if_icmp .le 6, 13, 0, 0) := by decide +kernel
theorem at_97_10 : j_at 97 10 = some (.bipush (-2), 0, 0, -2) := by decide +kernel
theorem at_97_12 : j_at 97 12 = some (.ireturn, 0, 0, 0) := by decide +kernel
theorem at_97_13 : j_at 97 13 = some (.aload_n 0, 0, 0, 0) := by decide +kernel
theorem at_97_14 : j_at 97 14 = some (.iconst 1, 0, 0, 1) := by decide +kernel
theorem at_97_15 : j_at 97 15 = some (.putfield 88, 10, 11, 0) := by decide +kernel
theorem at_97_18 : j_at 97 18 = some (.aload_n 0, 0, 0, 0) := by decide +kernel
theorem at_97_19 : j_at 97 19 = some (.getfield 31, 10, 3, 0) := by decide +kernel
theorem at_97_22 : j_at 97 22 = some (.aload_n 0, 0, 0, 0) := by decide +kernel
theorem at_97_23 : j_at 97 23 = some (.getfield 14, 10, 0, 0) := by decide +kernel
theorem at_97_26 : j_at 97 26 = some (.getfield 77, 4, 0, 0) := by decide +kernel
theorem at_97_29 : j_at 97 29 = some (.iload_n 1, 0, 0, 0) := by decide +kernel
theorem at_97_30 : j_at 97 30 = some (.invokevirtual 157, 29, 2, 0) := by decide +kernel
theorem at_97_33 : j_at 97 33 = some (.ireturn, 0, 0, 0) := by decide +kernel
theorem at_98_0 : j_at 98 0 = some (.aload_n 0, 0, 0, 0) := by decide +kernel
theorem at_98_1 : j_at 98 1 = some (.getfield 14, 10, 0, 0) := by decide +kernel
theorem at_98_4 : j_at 98 4 = some (.getfield 77, 4, 0, 0) := by decide +kernel
theorem at_98_7 : j_at 98 7 = some (.getfield 80, 1, 0, 0) := by decide +kernel
theorem at_98_10 : j_at 98 10 = some (.istore_n 3, 0, 0, 0) := by decide +kernel
theorem at_98_11 : j_at 98 11 = some (.aload_n 0, 0, 0, 0) := by decide +kernel
theorem at_98_12 : j_at 98 12 = some (.getfield 88, 10, 11, 0) := by decide +kernel
theorem at_98_15 : j_at 98 15 = some (.ifCond .eq 34, 49, 0, 0) := by decide +kernel
theorem at_98_18 : j_at 98 18 = some (.iload_n 1, 0, 0, 0) := by decide +kernel
theorem at_98_19 : j_at 98 19 = some (.bipush (-2), 0, 0, -2) := by decide +kernel
theorem at_98_21 : j_at 98 21 = some (.if_icmp .lt 28, 49, 0, 0) := by decide +kernel
theorem at_98_24 : j_at 98 24 = some (.iload_n 1, 0, 0, 0) := by decide +kernel
theorem at_98_25 : j_at 98 25 = some (.aload_n 0, 0, 0, 0) := by decide +kernel
theorem at_98_26 : j_at 98 26 = some (.getfield 31, 10, 3, 0) := by decide +kernel
theorem at_98_29 : j_at 98 29 = some (.getfield 161, 3, 0, 0) := by decide +kernel
theorem at_98_32 : j_at 98 32 = some (.getfield 165, 5, 0, 0) := by decide +kernel
theorem at_98_35 : j_at 98 35 = some (.if_icmp .ge 14, 49, 0, 0) := by decide +kernel
theorem at_98_38 : j_at 98 38 = some (.iload_n 2, 0, 0, 0) := by decide +kernel
theorem at_98_39 : j_at 98 39 = some (.ifCond .lt 10, 49, 0, 0) := by decide +kernel
theorem at_98_42 : j_at 98 42 = some (.iload_n 2, 0, 0, 0) := by decide +kernel
theorem at_98_43 : j_at 98 43 = some (.iload_n 3, 0, 0, 0) := by decide +kernel
theorem at_98_44 : j_at 98 44 = some (.iconst 1, 0, 0, 1) := by decide +kernel
theorem at_98_45 : j_at 98 45 = some (.iadd, 0, 0, 0) := by decide +kernel
theorem at_98_46 : j_at 98 46 = some (.if_icmp .le 7, 53, 0, 0) := by decide +kernel
theorem at_98_49 : j_at 98 49 = some (.ldc2_w 170, 0, 0, -9223372036854775808) := by decide +kernel
theorem at_98_52 : j_at 98 52 = some (.lreturn, 0, 0, 0) := by decide +kernel
theorem at_98_53 : j_at 98 53 = some (.iload_n 1, 0, 0, 0) := by decide +kernel
theorem at_98_54 : j_at 98 54 = some (.bipush (-2), 0, 0, -2) := by decide +kernel
theorem at_98_56 : j_at 98 56 = some (.if_icmp .ne 28, 84, 0, 0) := by decide +kernel
theorem at_98_59 : j_at 98 59 = some (.iload_n 2, 0, 0, 0) := by decide +kernel
theorem at_98_60 : j_at 98 60 = some (.iload_n 3, 0, 0, 0) := by decide +kernel
theorem at_98_61 : j_at 98 61 = some (.if_icmp .ge 19, 80, 0, 0) := by decide +kernel
theorem at_98_64 : j_at 98 64 = some (.aload_n 0, 0, 0, 0) := by decide +kernel
theorem at_98_65 : j_at 98 65 = some (.getfield 31, 10, 3, 0) := by decide +kernel
theorem at_98_68 : j_at 98 68 = some (.getfield 161, 3, 0, 0) := by decide +kernel
theorem at_98_71 : j_at 98 71 = some (.getfield 172, 5, 6, 0) := by decide +kernel
theorem at_98_74 : j_at 98 74 = some (.iload_n 2, 0, 0, 0) := by decide +kernel
theorem at_98_75 : j_at 98 75 = some (.iaload, 0, 0, 0) := by decide +kernel
theorem at_98_76 : j_at 98 76 = some (.i2l, 0, 0, 0) := by decide +kernel
theorem at_98_77 : j_at 98 77 = some (.goto 6, 83, 0, 0) := by decide +kernel
theorem at_98_80 : j_at 98 80 = some (.ldc2_w 170, 0, 0, -9223372036854775808) := by decide +kernel
theorem at_98_83 : j_at 98 83 = some (.lreturn, 0, 0, 0) := by decide +kernel
theorem at_98_84 : j_at 98 84 = some (.iload_n 1, 0, 0, 0) := by decide +kernel
theorem at_98_85 : j_at 98 85 = some (.iconst (-1), 0, 0, -1) := by decide +kernel
theorem at_98_86 : j_at 98 86 = some (.if_icmp .ne 15, 101, 0, 0) := by decide +kernel
theorem at_98_89 : j_at 98 89 = some (.aload_n 0, 0, 0, 0) := by decide +kernel
theorem at_98_90 : j_at 98 90 = some (.getfield 31, 10, 3, 0) := by decide +kernel
theorem at_98_93 : j_at 98 93 = some (.getfield 161, 3, 0, 0) := by decide +kernel
theorem at_98_96 : j_at 98 96 = some (.iload_n 2, 0, 0, 0) := by decide +kernel
theorem at_98_97 : j_at 98 97 = some (.invokevirtual 175, 59, 1, 0) := by decide +kernel
theorem at_98_100 : j_at 98 100 = some (.lreturn, 0, 0, 0) := by decide +kernel
theorem at_98_101 : j_at 98 101 = some (.aload_n 0, 0, 0, 0) := by decide +kernel
theorem at_98_102 : j_at 98 102 = some (.getfield 31, 10, 3, 0) := by decide +kernel
theorem at_98_105 : j_at 98 105 = some (.getfield 161, 3, 0, 0) := by decide +kernel
theorem at_98_108 : j_at 98 108 = some (.iload_n 1, 0, 0, 0) := by decide +kernel
theorem at_98_109 : j_at 98 109 = some (.iload_n 2, 0, 0, 0) := by decide +kernel
theorem at_98_110 : j_at 98 110 = some (.invokevirtual 179, 58, 2, 0) := by decide +kernel
theorem at_98_113 : j_at 98 113 = some (.lreturn, 0, 0, 0) := by decide +kernel
theorem at_99_0 : j_at 99 0 = some (.aload_n 0, 0, 0, 0) := by decide +kernel
theorem at_99_1 : j_at 99 1 = some (.getfield 88, 10, 11, 0) := by decide +kernel
theorem at_99_4 : j_at 99 4 = some (.ifCond .eq 18, 22, 0, 0) := by decide +kernel
theorem at_99_7 : j_at 99 7 = some (.aload_n 0, 0, 0, 0) := by decide +kernel
theorem at_99_8 : j_at 99 8 = some (.iload_n 1, 0, 0, 0) := by decide +kernel
theorem at_99_9 : j_at 99 9 = some (.invokevirtual 92, 135, 1, 0) := by decide +kernel
theorem at_99_12 : j_at 99 12 = some (.ifCond .eq 10, 22, 0, 0) := by decide +kernel
theorem at_99_15 : j_at 99 15 = some (.iload_n 2, 0, 0, 0) := by decide +kernel
theorem at_99_16 : j_at 99 16 = some (.invokestatic 183, 141, 1, 0) := by decide +kernel
theorem at_99_19 : j_at 99 19 = some (.ifCond .ne 7, 26, 0, 0) := by decide +kernel
theorem at_99_22 : j_at 99 22 = some (.ldc2_w 170, 0, 0, -9223372036854775808) := by decide +kernel
theorem at_99_25 : j_at 99 25 = some (.lreturn, 0, 0, 0) := by decide +kernel
theorem at_99_26 : j_at 99 26 = some (.aload_n 0, 0, 0, 0) := by decide +kernel
theorem at_99_27 : j_at 99 27 = some (.getfield 31, 10, 3, 0) := by decide +kernel
theorem at_99_30 : j_at 99 30 = some (.getfield 161, 3, 0, 0) := by decide +kernel
theorem at_99_33 : j_at 99 33 = some (.iload_n 1, 0, 0, 0) := by decide +kernel
theorem at_99_34 : j_at 99 34 = some (.invokevirtual 186, 53, 1, 0) := by decide +kernel
theorem at_99_37 : j_at 99 37 = some (.aload_n 0, 0, 0, 0) := by decide +kernel
theorem at_99_38 : j_at 99 38 = some (.getfield 31, 10, 3, 0) := by decide +kernel
theorem at_99_41 : j_at 99 41 = some (.getfield 161, 3, 0, 0) := by decide +kernel
theorem at_99_44 : j_at 99 44 = some (.getfield 189, 5, 4, 0) := by decide +kernel
theorem at_99_47 : j_at 99 47 = some (.iload_n 2, 0, 0, 0) := by decide +kernel
theorem at_99_48 : j_at 99 48 = some (.invokestatic 193, 146, 3, 0) := by decide +kernel
theorem at_99_51 : j_at 99 51 = some (.lreturn, 0, 0, 0) := by decide +kernel
theorem at_100_0 : j_at 100 0 = some (.aload_n 0, 0, 0, 0) := by decide +kernel
theorem at_100_1 : j_at 100 1 = some (.getfield 88, 10, 11, 0) := by decide +kernel
theorem at_100_4 : j_at 100 4 = some (.ifCond .eq 10, 14, 0, 0) := by decide +kernel
theorem at_100_7 : j_at 100 7 = some (.iload_n 1, 0, 0, 0) := by decide +kernel
theorem at_100_8 : j_at 100 8 = some (.invokestatic 183, 141, 1, 0) := by decide +kernel
theorem at_100_11 : j_at 100 11 = some (.ifCond .ne 7, 18, 0, 0) := by decide +kernel
theorem at_100_14 : j_at 100 14 = some (.ldc2_w 170, 0, 0, -9223372036854775808) := by decide +kernel
theorem at_100_17 : j_at 100 17 = some (.lreturn, 0, 0, 0) := by decide +kernel
theorem at_100_18 : j_at 100 18 = some (.aload_n 0, 0, 0, 0) := by decide +kernel
theorem at_100_19 : j_at 100 19 = some (.getfield 31, 10, 3, 0) := by decide +kernel
theorem at_100_22 : j_at 100 22 = some (.getfield 161, 3, 0, 0) := by decide +kernel
theorem at_100_25 : j_at 100 25 = some (.getfield 197, 5, 3, 0) := by decide +kernel
theorem at_100_28 : j_at 100 28 = some (.aload_n 0, 0, 0, 0) := by decide +kernel
theorem at_100_29 : j_at 100 29 = some (.getfield 31, 10, 3, 0) := by decide +kernel
theorem at_100_32 : j_at 100 32 = some (.getfield 161, 3, 0, 0) := by decide +kernel
theorem at_100_35 : j_at 100 35 = some (.getfield 189, 5, 4, 0) := by decide +kernel
theorem at_100_38 : j_at 100 38 = some (.iload_n 1, 0, 0, 0) := by decide +kernel
theorem at_100_39 : j_at 100 39 = some (.invokestatic 193, 146, 3, 0) := by decide +kernel
theorem at_100_42 : j_at 100 42 = some (.lreturn, 0, 0, 0) := by decide +kernel
theorem at_101_0 : j_at 101 0 = some (.aload_n 0, 0, 0, 0) := by decide +kernel
theorem at_101_1 : j_at 101 1 = some (.getfield 88, 10, 11, 0) := by decide +kernel
theorem at_101_4 : j_at 101 4 = some (.ifCond .eq 18, 22, 0, 0) := by decide +kernel
theorem at_101_7 : j_at 101 7 = some (.aload_n 0, 0, 0, 0) := by decide +kernel
theorem at_101_8 : j_at 101 8 = some (.iload_n 1, 0, 0, 0) := by decide +kernel
theorem at_101_9 : j_at 101 9 = some (.invokevirtual 116, 136, 1, 0) := by decide +kernel
theorem at_101_12 : j_at 101 12 = some (.ifCond .eq 10, 22, 0, 0) := by decide +kernel
theorem at_101_15 : j_at 101 15 = some (.iload_n 2, 0, 0, 0) := by decide +kernel
theorem at_101_16 : j_at 101 16 = some (.invokestatic 183, 141, 1, 0) := by decide +kernel
theorem at_101_19 : j_at 101 19 = some (.ifCond .ne 7, 26, 0, 0) := by decide +kernel
theorem at_101_22 : j_at 101 22 = some (.ldc2_w 170, 0, 0, -9223372036854775808) := by decide +kernel
theorem at_101_25 : j_at 101 25 = some (.lreturn, 0, 0, 0) := by decide +kernel
theorem at_101_26 : j_at 101 26 = some (.aload_n 0, 0, 0, 0) := by decide +kernel
theorem at_101_27 : j_at 101 27 = some (.getfield 31, 10, 3, 0) := by decide +kernel
theorem at_101_30 : j_at 101 30 = some (.getfield 161, 3, 0, 0) := by decide +kernel
theorem at_101_33 : j_at 101 33 = some (.bipush 10, 0, 0, 10) := by decide +kernel
theorem at_101_35 : j_at 101 35 = some (.iload_n 1, 0, 0, 0) := by decide +kernel
theorem at_101_36 : j_at 101 36 = some (.iadd, 0, 0, 0) := by decide +kernel
theorem at_101_37 : j_at 101 37 = some (.invokevirtual 200, 55, 1, 0) := by decide +kernel
theorem at_101_40 : j_at 101 40 = some (.aload_n 0, 0, 0, 0) := by decide +kernel
theorem at_101_41 : j_at 101 41 = some (.getfield 31, 10, 3, 0) := by decide +kernel
theorem at_101_44 : j_at 101 44 = some (.getfield 161, 3, 0, 0) := by decide +kernel
theorem at_101_47 : j_at 101 47 = some (.getfield 189, 5, 4, 0) := by decide +kernel
theorem at_101_50 : j_at 101 50 = some (.iload_n 2, 0, 0, 0) := by decide +kernel
theorem at_101_51 : j_at 101 51 = some (.invokestatic 193, 146, 3, 0) := by decide +kernel
theorem at_101_54 : j_at 101 54 = some (.lreturn, 0, 0, 0) := by decide +kernel
theorem at_102_0 : j_at 102 0 = some (.aload_n 0, 0, 0, 0) := by decide +kernel
theorem at_102_1 : j_at 102 1 = some (.iload_n 1, 0, 0, 0) := by decide +kernel
theorem at_102_2 : j_at 102 2 = some (.invokevirtual 203, 137, 1, 0) := by decide +kernel
theorem at_102_5 : j_at 102 5 = some (.ifCond .eq 21, 26, 0, 0) := by decide +kernel
theorem at_102_8 : j_at 102 8 = some (.iload_n 2, 0, 0, 0) := by decide +kernel
theorem at_102_9 : j_at 102 9 = some (.ifCond .lt 17, 26, 0, 0) := by decide +kernel
theorem at_102_12 : j_at 102 12 = some (.iload_n 2, 0, 0, 0) := by decide +kernel
theorem at_102_13 : j_at 102 13 = some (.aload_n 0, 0, 0, 0) := by decide +kernel
theorem at_102_14 : j_at 102 14 = some (.getfield 14, 10, 0, 0) := by decide +kernel
theorem at_102_17 : j_at 102 17 = some (.getfield 77, 4, 0, 0) := by decide +kernel
theorem at_102_20 : j_at 102 20 = some (.getfield 80, 1, 0, 0) := by decide +kernel
theorem at_102_23 : j_at 102 23 = some (.if_icmp .le 7, 30, 0, 0) := by decide +kernel
theorem at_102_26 : j_at 102 26 = some (.ldc2_w 170, 0, 0, -9223372036854775808) := by decide +kernel
theorem at_102_29 : j_at 102 29 = some (.lreturn, 0, 0, 0) := by decide +kernel
theorem at_102_30 : j_at 102 30 = some (.aload_n 0, 0, 0, 0) := by decide +kernel
theorem at_102_31 : j_at 102 31 = some (.getfield 31, 10, 3, 0) := by decide +kernel
theorem at_102_34 : j_at 102 34 = some (.getfield 206, 3, 1, 0) := by decide +kernel
theorem at_102_37 : j_at 102 37 = some (.iload_n 1, 0, 0, 0) := by decide +kernel
theorem at_102_38 : j_at 102 38 = some (.iload_n 2, 0, 0, 0) := by decide +kernel
theorem at_102_39 : j_at 102 39 = some (.invokevirtual 210, 2, 2, 0) := by decide +kernel
theorem at_102_42 : j_at 102 42 = some (.lreturn, 0, 0, 0) := by decide +kernel
theorem at_103_0 : j_at 103 0 = some (.aload_n 0, 0, 0, 0) := by decide +kernel
theorem at_103_1 : j_at 103 1 = some (.iload_n 1, 0, 0, 0) := by decide +kernel
theorem at_103_2 : j_at 103 2 = some (.invokevirtual 203, 137, 1, 0) := by decide +kernel
theorem at_103_5 : j_at 103 5 = some (.ifCond .eq 10, 15, 0, 0) := by decide +kernel
theorem at_103_8 : j_at 103 8 = some (.iload_n 3, 0, 0, 0) := by decide +kernel
theorem at_103_9 : j_at 103 9 = some (.invokestatic 183, 141, 1, 0) := by decide +kernel
theorem at_103_12 : j_at 103 12 = some (.ifCond .ne 7, 19, 0, 0) := by decide +kernel
theorem at_103_15 : j_at 103 15 = some (.ldc2_w 170, 0, 0, -9223372036854775808) := by decide +kernel
theorem at_103_18 : j_at 103 18 = some (.lreturn, 0, 0, 0) := by decide +kernel
theorem at_103_19 : j_at 103 19 = some (.iload_n 2, 0, 0, 0) := by decide +kernel
theorem at_103_20 : j_at 103 20 = some (.bipush 10, 0, 0, 10) := by decide +kernel
theorem at_103_22 : j_at 103 22 = some (.if_icmp .lt 24, 46, 0, 0) := by decide +kernel
theorem at_103_25 : j_at 103 25 = some (.iload_n 2, 0, 0, 0) := by decide +kernel
theorem at_103_26 : j_at 103 26 = some (.bipush 10, 0, 0, 10) := by decide +kernel
theorem at_103_28 : j_at 103 28 = some (.aload_n 0, 0, 0, 0) := by decide +kernel
theorem at_103_29 : j_at 103 29 = some (.getfield 14, 10, 0, 0) := by decide +kernel
theorem at_103_32 : j_at 103 32 = some (.getfield 77, 4, 0, 0) := by decide +kernel
theorem at_103_35 : j_at 103 35 = some (.getfield 109, 1, 1, 0) := by decide +kernel
theorem at_103_38 : j_at 103 38 = some (.iadd, 0, 0, 0) := by decide +kernel
theorem at_103_39 : j_at 103 39 = some (.if_icmp .ge 7, 46, 0, 0) := by decide +kernel
theorem at_103_42 : j_at 103 42 = some (.iconst 1, 0, 0, 1) := by decide +kernel
theorem at_103_43 : j_at 103 43 = some (.goto 4, 47, 0, 0) := by decide +kernel
theorem at_103_46 : j_at 103 46 = some (.iconst 0, 0, 0, 0) := by decide +kernel
theorem at_103_47 : j_at 103 47 = some (.istore 4, 0, 0, 0) := by decide +kernel
theorem at_103_49 : j_at 103 49 = some (.iload_n 2, 0, 0, 0) := by decide +kernel
theorem at_103_50 : j_at 103 50 = some (.bipush 20, 0, 0, 20) := by decide +kernel
theorem at_103_52 : j_at 103 52 = some (.if_icmp .lt 15, 67, 0, 0) := by decide +kernel
theorem at_103_55 : j_at 103 55 = some (.iload_n 2, 0, 0, 0) := by decide +kernel
theorem at_103_56 : j_at 103 56 = some (.bipush 20, 0, 0, 20) := by decide +kernel
theorem at_103_58 : j_at 103 58 = some (.iload_n 1, 0, 0, 0) := by decide +kernel
theorem at_103_59 : j_at 103 59 = some (.iadd, 0, 0, 0) := by decide +kernel
theorem at_103_60 : j_at 103 60 = some (.if_icmp .ge 7, 67, 0, 0) := by decide +kernel
theorem at_103_63 : j_at 103 63 = some (.iconst 1, 0, 0, 1) := by decide +kernel
theorem at_103_64 : j_at 103 64 = some (.goto 4, 68, 0, 0) := by decide +kernel
theorem at_103_67 : j_at 103 67 = some (.iconst 0, 0, 0, 0) := by decide +kernel
theorem at_103_68 : j_at 103 68 = some (.istore 5, 0, 0, 0) := by decide +kernel
theorem at_103_70 : j_at 103 70 = some (.iload 4, 0, 0, 0) := by decide +kernel
theorem at_103_72 : j_at 103 72 = some (.ifCond .ne 12, 84, 0, 0) := by decide +kernel
theorem at_103_75 : j_at 103 75 = some (.iload 5, 0, 0, 0) := by decide +kernel
theorem at_103_77 : j_at 103 77 = some (.ifCond .ne 7, 84, 0, 0) := by decide +kernel
theorem at_103_80 : j_at 103 80 = some (.ldc2_w 170, 0, 0, -9223372036854775808) := by decide +kernel
theorem at_103_83 : j_at 103 83 = some (.lreturn, 0, 0, 0) := by decide +kernel
theorem at_103_84 : j_at 103 84 = some (.aload_n 0, 0, 0, 0) := by decide +kernel
theorem at_103_85 : j_at 103 85 = some (.getfield 31, 10, 3, 0) := by decide +kernel
theorem at_103_88 : j_at 103 88 = some (.getfield 206, 3, 1, 0) := by decide +kernel
theorem at_103_91 : j_at 103 91 = some (.iload_n 1, 0, 0, 0) := by decide +kernel
theorem at_103_92 : j_at 103 92 = some (.iload_n 2, 0, 0, 0) := by decide +kernel
theorem at_103_93 : j_at 103 93 = some (.invokevirtual 215, 3, 2, 0) := by decide +kernel
theorem at_103_96 : j_at 103 96 = some (.aload_n 0, 0, 0, 0) := by decide +kernel
theorem at_103_97 : j_at 103 97 = some (.getfield 31, 10, 3, 0) := by decide +kernel
theorem at_103_100 : j_at 103 100 = some (.getfield 206, 3, 1, 0) := by decide +kernel
theorem at_103_103 : j_at 103 103 = some (.getfield 218, 0, 1, 0) := by decide +kernel
theorem at_103_106 : j_at 103 106 = some (.iload_n 1, 0, 0, 0) := by decide +kernel
theorem at_103_107 : j_at 103 107 = some (.laload, 0, 0, 0) := by decide +kernel
theorem at_103_108 : j_at 103 108 = some (.iload_n 3, 0, 0, 0) := by decide +kernel
theorem at_103_109 : j_at 103 109 = some (.invokestatic 193, 146, 3, 0) := by decide +kernel
theorem at_103_112 : j_at 103 112 = some (.lreturn, 0, 0, 0) := by decide +kernel
theorem at_104_0 : j_at 104 0 = some (.aload_n 0, 0, 0, 0) := by decide +kernel
theorem at_104_1 : j_at 104 1 = some (.iload_n 1, 0, 0, 0) := by decide +kernel
theorem at_104_2 : j_at 104 2 = some (.invokevirtual 203, 137, 1, 0) := by decide +kernel
theorem at_104_5 : j_at 104 5 = some (.ifCond .ne 5, 10, 0, 0) := by decide +kernel
theorem at_104_8 : j_at 104 8 = some (.iconst (-1), 0, 0, -1) := by decide +kernel
theorem at_104_9 : j_at 104 9 = some (.ireturn, 0, 0, 0) := by decide +kernel
theorem at_104_10 : j_at 104 10 = some (.aload_n 0, 0, 0, 0) := by decide +kernel
theorem at_104_11 : j_at 104 11 = some (.getfield 31, 10, 3, 0) := by decide +kernel
theorem at_104_14 : j_at 104 14 = some (.getfield 206, 3, 1, 0) := by decide +kernel
theorem at_104_17 : j_at 104 17 = some (.iload_n 1, 0, 0, 0) := by decide +kernel
theorem at_104_18 : j_at 104 18 = some (.aload_n 0, 0, 0, 0) := by decide +kernel
theorem at_104_19 : j_at 104 19 = some (.getfield 14, 10, 0, 0) := by decide +kernel
theorem at_104_22 : j_at 104 22 = some (.getfield 77, 4, 0, 0) := by decide +kernel
theorem at_104_25 : j_at 104 25 = some (.invokevirtual 221, 6, 2, 0) := by decide +kernel
theorem at_104_28 : j_at 104 28 = some (.ifCond .eq 7, 35, 0, 0) := by decide +kernel
theorem at_104_31 : j_at 104 31 = some (.iconst 1, 0, 0, 1) := by decide +kernel
theorem at_104_32 : j_at 104 32 = some (.goto 4, 36, 0, 0) := by decide +kernel
theorem at_104_35 : j_at 104 35 = some (.iconst 0, 0, 0, 0) := by decide +kernel
theorem at_104_36 : j_at 104 36 = some (.ireturn, 0, 0, 0) := by decide +kernel
theorem at_105_0 : j_at 105 0 = some (.aload_n 0, 0, 0, 0) := by decide +kernel
theorem at_105_1 : j_at 105 1 = some (.iload_n 1, 0, 0, 0) := by decide +kernel
theorem at_105_2 : j_at 105 2 = some (.invokevirtual 116, 136, 1, 0) := by decide +kernel
theorem at_105_5 : j_at 105 5 = some (.ifCond .ne 5, 10, 0, 0) := by decide +kernel
theorem at_105_8 : j_at 105 8 = some (.iconst (-1), 0, 0, -1) := by decide +kernel
theorem at_105_9 : j_at 105 9 = some (.ireturn, 0, 0, 0) := by decide +kernel
theorem at_105_10 : j_at 105 10 = some (.iload_n 2, 0, 0, 0) := by decide +kernel
theorem at_105_11 : j_at 105 11 = some (.ifCond .lt 9, 20, 0, 0) := by decide +kernel
theorem at_105_14 : j_at 105 14 = some (.iload_n 2, 0, 0, 0) := by decide +kernel
theorem at_105_15 : j_at 105 15 = some (.bipush 9, 0, 0, 9) := by decide +kernel
theorem at_105_17 : j_at 105 17 = some (.if_icmp .le 6, 23, 0, 0) := by decide +kernel
theorem at_105_20 : j_at 105 20 = some (.bipush (-2), 0, 0, -2) := by decide +kernel
theorem at_105_22 : j_at 105 22 = some (.ireturn, 0, 0, 0) := by decide +kernel
theorem at_105_23 : j_at 105 23 = some (.aload_n 0, 0, 0, 0) := by decide +kernel
theorem at_105_24 : j_at 105 24 = some (.getfield 14, 10, 0, 0) := by decide +kernel
theorem at_105_27 : j_at 105 27 = some (.getfield 133, 4, 2, 0) := by decide +kernel
theorem at_105_30 : j_at 105 30 = some (.iload_n 1, 0, 0, 0) := by decide +kernel
theorem at_105_31 : j_at 105 31 = some (.iaload, 0, 0, 0) := by decide +kernel
theorem at_105_32 : j_at 105 32 = some (.istore_n 3, 0, 0, 0) := by decide +kernel
theorem at_105_33 : j_at 105 33 = some (.aload_n 0, 0, 0, 0) := by decide +kernel
theorem at_105_34 : j_at 105 34 = some (.getfield 14, 10, 0, 0) := by decide +kernel
theorem at_105_37 : j_at 105 37 = some (.getfield 133, 4, 2, 0) := by decide +kernel
theorem at_105_40 : j_at 105 40 = some (.iload_n 1, 0, 0, 0) := by decide +kernel
theorem at_105_41 : j_at 105 41 = some (.iload_n 2, 0, 0, 0) := by decide +kernel
theorem at_105_42 : j_at 105 42 = some (.iastore, 0, 0, 0) := by decide +kernel
theorem at_105_43 : j_at 105 43 = some (.iload_n 3, 0, 0, 0) := by decide +kernel
theorem at_105_44 : j_at 105 44 = some (.ireturn, 0, 0, 0) := by decide +kernel
theorem at_106_0 : j_at 106 0 = some (.iload_n 1, 0, 0, 0) := by decide +kernel
theorem at_106_1 : j_at 106 1 = some (.iconst 1, 0, 0, 1) := by decide +kernel
theorem at_106_2 : j_at 106 2 = some (.if_icmp .lt 9, 11, 0, 0) := by decide +kernel
theorem at_106_5 : j_at 106 5 = some (.iload_n 1, 0, 0, 0) := by decide +kernel
theorem at_106_6 : j_at 106 6 = some (.bipush 10, 0, 0, 10) := by decide +kernel
theorem at_106_8 : j_at 106 8 = some (.if_icmp .le 6, 14, 0, 0) := by decide +kernel
theorem at_106_11 : j_at 106 11 = some (.bipush (-2), 0, 0, -2) := by decide +kernel
theorem at_106_13 : j_at 106 13 = some (.ireturn, 0, 0, 0) := by decide +kernel
theorem at_106_14 : j_at 106 14 = some (.aload_n 0, 0, 0, 0) := by decide +kernel
theorem at_106_15 : j_at 106 15 = some (.getfield 14, 10, 0, 0) := by decide +kernel
theorem at_106_18 : j_at 106 18 = some (.getfield 225, 4, 3, 0) := by decide +kernel
theorem at_106_21 : j_at 106 21 = some (.istore_n 2, 0, 0, 0) := by decide +kernel
theorem at_106_22 : j_at 106 22 = some (.aload_n 0, 0, 0, 0) := by decide +kernel
theorem at_106_23 : j_at 106 23 = some (.getfield 14, 10, 0, 0) := by decide +kernel
theorem at_106_26 : j_at 106 26 = some (.iload_n 1, 0, 0, 0) := by decide +kernel
theorem at_106_27 : j_at 106 27 = some (.putfield 225, 4, 3, 0) := by decide +kernel
theorem at_106_30 : j_at 106 30 = some (.iload_n 2, 0, 0, 0) := by decide +kernel
theorem at_106_31 : j_at 106 31 = some (.ireturn, 0, 0, 0) := by decide +kernel
theorem at_107_0 : j_at 107 0 = some (.iload_n 1, 0, 0, 0) := by decide +kernel
theorem at_107_1 : j_at 107 1 = some (.ifCond .lt 17, 18, 0, 0) := by decide +kernel
theorem at_107_4 : j_at 107 4 = some (.iload_n 1, 0, 0, 0) := by decide +kernel
theorem at_107_5 : j_at 107 5 = some (.aload_n 0, 0, 0, 0) := by decide +kernel
theorem at_107_6 : j_at 107 6 = some (.getfield 14, 10, 0, 0) := by decide +kernel
theorem at_107_9 : j_at 107 9 = some (.getfield 77, 4, 0, 0) := by decide +kernel
theorem at_107_12 : j_at 107 12 = some (.getfield 80, 1, 0, 0) := by decide +kernel
theorem at_107_15 : j_at 107 15 = some (.if_icmp .le 7, 22, 0, 0) := by decide +kernel
theorem at_107_18 : j_at 107 18 = some (.ldc2_w 170, 0, 0, -9223372036854775808) := by decide +kernel
theorem at_107_21 : j_at 107 21 = some (.lreturn, 0, 0, 0) := by decide +kernel
theorem at_107_22 : j_at 107 22 = some (.aload_n 0, 0, 0, 0) := by decide +kernel
theorem at_107_23 : j_at 107 23 = some (.getfield 14, 10, 0, 0) := by decide +kernel
theorem at_107_26 : j_at 107 26 = some (.iload_n 1, 0, 0, 0) := by decide +kernel
theorem at_107_27 : j_at 107 27 = some (.invokevirtual 228, 36, 1, 0) := by decide +kernel
theorem at_107_30 : j_at 107 30 = some (.lreturn, 0, 0, 0) := by decide +kernel
theorem at_108_0 : j_at 108 0 = some (.aload_n 0, 0, 0, 0) := by decide +kernel
theorem at_108_1 : j_at 108 1 = some (.getfield 88, 10, 11, 0) := by decide +kernel
theorem at_108_4 : j_at 108 4 = some (.ifCond .ne 6, 10, 0, 0) := by decide +kernel
theorem at_108_7 : j_at 108 7 = some (.bipush (-3), 0, 0, -3) := by decide +kernel
theorem at_108_9 : j_at 108 9 = some (.ireturn, 0, 0, 0) := by decide +kernel
theorem at_108_10 : j_at 108 10 = some (.aload_n 0, 0, 0, 0) := by decide +kernel
theorem at_108_11 : j_at 108 11 = some (.getfield 14, 10, 0, 0) := by decide +kernel
theorem at_108_14 : j_at 108 14 = some (.getfield 77, 4, 0, 0) := by decide +kernel
theorem at_108_17 : j_at 108 17 = some (.getfield 80, 1, 0, 0) := by decide +kernel
theorem at_108_20 : j_at 108 20 = some (.istore_n 1, 0, 0, 0) := by decide +kernel
theorem at_108_21 : j_at 108 21 = some (.lconst 0, 0, 0, 0) := by decide +kernel
theorem at_108_22 : j_at 108 22 = some (.lstore_n 2, 0, 0, 0) := by decide +kernel
theorem at_108_23 : j_at 108 23 = some (.iconst 0, 0, 0, 0) := by decide +kernel
theorem at_108_24 : j_at 108 24 = some (.istore 4, 0, 0, 0) := by decide +kernel
theorem at_108_26 : j_at 108 26 = some (.iload 4, 0, 0, 0) := by decide +kernel
theorem at_108_28 : j_at 108 28 = some (.iload_n 1, 0, 0, 0) := by decide +kernel
theorem at_108_29 : j_at 108 29 = some (.if_icmp .ge 34, 63, 0, 0) := by decide +kernel
theorem at_108_32 : j_at 108 32 = some (.lload_n 2, 0, 0, 0) := by decide +kernel
theorem at_108_33 : j_at 108 33 = some (.aload_n 0, 0, 0, 0) := by decide +kernel
theorem at_108_34 : j_at 108 34 = some (.getfield 14, 10, 0, 0) := by decide +kernel
