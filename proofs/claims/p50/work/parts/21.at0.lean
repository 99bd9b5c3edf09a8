/-! Instructions, a row each (by program). -/
theorem at_1_0 : j_at 1 0 = some (.aload_n 0, 0, 0, 0) := by decide +kernel
theorem at_1_1 : j_at 1 1 = some (.iconst 0, 0, 0, 0) := by decide +kernel
theorem at_1_2 : j_at 1 2 = some (.putfield 21, 2, 0, 0) := by decide +kernel
theorem at_1_5 : j_at 1 5 = some (.return_, 0, 0, 0) := by decide +kernel
theorem at_2_0 : j_at 2 0 = some (.aload_n 0, 0, 0, 0) := by decide +kernel
theorem at_2_1 : j_at 2 1 = some (.getfield 15, 2, 2, 0) := by decide +kernel
theorem at_2_4 : j_at 2 4 = some (.iload_n 1, 0, 0, 0) := by decide +kernel
theorem at_2_5 : j_at 2 5 = some (.bipush 6, 0, 0, 6) := by decide +kernel
theorem at_2_7 : j_at 2 7 = some (.imul, 0, 0, 0) := by decide +kernel
theorem at_2_8 : j_at 2 8 = some (.iload_n 2, 0, 0, 0) := by decide +kernel
theorem at_2_9 : j_at 2 9 = some (.iadd, 0, 0, 0) := by decide +kernel
theorem at_2_10 : j_at 2 10 = some (.laload, 0, 0, 0) := by decide +kernel
theorem at_2_11 : j_at 2 11 = some (.lreturn, 0, 0, 0) := by decide +kernel
theorem at_4_0 : j_at 4 0 = some (.iconst 0, 0, 0, 0) := by decide +kernel
theorem at_4_1 : j_at 4 1 = some (.istore 4, 0, 0, 0) := by decide +kernel
theorem at_4_3 : j_at 4 3 = some (.iload 4, 0, 0, 0) := by decide +kernel
theorem at_4_5 : j_at 4 5 = some (.aload_n 3, 0, 0, 0) := by decide +kernel
theorem at_4_6 : j_at 4 6 = some (.getfield 25, 3, 0, 0) := by decide +kernel
theorem at_4_9 : j_at 4 9 = some (.if_icmp .gt 47, 56, 0, 0) := by decide +kernel
theorem at_4_12 : j_at 4 12 = some (.aload_n 0, 0, 0, 0) := by decide +kernel
theorem at_4_13 : j_at 4 13 = some (.aload_n 1, 0, 0, 0) := by decide +kernel
theorem at_4_14 : j_at 4 14 = some (.iload_n 2, 0, 0, 0) := by decide +kernel
theorem at_4_15 : j_at 4 15 = some (.aload_n 3, 0, 0, 0) := by decide +kernel
theorem at_4_16 : j_at 4 16 = some (.iload 4, 0, 0, 0) := by decide +kernel
theorem at_4_18 : j_at 4 18 = some (.invokevirtual 28, 5, 4, 0) := by decide +kernel
theorem at_4_21 : j_at 4 21 = some (.lstore 5, 0, 0, 0) := by decide +kernel
theorem at_4_23 : j_at 4 23 = some (.lload 5, 0, 0, 0) := by decide +kernel
theorem at_4_25 : j_at 4 25 = some (.invokestatic 32, 144, 1, 0) := by decide +kernel
theorem at_4_28 : j_at 4 28 = some (.ifCond .ne 5, 33, 0, 0) := by decide +kernel
theorem at_4_31 : j_at 4 31 = some (.iconst 0, 0, 0, 0) := by decide +kernel
theorem at_4_32 : j_at 4 32 = some (.ireturn, 0, 0, 0) := by decide +kernel
theorem at_4_33 : j_at 4 33 = some (.aload_n 0, 0, 0, 0) := by decide +kernel
theorem at_4_34 : j_at 4 34 = some (.getfield 15, 2, 2, 0) := by decide +kernel
theorem at_4_37 : j_at 4 37 = some (.aload_n 0, 0, 0, 0) := by decide +kernel
theorem at_4_38 : j_at 4 38 = some (.getfield 21, 2, 0, 0) := by decide +kernel
theorem at_4_41 : j_at 4 41 = some (.bipush 6, 0, 0, 6) := by decide +kernel
theorem at_4_43 : j_at 4 43 = some (.imul, 0, 0, 0) := by decide +kernel
theorem at_4_44 : j_at 4 44 = some (.iload 4, 0, 0, 0) := by decide +kernel
theorem at_4_46 : j_at 4 46 = some (.iadd, 0, 0, 0) := by decide +kernel
theorem at_4_47 : j_at 4 47 = some (.lload 5, 0, 0, 0) := by decide +kernel
theorem at_4_49 : j_at 4 49 = some (.lastore, 0, 0, 0) := by decide +kernel
theorem at_4_50 : j_at 4 50 = some (.iinc 4 1, 0, 0, 0) := by decide +kernel
theorem at_4_53 : j_at 4 53 = some (.goto (-50), 3, 0, 0) := by decide +kernel
theorem at_4_56 : j_at 4 56 = some (.iconst 0, 0, 0, 0) := by decide +kernel
theorem at_4_57 : j_at 4 57 = some (.istore 4, 0, 0, 0) := by decide +kernel
theorem at_4_59 : j_at 4 59 = some (.iload 4, 0, 0, 0) := by decide +kernel
theorem at_4_61 : j_at 4 61 = some (.bipush 22, 0, 0, 22) := by decide +kernel
theorem at_4_63 : j_at 4 63 = some (.if_icmp .ge 25, 88, 0, 0) := by decide +kernel
theorem at_4_66 : j_at 4 66 = some (.aload_n 0, 0, 0, 0) := by decide +kernel
theorem at_4_67 : j_at 4 67 = some (.getfield 18, 2, 3, 0) := by decide +kernel
theorem at_4_70 : j_at 4 70 = some (.aload_n 0, 0, 0, 0) := by decide +kernel
theorem at_4_71 : j_at 4 71 = some (.getfield 21, 2, 0, 0) := by decide +kernel
theorem at_4_74 : j_at 4 74 = some (.bipush 22, 0, 0, 22) := by decide +kernel
theorem at_4_76 : j_at 4 76 = some (.imul, 0, 0, 0) := by decide +kernel
theorem at_4_77 : j_at 4 77 = some (.iload 4, 0, 0, 0) := by decide +kernel
theorem at_4_79 : j_at 4 79 = some (.iadd, 0, 0, 0) := by decide +kernel
theorem at_4_80 : j_at 4 80 = some (.lconst 0, 0, 0, 0) := by decide +kernel
theorem at_4_81 : j_at 4 81 = some (.lastore, 0, 0, 0) := by decide +kernel
theorem at_4_82 : j_at 4 82 = some (.iinc 4 1, 0, 0, 0) := by decide +kernel
theorem at_4_85 : j_at 4 85 = some (.goto (-26), 59, 0, 0) := by decide +kernel
theorem at_4_88 : j_at 4 88 = some (.iconst 0, 0, 0, 0) := by decide +kernel
theorem at_4_89 : j_at 4 89 = some (.istore 4, 0, 0, 0) := by decide +kernel
theorem at_4_91 : j_at 4 91 = some (.iload 4, 0, 0, 0) := by decide +kernel
theorem at_4_93 : j_at 4 93 = some (.aload_n 1, 0, 0, 0) := by decide +kernel
theorem at_4_94 : j_at 4 94 = some (.getfield 36, 7, 1, 0) := by decide +kernel
theorem at_4_97 : j_at 4 97 = some (.if_icmp .ge 66, 163, 0, 0) := by decide +kernel
theorem at_4_100 : j_at 4 100 = some (.aload_n 1, 0, 0, 0) := by decide +kernel
theorem at_4_101 : j_at 4 101 = some (.getfield 41, 7, 6, 0) := by decide +kernel
theorem at_4_104 : j_at 4 104 = some (.iload 4, 0, 0, 0) := by decide +kernel
theorem at_4_106 : j_at 4 106 = some (.iaload, 0, 0, 0) := by decide +kernel
theorem at_4_107 : j_at 4 107 = some (.bipush 10, 0, 0, 10) := by decide +kernel
theorem at_4_109 : j_at 4 109 = some (.isub, 0, 0, 0) := by decide +kernel
theorem at_4_110 : j_at 4 110 = some (.istore 5, 0, 0, 0) := by decide +kernel
theorem at_4_112 : j_at 4 112 = some (.iload 5, 0, 0, 0) := by decide +kernel
theorem at_4_114 : j_at 4 114 = some (.ifCond .lt 43, 157, 0, 0) := by decide +kernel
theorem at_4_117 : j_at 4 117 = some (.iload 5, 0, 0, 0) := by decide +kernel
theorem at_4_119 : j_at 4 119 = some (.bipush 22, 0, 0, 22) := by decide +kernel
theorem at_4_121 : j_at 4 121 = some (.if_icmp .lt 6, 127, 0, 0) := by decide +kernel
theorem at_4_124 : j_at 4 124 = some (.goto 33, 157, 0, 0) := by decide +kernel
theorem at_4_127 : j_at 4 127 = some (.aload_n 0, 0, 0, 0) := by decide +kernel
theorem at_4_128 : j_at 4 128 = some (.getfield 18, 2, 3, 0) := by decide +kernel
theorem at_4_131 : j_at 4 131 = some (.aload_n 0, 0, 0, 0) := by decide +kernel
theorem at_4_132 : j_at 4 132 = some (.getfield 21, 2, 0, 0) := by decide +kernel
theorem at_4_135 : j_at 4 135 = some (.bipush 22, 0, 0, 22) := by decide +kernel
theorem at_4_137 : j_at 4 137 = some (.imul, 0, 0, 0) := by decide +kernel
theorem at_4_138 : j_at 4 138 = some (.iload 5, 0, 0, 0) := by decide +kernel
theorem at_4_140 : j_at 4 140 = some (.iadd, 0, 0, 0) := by decide +kernel
theorem at_4_141 : j_at 4 141 = some (.aload_n 1, 0, 0, 0) := by decide +kernel
theorem at_4_142 : j_at 4 142 = some (.aload_n 1, 0, 0, 0) := by decide +kernel
theorem at_4_143 : j_at 4 143 = some (.getfield 45, 7, 7, 0) := by decide +kernel
theorem at_4_146 : j_at 4 146 = some (.iload_n 2, 0, 0, 0) := by decide +kernel
theorem at_4_147 : j_at 4 147 = some (.iconst 5, 0, 0, 5) := by decide +kernel
theorem at_4_148 : j_at 4 148 = some (.imul, 0, 0, 0) := by decide +kernel
theorem at_4_149 : j_at 4 149 = some (.iload 4, 0, 0, 0) := by decide +kernel
theorem at_4_151 : j_at 4 151 = some (.iadd, 0, 0, 0) := by decide +kernel
theorem at_4_152 : j_at 4 152 = some (.laload, 0, 0, 0) := by decide +kernel
theorem at_4_153 : j_at 4 153 = some (.invokevirtual 48, 43, 1, 0) := by decide +kernel
theorem at_4_156 : j_at 4 156 = some (.lastore, 0, 0, 0) := by decide +kernel
theorem at_4_157 : j_at 4 157 = some (.iinc 4 1, 0, 0, 0) := by decide +kernel
theorem at_4_160 : j_at 4 160 = some (.goto (-69), 91, 0, 0) := by decide +kernel
theorem at_4_163 : j_at 4 163 = some (.aload_n 0, 0, 0, 0) := by decide +kernel
theorem at_4_164 : j_at 4 164 = some (.getfield 9, 2, 1, 0) := by decide +kernel
theorem at_4_167 : j_at 4 167 = some (.aload_n 0, 0, 0, 0) := by decide +kernel
theorem at_4_168 : j_at 4 168 = some (.getfield 21, 2, 0, 0) := by decide +kernel
theorem at_4_171 : j_at 4 171 = some (.aload_n 1, 0, 0, 0) := by decide +kernel
theorem at_4_172 : j_at 4 172 = some (.getfield 52, 7, 4, 0) := by decide +kernel
theorem at_4_175 : j_at 4 175 = some (.lastore, 0, 0, 0) := by decide +kernel
theorem at_4_176 : j_at 4 176 = some (.aload_n 0, 0, 0, 0) := by decide +kernel
theorem at_4_177 : j_at 4 177 = some (.dup, 0, 0, 0) := by decide +kernel
theorem at_4_178 : j_at 4 178 = some (.getfield 21, 2, 0, 0) := by decide +kernel
theorem at_4_181 : j_at 4 181 = some (.iconst 1, 0, 0, 1) := by decide +kernel
theorem at_4_182 : j_at 4 182 = some (.iadd, 0, 0, 0) := by decide +kernel
theorem at_4_183 : j_at 4 183 = some (.putfield 21, 2, 0, 0) := by decide +kernel
theorem at_4_186 : j_at 4 186 = some (.iconst 1, 0, 0, 1) := by decide +kernel
theorem at_4_187 : j_at 4 187 = some (.ireturn, 0, 0, 0) := by decide +kernel
theorem at_5_0 : j_at 5 0 = some (.aload_n 1, 0, 0, 0) := by decide +kernel
theorem at_5_1 : j_at 5 1 = some (.getfield 56, 7, 5, 0) := by decide +kernel
theorem at_5_4 : j_at 5 4 = some (.iload_n 2, 0, 0, 0) := by decide +kernel
theorem at_5_5 : j_at 5 5 = some (.iaload, 0, 0, 0) := by decide +kernel
theorem at_5_6 : j_at 5 6 = some (.iload 4, 0, 0, 0) := by decide +kernel
theorem at_5_8 : j_at 5 8 = some (.if_icmp .ne 7, 15, 0, 0) := by decide +kernel
theorem at_5_11 : j_at 5 11 = some (.lconst 1, 0, 0, 1) := by decide +kernel
theorem at_5_12 : j_at 5 12 = some (.goto 4, 16, 0, 0) := by decide +kernel
theorem at_5_15 : j_at 5 15 = some (.lconst 0, 0, 0, 0) := by decide +kernel
theorem at_5_16 : j_at 5 16 = some (.lstore 5, 0, 0, 0) := by decide +kernel
theorem at_5_18 : j_at 5 18 = some (.iload 4, 0, 0, 0) := by decide +kernel
theorem at_5_20 : j_at 5 20 = some (.aload_n 3, 0, 0, 0) := by decide +kernel
theorem at_5_21 : j_at 5 21 = some (.getfield 25, 3, 0, 0) := by decide +kernel
theorem at_5_24 : j_at 5 24 = some (.if_icmp .ne 15, 39, 0, 0) := by decide +kernel
theorem at_5_27 : j_at 5 27 = some (.aload_n 1, 0, 0, 0) := by decide +kernel
theorem at_5_28 : j_at 5 28 = some (.aload_n 1, 0, 0, 0) := by decide +kernel
theorem at_5_29 : j_at 5 29 = some (.getfield 59, 7, 8, 0) := by decide +kernel
theorem at_5_32 : j_at 5 32 = some (.iload_n 2, 0, 0, 0) := by decide +kernel
theorem at_5_33 : j_at 5 33 = some (.laload, 0, 0, 0) := by decide +kernel
theorem at_5_34 : j_at 5 34 = some (.invokevirtual 62, 44, 1, 0) := by decide +kernel
theorem at_5_37 : j_at 5 37 = some (.lstore 5, 0, 0, 0) := by decide +kernel
theorem at_5_39 : j_at 5 39 = some (.iconst 0, 0, 0, 0) := by decide +kernel
theorem at_5_40 : j_at 5 40 = some (.istore 7, 0, 0, 0) := by decide +kernel
theorem at_5_42 : j_at 5 42 = some (.iload 7, 0, 0, 0) := by decide +kernel
theorem at_5_44 : j_at 5 44 = some (.aload_n 1, 0, 0, 0) := by decide +kernel
theorem at_5_45 : j_at 5 45 = some (.getfield 36, 7, 1, 0) := by decide +kernel
theorem at_5_48 : j_at 5 48 = some (.if_icmp .ge 108, 156, 0, 0) := by decide +kernel
theorem at_5_51 : j_at 5 51 = some (.aload_n 1, 0, 0, 0) := by decide +kernel
theorem at_5_52 : j_at 5 52 = some (.getfield 41, 7, 6, 0) := by decide +kernel
theorem at_5_55 : j_at 5 55 = some (.iload 7, 0, 0, 0) := by decide +kernel
theorem at_5_57 : j_at 5 57 = some (.iaload, 0, 0, 0) := by decide +kernel
theorem at_5_58 : j_at 5 58 = some (.istore 8, 0, 0, 0) := by decide +kernel
theorem at_5_60 : j_at 5 60 = some (.aload_n 1, 0, 0, 0) := by decide +kernel
theorem at_5_61 : j_at 5 61 = some (.aload_n 1, 0, 0, 0) := by decide +kernel
theorem at_5_62 : j_at 5 62 = some (.getfield 45, 7, 7, 0) := by decide +kernel
theorem at_5_65 : j_at 5 65 = some (.iload_n 2, 0, 0, 0) := by decide +kernel
theorem at_5_66 : j_at 5 66 = some (.iconst 5, 0, 0, 5) := by decide +kernel
theorem at_5_67 : j_at 5 67 = some (.imul, 0, 0, 0) := by decide +kernel
theorem at_5_68 : j_at 5 68 = some (.iload 7, 0, 0, 0) := by decide +kernel
theorem at_5_70 : j_at 5 70 = some (.iadd, 0, 0, 0) := by decide +kernel
theorem at_5_71 : j_at 5 71 = some (.laload, 0, 0, 0) := by decide +kernel
theorem at_5_72 : j_at 5 72 = some (.invokevirtual 62, 44, 1, 0) := by decide +kernel
theorem at_5_75 : j_at 5 75 = some (.lstore 9, 0, 0, 0) := by decide +kernel
theorem at_5_77 : j_at 5 77 = some (.iload 8, 0, 0, 0) := by decide +kernel
theorem at_5_79 : j_at 5 79 = some (.iload 4, 0, 0, 0) := by decide +kernel
theorem at_5_81 : j_at 5 81 = some (.if_icmp .ne 13, 94, 0, 0) := by decide +kernel
theorem at_5_84 : j_at 5 84 = some (.lload 5, 0, 0, 0) := by decide +kernel
theorem at_5_86 : j_at 5 86 = some (.lload 9, 0, 0, 0) := by decide +kernel
theorem at_5_88 : j_at 5 88 = some (.ladd, 0, 0, 0) := by decide +kernel
theorem at_5_89 : j_at 5 89 = some (.lstore 5, 0, 0, 0) := by decide +kernel
theorem at_5_91 : j_at 5 91 = some (.goto 59, 150, 0, 0) := by decide +kernel
theorem at_5_94 : j_at 5 94 = some (.iload 8, 0, 0, 0) := by decide +kernel
theorem at_5_96 : j_at 5 96 = some (.bipush 20, 0, 0, 20) := by decide +kernel
theorem at_5_98 : j_at 5 98 = some (.if_icmp .lt 25, 123, 0, 0) := by decide +kernel
theorem at_5_101 : j_at 5 101 = some (.lload 5, 0, 0, 0) := by decide +kernel
theorem at_5_103 : j_at 5 103 = some (.lload 9, 0, 0, 0) := by decide +kernel
theorem at_5_105 : j_at 5 105 = some (.aload_n 0, 0, 0, 0) := by decide +kernel
theorem at_5_106 : j_at 5 106 = some (.iload 8, 0, 0, 0) := by decide +kernel
theorem at_5_108 : j_at 5 108 = some (.bipush 20, 0, 0, 20) := by decide +kernel
theorem at_5_110 : j_at 5 110 = some (.isub, 0, 0, 0) := by decide +kernel
theorem at_5_111 : j_at 5 111 = some (.iload 4, 0, 0, 0) := by decide +kernel
theorem at_5_113 : j_at 5 113 = some (.invokevirtual 65, 2, 2, 0) := by decide +kernel
theorem at_5_116 : j_at 5 116 = some (.lmul, 0, 0, 0) := by decide +kernel
theorem at_5_117 : j_at 5 117 = some (.lsub, 0, 0, 0) := by decide +kernel
theorem at_5_118 : j_at 5 118 = some (.lstore 5, 0, 0, 0) := by decide +kernel
theorem at_5_120 : j_at 5 120 = some (.goto 30, 150, 0, 0) := by decide +kernel
theorem at_5_123 : j_at 5 123 = some (.iload 8, 0, 0, 0) := by decide +kernel
theorem at_5_125 : j_at 5 125 = some (.bipush 10, 0, 0, 10) := by decide +kernel
theorem at_5_127 : j_at 5 127 = some (.if_icmp .lt 23, 150, 0, 0) := by decide +kernel
theorem at_5_130 : j_at 5 130 = some (.lload 5, 0, 0, 0) := by decide +kernel
theorem at_5_132 : j_at 5 132 = some (.lload 9, 0, 0, 0) := by decide +kernel
theorem at_5_134 : j_at 5 134 = some (.aload_n 3, 0, 0, 0) := by decide +kernel
theorem at_5_135 : j_at 5 135 = some (.iload 8, 0, 0, 0) := by decide +kernel
theorem at_5_137 : j_at 5 137 = some (.bipush 10, 0, 0, 10) := by decide +kernel
theorem at_5_139 : j_at 5 139 = some (.isub, 0, 0, 0) := by decide +kernel
theorem at_5_140 : j_at 5 140 = some (.iload 4, 0, 0, 0) := by decide +kernel
theorem at_5_142 : j_at 5 142 = some (.invokevirtual 69, 13, 2, 0) := by decide +kernel
theorem at_5_145 : j_at 5 145 = some (.i2l, 0, 0, 0) := by decide +kernel
theorem at_5_146 : j_at 5 146 = some (.lmul, 0, 0, 0) := by decide +kernel
theorem at_5_147 : j_at 5 147 = some (.lsub, 0, 0, 0) := by decide +kernel
theorem at_5_148 : j_at 5 148 = some (.lstore 5, 0, 0, 0) := by decide +kernel
theorem at_5_150 : j_at 5 150 = some (.iinc 7 1, 0, 0, 0) := by decide +kernel
theorem at_5_153 : j_at 5 153 = some (.goto (-111), 42, 0, 0) := by decide +kernel
theorem at_5_156 : j_at 5 156 = some (.lload 5, 0, 0, 0) := by decide +kernel
theorem at_5_158 : j_at 5 158 = some (.lreturn, 0, 0, 0) := by decide +kernel
theorem at_8_0 : j_at 8 0 = some (.aload_n 0, 0, 0, 0) := by decide +kernel
theorem at_8_1 : j_at 8 1 = some (.aload_n 1, 0, 0, 0) := by decide +kernel
theorem at_8_2 : j_at 8 2 = some (.getfield 9, 3, 0, 0) := by decide +kernel
theorem at_8_5 : j_at 8 5 = some (.putfield 9, 3, 0, 0) := by decide +kernel
theorem at_8_8 : j_at 8 8 = some (.aload_n 0, 0, 0, 0) := by decide +kernel
theorem at_8_9 : j_at 8 9 = some (.aload_n 1, 0, 0, 0) := by decide +kernel
theorem at_8_10 : j_at 8 10 = some (.getfield 28, 3, 1, 0) := by decide +kernel
theorem at_8_13 : j_at 8 13 = some (.putfield 28, 3, 1, 0) := by decide +kernel
theorem at_8_16 : j_at 8 16 = some (.aload_n 1, 0, 0, 0) := by decide +kernel
theorem at_8_17 : j_at 8 17 = some (.getfield 15, 3, 2, 0) := by decide +kernel
theorem at_8_20 : j_at 8 20 = some (.iconst 0, 0, 0, 0) := by decide +kernel
theorem at_8_21 : j_at 8 21 = some (.aload_n 0, 0, 0, 0) := by decide +kernel
theorem at_8_22 : j_at 8 22 = some (.getfield 15, 3, 2, 0) := by decide +kernel
theorem at_8_25 : j_at 8 25 = some (.iconst 0, 0, 0, 0) := by decide +kernel
theorem at_8_26 : j_at 8 26 = some (.iconst 5, 0, 0, 5) := by decide +kernel
theorem at_8_27 : j_at 8 27 = some (.invokestatic 31, 9999, 5, 0) := by decide +kernel
theorem at_8_30 : j_at 8 30 = some (.aload_n 1, 0, 0, 0) := by decide +kernel
theorem at_8_31 : j_at 8 31 = some (.getfield 19, 3, 3, 0) := by decide +kernel
theorem at_8_34 : j_at 8 34 = some (.iconst 0, 0, 0, 0) := by decide +kernel
theorem at_8_35 : j_at 8 35 = some (.aload_n 0, 0, 0, 0) := by decide +kernel
theorem at_8_36 : j_at 8 36 = some (.getfield 19, 3, 3, 0) := by decide +kernel
theorem at_8_39 : j_at 8 39 = some (.iconst 0, 0, 0, 0) := by decide +kernel
theorem at_8_40 : j_at 8 40 = some (.bipush 8, 0, 0, 8) := by decide +kernel
theorem at_8_42 : j_at 8 42 = some (.invokestatic 31, 9999, 5, 0) := by decide +kernel
theorem at_8_45 : j_at 8 45 = some (.aload_n 1, 0, 0, 0) := by decide +kernel
theorem at_8_46 : j_at 8 46 = some (.getfield 22, 3, 4, 0) := by decide +kernel
theorem at_8_49 : j_at 8 49 = some (.iconst 0, 0, 0, 0) := by decide +kernel
theorem at_8_50 : j_at 8 50 = some (.aload_n 0, 0, 0, 0) := by decide +kernel
theorem at_8_51 : j_at 8 51 = some (.getfield 22, 3, 4, 0) := by decide +kernel
theorem at_8_54 : j_at 8 54 = some (.iconst 0, 0, 0, 0) := by decide +kernel
theorem at_8_55 : j_at 8 55 = some (.bipush 8, 0, 0, 8) := by decide +kernel
theorem at_8_57 : j_at 8 57 = some (.invokestatic 31, 9999, 5, 0) := by decide +kernel
theorem at_8_60 : j_at 8 60 = some (.aload_n 1, 0, 0, 0) := by decide +kernel
theorem at_8_61 : j_at 8 61 = some (.getfield 25, 3, 5, 0) := by decide +kernel
theorem at_8_64 : j_at 8 64 = some (.iconst 0, 0, 0, 0) := by decide +kernel
theorem at_8_65 : j_at 8 65 = some (.aload_n 0, 0, 0, 0) := by decide +kernel
theorem at_8_66 : j_at 8 66 = some (.getfield 25, 3, 5, 0) := by decide +kernel
theorem at_8_69 : j_at 8 69 = some (.iconst 0, 0, 0, 0) := by decide +kernel
theorem at_8_70 : j_at 8 70 = some (.bipush 40, 0, 0, 40) := by decide +kernel
theorem at_8_72 : j_at 8 72 = some (.invokestatic 31, 9999, 5, 0) := by decide +kernel
theorem at_8_75 : j_at 8 75 = some (.return_, 0, 0, 0) := by decide +kernel
theorem at_9_0 : j_at 9 0 = some (.aload_n 0, 0, 0, 0) := by decide +kernel
theorem at_9_1 : j_at 9 1 = some (.iload_n 1, 0, 0, 0) := by decide +kernel
theorem at_9_2 : j_at 9 2 = some (.putfield 9, 3, 0, 0) := by decide +kernel
theorem at_9_5 : j_at 9 5 = some (.aload_n 0, 0, 0, 0) := by decide +kernel
theorem at_9_6 : j_at 9 6 = some (.iconst 0, 0, 0, 0) := by decide +kernel
theorem at_9_7 : j_at 9 7 = some (.putfield 28, 3, 1, 0) := by decide +kernel
theorem at_9_10 : j_at 9 10 = some (.aload_n 0, 0, 0, 0) := by decide +kernel
theorem at_9_11 : j_at 9 11 = some (.getfield 15, 3, 2, 0) := by decide +kernel
theorem at_9_14 : j_at 9 14 = some (.iconst 1, 0, 0, 1) := by decide +kernel
theorem at_9_15 : j_at 9 15 = some (.invokestatic 37, 270, 2, 0) := by decide +kernel
theorem at_9_18 : j_at 9 18 = some (.return_, 0, 0, 0) := by decide +kernel
theorem at_10_0 : j_at 10 0 = some (.aload_n 0, 0, 0, 0) := by decide +kernel
theorem at_10_1 : j_at 10 1 = some (.getfield 19, 3, 3, 0) := by decide +kernel
theorem at_10_4 : j_at 10 4 = some (.aload_n 0, 0, 0, 0) := by decide +kernel
theorem at_10_5 : j_at 10 5 = some (.getfield 28, 3, 1, 0) := by decide +kernel
theorem at_10_8 : j_at 10 8 = some (.iload_n 1, 0, 0, 0) := by decide +kernel
theorem at_10_9 : j_at 10 9 = some (.iastore, 0, 0, 0) := by decide +kernel
theorem at_10_10 : j_at 10 10 = some (.aload_n 0, 0, 0, 0) := by decide +kernel
theorem at_10_11 : j_at 10 11 = some (.getfield 22, 3, 4, 0) := by decide +kernel
theorem at_10_14 : j_at 10 14 = some (.aload_n 0, 0, 0, 0) := by decide +kernel
theorem at_10_15 : j_at 10 15 = some (.getfield 28, 3, 1, 0) := by decide +kernel
theorem at_10_18 : j_at 10 18 = some (.iload_n 2, 0, 0, 0) := by decide +kernel
theorem at_10_19 : j_at 10 19 = some (.iastore, 0, 0, 0) := by decide +kernel
theorem at_10_20 : j_at 10 20 = some (.iconst 0, 0, 0, 0) := by decide +kernel
theorem at_10_21 : j_at 10 21 = some (.istore_n 3, 0, 0, 0) := by decide +kernel
theorem at_10_22 : j_at 10 22 = some (.iload_n 3, 0, 0, 0) := by decide +kernel
theorem at_10_23 : j_at 10 23 = some (.iconst 5, 0, 0, 5) := by decide +kernel
theorem at_10_24 : j_at 10 24 = some (.if_icmp .ge 19, 43, 0, 0) := by decide +kernel
theorem at_10_27 : j_at 10 27 = some (.aload_n 0, 0, 0, 0) := by decide +kernel
theorem at_10_28 : j_at 10 28 = some (.aload_n 0, 0, 0, 0) := by decide +kernel
theorem at_10_29 : j_at 10 29 = some (.getfield 28, 3, 1, 0) := by decide +kernel
theorem at_10_32 : j_at 10 32 = some (.iload_n 3, 0, 0, 0) := by decide +kernel
theorem at_10_33 : j_at 10 33 = some (.iconst 0, 0, 0, 0) := by decide +kernel
theorem at_10_34 : j_at 10 34 = some (.invokevirtual 43, 12, 3, 0) := by decide +kernel
theorem at_10_37 : j_at 10 37 = some (.iinc 3 1, 0, 0, 0) := by decide +kernel
theorem at_10_40 : j_at 10 40 = some (.goto (-18), 22, 0, 0) := by decide +kernel
theorem at_10_43 : j_at 10 43 = some (.aload_n 0, 0, 0, 0) := by decide +kernel
theorem at_10_44 : j_at 10 44 = some (.dup, 0, 0, 0) := by decide +kernel
theorem at_10_45 : j_at 10 45 = some (.getfield 28, 3, 1, 0) := by decide +kernel
theorem at_10_48 : j_at 10 48 = some (.iconst 1, 0, 0, 1) := by decide +kernel
theorem at_10_49 : j_at 10 49 = some (.iadd, 0, 0, 0) := by decide +kernel
theorem at_10_50 : j_at 10 50 = some (.putfield 28, 3, 1, 0) := by decide +kernel
theorem at_10_53 : j_at 10 53 = some (.return_, 0, 0, 0) := by decide +kernel
theorem at_11_0 : j_at 11 0 = some (.aload_n 0, 0, 0, 0) := by decide +kernel
theorem at_11_1 : j_at 11 1 = some (.getfield 25, 3, 5, 0) := by decide +kernel
theorem at_11_4 : j_at 11 4 = some (.iload_n 1, 0, 0, 0) := by decide +kernel
theorem at_11_5 : j_at 11 5 = some (.iconst 5, 0, 0, 5) := by decide +kernel
theorem at_11_6 : j_at 11 6 = some (.imul, 0, 0, 0) := by decide +kernel
theorem at_11_7 : j_at 11 7 = some (.iload_n 2, 0, 0, 0) := by decide +kernel
theorem at_11_8 : j_at 11 8 = some (.iadd, 0, 0, 0) := by decide +kernel
theorem at_11_9 : j_at 11 9 = some (.iaload, 0, 0, 0) := by decide +kernel
theorem at_11_10 : j_at 11 10 = some (.ireturn, 0, 0, 0) := by decide +kernel
theorem at_12_0 : j_at 12 0 = some (.aload_n 0, 0, 0, 0) := by decide +kernel
theorem at_12_1 : j_at 12 1 = some (.getfield 25, 3, 5, 0) := by decide +kernel
theorem at_12_4 : j_at 12 4 = some (.iload_n 1, 0, 0, 0) := by decide +kernel
theorem at_12_5 : j_at 12 5 = some (.iconst 5, 0, 0, 5) := by decide +kernel
theorem at_12_6 : j_at 12 6 = some (.imul, 0, 0, 0) := by decide +kernel
theorem at_12_7 : j_at 12 7 = some (.iload_n 2, 0, 0, 0) := by decide +kernel
theorem at_12_8 : j_at 12 8 = some (.iadd, 0, 0, 0) := by decide +kernel
theorem at_12_9 : j_at 12 9 = some (.iload_n 3, 0, 0, 0) := by decide +kernel
theorem at_12_10 : j_at 12 10 = some (.iastore, 0, 0, 0) := by decide +kernel
theorem at_12_11 : j_at 12 11 = some (.return_, 0, 0, 0) := by decide +kernel
theorem at_13_0 : j_at 13 0 = some (.iload_n 2, 0, 0, 0) := by decide +kernel
theorem at_13_1 : j_at 13 1 = some (.aload_n 0, 0, 0, 0) := by decide +kernel
theorem at_13_2 : j_at 13 2 = some (.getfield 9, 3, 0, 0) := by decide +kernel
theorem at_13_5 : j_at 13 5 = some (.if_icmp .ne 12, 17, 0, 0) := by decide +kernel
theorem at_13_8 : j_at 13 8 = some (.aload_n 0, 0, 0, 0) := by decide +kernel
theorem at_13_9 : j_at 13 9 = some (.getfield 22, 3, 4, 0) := by decide +kernel
theorem at_13_12 : j_at 13 12 = some (.iload_n 1, 0, 0, 0) := by decide +kernel
theorem at_13_13 : j_at 13 13 = some (.iaload, 0, 0, 0) := by decide +kernel
theorem at_13_14 : j_at 13 14 = some (.goto 9, 23, 0, 0) := by decide +kernel
theorem at_13_17 : j_at 13 17 = some (.aload_n 0, 0, 0, 0) := by decide +kernel
theorem at_13_18 : j_at 13 18 = some (.iload_n 1, 0, 0, 0) := by decide +kernel
theorem at_13_19 : j_at 13 19 = some (.iload_n 2, 0, 0, 0) := by decide +kernel
theorem at_13_20 : j_at 13 20 = some (.invokevirtual 47, 11, 2, 0) := by decide +kernel
theorem at_13_23 : j_at 13 23 = some (.istore_n 3, 0, 0, 0) := by decide +kernel
theorem at_13_24 : j_at 13 24 = some (.aload_n 0, 0, 0, 0) := by decide +kernel
theorem at_13_25 : j_at 13 25 = some (.getfield 19, 3, 3, 0) := by decide +kernel
theorem at_13_28 : j_at 13 28 = some (.iload_n 1, 0, 0, 0) := by decide +kernel
theorem at_13_29 : j_at 13 29 = some (.iaload, 0, 0, 0) := by decide +kernel
theorem at_13_30 : j_at 13 30 = some (.ifCond .ne 8, 38, 0, 0) := by decide +kernel
theorem at_13_33 : j_at 13 33 = some (.iload_n 3, 0, 0, 0) := by decide +kernel
theorem at_13_34 : j_at 13 34 = some (.ineg, 0, 0, 0) := by decide +kernel
theorem at_13_35 : j_at 13 35 = some (.goto 4, 39, 0, 0) := by decide +kernel
theorem at_13_38 : j_at 13 38 = some (.iload_n 3, 0, 0, 0) := by decide +kernel
theorem at_13_39 : j_at 13 39 = some (.ireturn, 0, 0, 0) := by decide +kernel
theorem at_14_0 : j_at 14 0 = some (.iconst 0, 0, 0, 0) := by decide +kernel
theorem at_14_1 : j_at 14 1 = some (.istore_n 2, 0, 0, 0) := by decide +kernel
theorem at_14_2 : j_at 14 2 = some (.iconst 0, 0, 0, 0) := by decide +kernel
theorem at_14_3 : j_at 14 3 = some (.istore_n 3, 0, 0, 0) := by decide +kernel
theorem at_14_4 : j_at 14 4 = some (.iload_n 3, 0, 0, 0) := by decide +kernel
theorem at_14_5 : j_at 14 5 = some (.aload_n 0, 0, 0, 0) := by decide +kernel
theorem at_14_6 : j_at 14 6 = some (.getfield 9, 3, 0, 0) := by decide +kernel
theorem at_14_9 : j_at 14 9 = some (.if_icmp .ge 25, 34, 0, 0) := by decide +kernel
theorem at_14_12 : j_at 14 12 = some (.iload_n 2, 0, 0, 0) := by decide +kernel
theorem at_14_13 : j_at 14 13 = some (.aload_n 0, 0, 0, 0) := by decide +kernel
theorem at_14_14 : j_at 14 14 = some (.iload_n 1, 0, 0, 0) := by decide +kernel
theorem at_14_15 : j_at 14 15 = some (.iload_n 3, 0, 0, 0) := by decide +kernel
theorem at_14_16 : j_at 14 16 = some (.invokevirtual 51, 16, 2, 0) := by decide +kernel
theorem at_14_19 : j_at 14 19 = some (.aload_n 0, 0, 0, 0) := by decide +kernel
theorem at_14_20 : j_at 14 20 = some (.getfield 15, 3, 2, 0) := by decide +kernel
theorem at_14_23 : j_at 14 23 = some (.iload_n 3, 0, 0, 0) := by decide +kernel
theorem at_14_24 : j_at 14 24 = some (.iaload, 0, 0, 0) := by decide +kernel
theorem at_14_25 : j_at 14 25 = some (.imul, 0, 0, 0) := by decide +kernel
theorem at_14_26 : j_at 14 26 = some (.iadd, 0, 0, 0) := by decide +kernel
theorem at_14_27 : j_at 14 27 = some (.istore_n 2, 0, 0, 0) := by decide +kernel
theorem at_14_28 : j_at 14 28 = some (.iinc 3 1, 0, 0, 0) := by decide +kernel
theorem at_14_31 : j_at 14 31 = some (.goto (-27), 4, 0, 0) := by decide +kernel
theorem at_14_34 : j_at 14 34 = some (.iload_n 2, 0, 0, 0) := by decide +kernel
theorem at_14_35 : j_at 14 35 = some (.ireturn, 0, 0, 0) := by decide +kernel
theorem at_16_0 : j_at 16 0 = some (.iload_n 1, 0, 0, 0) := by decide +kernel
theorem at_16_1 : j_at 16 1 = some (.istore_n 3, 0, 0, 0) := by decide +kernel
theorem at_16_2 : j_at 16 2 = some (.aload_n 0, 0, 0, 0) := by decide +kernel
theorem at_16_3 : j_at 16 3 = some (.getfield 9, 3, 0, 0) := by decide +kernel
theorem at_16_6 : j_at 16 6 = some (.iconst 1, 0, 0, 1) := by decide +kernel
theorem at_16_7 : j_at 16 7 = some (.isub, 0, 0, 0) := by decide +kernel
theorem at_16_8 : j_at 16 8 = some (.istore 4, 0, 0, 0) := by decide +kernel
theorem at_16_10 : j_at 16 10 = some (.iload 4, 0, 0, 0) := by decide +kernel
theorem at_16_12 : j_at 16 12 = some (.iload_n 2, 0, 0, 0) := by decide +kernel
theorem at_16_13 : j_at 16 13 = some (.if_icmp .le 14, 27, 0, 0) := by decide +kernel
theorem at_16_16 : j_at 16 16 = some (.iload_n 3, 0, 0, 0) := by decide +kernel
theorem at_16_17 : j_at 16 17 = some (.bipush 10, 0, 0, 10) := by decide +kernel
theorem at_16_19 : j_at 16 19 = some (.idiv, 0, 0, 0) := by decide +kernel
theorem at_16_20 : j_at 16 20 = some (.istore_n 3, 0, 0, 0) := by decide +kernel
theorem at_16_21 : j_at 16 21 = some (.iinc 4 (-1), 0, 0, 0) := by decide +kernel
theorem at_16_24 : j_at 16 24 = some (.goto (-14), 10, 0, 0) := by decide +kernel
theorem at_16_27 : j_at 16 27 = some (.iload_n 3, 0, 0, 0) := by decide +kernel
theorem at_16_28 : j_at 16 28 = some (.bipush 10, 0, 0, 10) := by decide +kernel
theorem at_16_30 : j_at 16 30 = some (.irem, 0, 0, 0) := by decide +kernel
theorem at_16_31 : j_at 16 31 = some (.ireturn, 0, 0, 0) := by decide +kernel
theorem at_17_0 : j_at 17 0 = some (.iload_n 1, 0, 0, 0) := by decide +kernel
theorem at_17_1 : j_at 17 1 = some (.iconst 1, 0, 0, 1) := by decide +kernel
theorem at_17_2 : j_at 17 2 = some (.if_icmp .ne 19, 21, 0, 0) := by decide +kernel
theorem at_17_5 : j_at 17 5 = some (.iload_n 2, 0, 0, 0) := by decide +kernel
theorem at_17_6 : j_at 17 6 = some (.aload_n 0, 0, 0, 0) := by decide +kernel
theorem at_17_7 : j_at 17 7 = some (.getfield 9, 3, 0, 0) := by decide +kernel
theorem at_17_10 : j_at 17 10 = some (.if_icmp .ge 7, 17, 0, 0) := by decide +kernel
theorem at_17_13 : j_at 17 13 = some (.iconst 1, 0, 0, 1) := by decide +kernel
theorem at_17_14 : j_at 17 14 = some (.goto 20, 34, 0, 0) := by decide +kernel
theorem at_17_17 : j_at 17 17 = some (.iconst 0, 0, 0, 0) := by decide +kernel
theorem at_17_18 : j_at 17 18 = some (.goto 16, 34, 0, 0) := by decide +kernel
theorem at_17_21 : j_at 17 21 = some (.iload_n 2, 0, 0, 0) := by decide +kernel
theorem at_17_22 : j_at 17 22 = some (.aload_n 0, 0, 0, 0) := by decide +kernel
theorem at_17_23 : j_at 17 23 = some (.getfield 28, 3, 1, 0) := by decide +kernel
theorem at_17_26 : j_at 17 26 = some (.if_icmp .ge 7, 33, 0, 0) := by decide +kernel
theorem at_17_29 : j_at 17 29 = some (.iconst 1, 0, 0, 1) := by decide +kernel
theorem at_17_30 : j_at 17 30 = some (.goto 4, 34, 0, 0) := by decide +kernel
theorem at_17_33 : j_at 17 33 = some (.iconst 0, 0, 0, 0) := by decide +kernel
theorem at_17_34 : j_at 17 34 = some (.istore 4, 0, 0, 0) := by decide +kernel
theorem at_17_36 : j_at 17 36 = some (.iload 4, 0, 0, 0) := by decide +kernel
theorem at_17_38 : j_at 17 38 = some (.ifCond .ne 4, 42, 0, 0) := by decide +kernel
theorem at_17_41 : j_at 17 41 = some (.return_, 0, 0, 0) := by decide +kernel
theorem at_17_42 : j_at 17 42 = some (.iload_n 1, 0, 0, 0) := by decide +kernel
theorem at_17_43 : j_at 17 43 = some (.ifCond .ne 13, 56, 0, 0) := by decide +kernel
theorem at_17_46 : j_at 17 46 = some (.aload_n 0, 0, 0, 0) := by decide +kernel
theorem at_17_47 : j_at 17 47 = some (.getfield 22, 3, 4, 0) := by decide +kernel
theorem at_17_50 : j_at 17 50 = some (.iload_n 2, 0, 0, 0) := by decide +kernel
theorem at_17_51 : j_at 17 51 = some (.iload_n 3, 0, 0, 0) := by decide +kernel
theorem at_17_52 : j_at 17 52 = some (.iastore, 0, 0, 0) := by decide +kernel
theorem at_17_53 : j_at 17 53 = some (.goto 25, 78, 0, 0) := by decide +kernel
theorem at_17_56 : j_at 17 56 = some (.iload_n 1, 0, 0, 0) := by decide +kernel
theorem at_17_57 : j_at 17 57 = some (.iconst 1, 0, 0, 1) := by decide +kernel
theorem at_17_58 : j_at 17 58 = some (.if_icmp .ne 13, 71, 0, 0) := by decide +kernel
theorem at_17_61 : j_at 17 61 = some (.aload_n 0, 0, 0, 0) := by decide +kernel
theorem at_17_62 : j_at 17 62 = some (.getfield 15, 3, 2, 0) := by decide +kernel
theorem at_17_65 : j_at 17 65 = some (.iload_n 2, 0, 0, 0) := by decide +kernel
theorem at_17_66 : j_at 17 66 = some (.iload_n 3, 0, 0, 0) := by decide +kernel
theorem at_17_67 : j_at 17 67 = some (.iastore, 0, 0, 0) := by decide +kernel
theorem at_17_68 : j_at 17 68 = some (.goto 10, 78, 0, 0) := by decide +kernel
theorem at_17_71 : j_at 17 71 = some (.aload_n 0, 0, 0, 0) := by decide +kernel
theorem at_17_72 : j_at 17 72 = some (.iload_n 2, 0, 0, 0) := by decide +kernel
theorem at_17_73 : j_at 17 73 = some (.iconst 0, 0, 0, 0) := by decide +kernel
theorem at_17_74 : j_at 17 74 = some (.iload_n 3, 0, 0, 0) := by decide +kernel
theorem at_17_75 : j_at 17 75 = some (.invokevirtual 43, 12, 3, 0) := by decide +kernel
theorem at_17_78 : j_at 17 78 = some (.return_, 0, 0, 0) := by decide +kernel
theorem at_18_0 : j_at 18 0 = some (.iload_n 1, 0, 0, 0) := by decide +kernel
theorem at_18_1 : j_at 18 1 = some (.istore_n 3, 0, 0, 0) := by decide +kernel
theorem at_18_2 : j_at 18 2 = some (.aload_n 0, 0, 0, 0) := by decide +kernel
theorem at_18_3 : j_at 18 3 = some (.iconst 0, 0, 0, 0) := by decide +kernel
theorem at_18_4 : j_at 18 4 = some (.putfield 28, 3, 1, 0) := by decide +kernel
theorem at_18_7 : j_at 18 7 = some (.iconst 0, 0, 0, 0) := by decide +kernel
theorem at_18_8 : j_at 18 8 = some (.istore 4, 0, 0, 0) := by decide +kernel
theorem at_18_10 : j_at 18 10 = some (.iload 4, 0, 0, 0) := by decide +kernel
theorem at_18_12 : j_at 18 12 = some (.iload_n 2, 0, 0, 0) := by decide +kernel
theorem at_18_13 : j_at 18 13 = some (.if_icmp .ge 72, 85, 0, 0) := by decide +kernel
theorem at_18_16 : j_at 18 16 = some (.aload_n 0, 0, 0, 0) := by decide +kernel
theorem at_18_17 : j_at 18 17 = some (.iconst 0, 0, 0, 0) := by decide +kernel
theorem at_18_18 : j_at 18 18 = some (.iconst 0, 0, 0, 0) := by decide +kernel
theorem at_18_19 : j_at 18 19 = some (.invokevirtual 57, 10, 2, 0) := by decide +kernel
theorem at_18_22 : j_at 18 22 = some (.iconst 0, 0, 0, 0) := by decide +kernel
theorem at_18_23 : j_at 18 23 = some (.istore 5, 0, 0, 0) := by decide +kernel
theorem at_18_25 : j_at 18 25 = some (.iload 5, 0, 0, 0) := by decide +kernel
theorem at_18_27 : j_at 18 27 = some (.aload_n 0, 0, 0, 0) := by decide +kernel
theorem at_18_28 : j_at 18 28 = some (.getfield 9, 3, 0, 0) := by decide +kernel
theorem at_18_31 : j_at 18 31 = some (.if_icmp .ge 29, 60, 0, 0) := by decide +kernel
theorem at_18_34 : j_at 18 34 = some (.iload_n 3, 0, 0, 0) := by decide +kernel
theorem at_18_35 : j_at 18 35 = some (.invokestatic 61, 19, 1, 0) := by decide +kernel
theorem at_18_38 : j_at 18 38 = some (.istore_n 3, 0, 0, 0) := by decide +kernel
theorem at_18_39 : j_at 18 39 = some (.aload_n 0, 0, 0, 0) := by decide +kernel
theorem at_18_40 : j_at 18 40 = some (.iload 4, 0, 0, 0) := by decide +kernel
theorem at_18_42 : j_at 18 42 = some (.iload 5, 0, 0, 0) := by decide +kernel
theorem at_18_44 : j_at 18 44 = some (.iload_n 3, 0, 0, 0) := by decide +kernel
theorem at_18_45 : j_at 18 45 = some (.bipush 9, 0, 0, 9) := by decide +kernel
theorem at_18_47 : j_at 18 47 = some (.iushr, 0, 0, 0) := by decide +kernel
theorem at_18_48 : j_at 18 48 = some (.bipush 10, 0, 0, 10) := by decide +kernel
theorem at_18_50 : j_at 18 50 = some (.irem, 0, 0, 0) := by decide +kernel
theorem at_18_51 : j_at 18 51 = some (.invokevirtual 43, 12, 3, 0) := by decide +kernel
theorem at_18_54 : j_at 18 54 = some (.iinc 5 1, 0, 0, 0) := by decide +kernel
theorem at_18_57 : j_at 18 57 = some (.goto (-32), 25, 0, 0) := by decide +kernel
theorem at_18_60 : j_at 18 60 = some (.iload_n 3, 0, 0, 0) := by decide +kernel
theorem at_18_61 : j_at 18 61 = some (.invokestatic 61, 19, 1, 0) := by decide +kernel
theorem at_18_64 : j_at 18 64 = some (.istore_n 3, 0, 0, 0) := by decide +kernel
theorem at_18_65 : j_at 18 65 = some (.aload_n 0, 0, 0, 0) := by decide +kernel
theorem at_18_66 : j_at 18 66 = some (.getfield 22, 3, 4, 0) := by decide +kernel
theorem at_18_69 : j_at 18 69 = some (.iload 4, 0, 0, 0) := by decide +kernel
theorem at_18_71 : j_at 18 71 = some (.iload_n 3, 0, 0, 0) := by decide +kernel
theorem at_18_72 : j_at 18 72 = some (.bipush 9, 0, 0, 9) := by decide +kernel
theorem at_18_74 : j_at 18 74 = some (.iushr, 0, 0, 0) := by decide +kernel
theorem at_18_75 : j_at 18 75 = some (.bipush 60, 0, 0, 60) := by decide +kernel
theorem at_18_77 : j_at 18 77 = some (.irem, 0, 0, 0) := by decide +kernel
theorem at_18_78 : j_at 18 78 = some (.iastore, 0, 0, 0) := by decide +kernel
theorem at_18_79 : j_at 18 79 = some (.iinc 4 1, 0, 0, 0) := by decide +kernel
theorem at_18_82 : j_at 18 82 = some (.goto (-72), 10, 0, 0) := by decide +kernel
theorem at_18_85 : j_at 18 85 = some (.return_, 0, 0, 0) := by decide +kernel
theorem at_19_0 : j_at 19 0 = some (.iload_n 0, 0, 0, 0) := by decide +kernel
theorem at_19_1 : j_at 19 1 = some (.ldc 65, 0, 0, 1103515245) := by decide +kernel
theorem at_19_3 : j_at 19 3 = some (.imul, 0, 0, 0) := by decide +kernel
theorem at_19_4 : j_at 19 4 = some (.sipush 12345, 0, 0, 12345) := by decide +kernel
theorem at_19_7 : j_at 19 7 = some (.iadd, 0, 0, 0) := by decide +kernel
theorem at_19_8 : j_at 19 8 = some (.ireturn, 0, 0, 0) := by decide +kernel
theorem at_21_0 : j_at 21 0 = some (.aload_n 0, 0, 0, 0) := by decide +kernel
theorem at_21_1 : j_at 21 1 = some (.aload_n 1, 0, 0, 0) := by decide +kernel
theorem at_21_2 : j_at 21 2 = some (.getfield 21, 4, 0, 0) := by decide +kernel
theorem at_21_5 : j_at 21 5 = some (.putfield 21, 4, 0, 0) := by decide +kernel
theorem at_21_8 : j_at 21 8 = some (.aload_n 1, 0, 0, 0) := by decide +kernel
theorem at_21_9 : j_at 21 9 = some (.getfield 9, 4, 1, 0) := by decide +kernel
theorem at_21_12 : j_at 21 12 = some (.iconst 0, 0, 0, 0) := by decide +kernel
theorem at_21_13 : j_at 21 13 = some (.aload_n 0, 0, 0, 0) := by decide +kernel
theorem at_21_14 : j_at 21 14 = some (.getfield 9, 4, 1, 0) := by decide +kernel
theorem at_21_17 : j_at 21 17 = some (.iconst 0, 0, 0, 0) := by decide +kernel
theorem at_21_18 : j_at 21 18 = some (.bipush 20, 0, 0, 20) := by decide +kernel
theorem at_21_20 : j_at 21 20 = some (.invokestatic 25, 9999, 5, 0) := by decide +kernel
theorem at_21_23 : j_at 21 23 = some (.aload_n 1, 0, 0, 0) := by decide +kernel
theorem at_21_24 : j_at 21 24 = some (.getfield 15, 4, 2, 0) := by decide +kernel
theorem at_21_27 : j_at 21 27 = some (.iconst 0, 0, 0, 0) := by decide +kernel
theorem at_21_28 : j_at 21 28 = some (.aload_n 0, 0, 0, 0) := by decide +kernel
theorem at_21_29 : j_at 21 29 = some (.getfield 15, 4, 2, 0) := by decide +kernel
theorem at_21_32 : j_at 21 32 = some (.iconst 0, 0, 0, 0) := by decide +kernel
theorem at_21_33 : j_at 21 33 = some (.bipush 20, 0, 0, 20) := by decide +kernel
theorem at_21_35 : j_at 21 35 = some (.invokestatic 25, 9999, 5, 0) := by decide +kernel
theorem at_21_38 : j_at 21 38 = some (.aload_n 1, 0, 0, 0) := by decide +kernel
theorem at_21_39 : j_at 21 39 = some (.getfield 18, 4, 3, 0) := by decide +kernel
theorem at_21_42 : j_at 21 42 = some (.iconst 0, 0, 0, 0) := by decide +kernel
theorem at_21_43 : j_at 21 43 = some (.aload_n 0, 0, 0, 0) := by decide +kernel
theorem at_21_44 : j_at 21 44 = some (.getfield 18, 4, 3, 0) := by decide +kernel
theorem at_21_47 : j_at 21 47 = some (.iconst 0, 0, 0, 0) := by decide +kernel
theorem at_21_48 : j_at 21 48 = some (.bipush 20, 0, 0, 20) := by decide +kernel
theorem at_21_50 : j_at 21 50 = some (.invokestatic 25, 9999, 5, 0) := by decide +kernel
theorem at_21_53 : j_at 21 53 = some (.return_, 0, 0, 0) := by decide +kernel
theorem at_22_0 : j_at 22 0 = some (.aload_n 0, 0, 0, 0) := by decide +kernel
theorem at_22_1 : j_at 22 1 = some (.iconst 0, 0, 0, 0) := by decide +kernel
theorem at_22_2 : j_at 22 2 = some (.putfield 21, 4, 0, 0) := by decide +kernel
theorem at_22_5 : j_at 22 5 = some (.return_, 0, 0, 0) := by decide +kernel
theorem at_23_0 : j_at 23 0 = some (.iconst 0, 0, 0, 0) := by decide +kernel
theorem at_23_1 : j_at 23 1 = some (.istore_n 2, 0, 0, 0) := by decide +kernel
theorem at_23_2 : j_at 23 2 = some (.iload_n 2, 0, 0, 0) := by decide +kernel
theorem at_23_3 : j_at 23 3 = some (.aload_n 0, 0, 0, 0) := by decide +kernel
theorem at_23_4 : j_at 23 4 = some (.getfield 21, 4, 0, 0) := by decide +kernel
theorem at_23_7 : j_at 23 7 = some (.if_icmp .ge 21, 28, 0, 0) := by decide +kernel
theorem at_23_10 : j_at 23 10 = some (.aload_n 0, 0, 0, 0) := by decide +kernel
theorem at_23_11 : j_at 23 11 = some (.getfield 9, 4, 1, 0) := by decide +kernel
theorem at_23_14 : j_at 23 14 = some (.iload_n 2, 0, 0, 0) := by decide +kernel
theorem at_23_15 : j_at 23 15 = some (.iaload, 0, 0, 0) := by decide +kernel
theorem at_23_16 : j_at 23 16 = some (.iload_n 1, 0, 0, 0) := by decide +kernel
theorem at_23_17 : j_at 23 17 = some (.if_icmp .ne 5, 22, 0, 0) := by decide +kernel
theorem at_23_20 : j_at 23 20 = some (.iload_n 2, 0, 0, 0) := by decide +kernel
theorem at_23_21 : j_at 23 21 = some (.ireturn, 0, 0, 0) := by decide +kernel
theorem at_23_22 : j_at 23 22 = some (.iinc 2 1, 0, 0, 0) := by decide +kernel
theorem at_23_25 : j_at 23 25 = some (.goto (-23), 2, 0, 0) := by decide +kernel
theorem at_23_28 : j_at 23 28 = some (.iconst (-1), 0, 0, -1) := by decide +kernel
theorem at_23_29 : j_at 23 29 = some (.ireturn, 0, 0, 0) := by decide +kernel
theorem at_24_0 : j_at 24 0 = some (.aload_n 0, 0, 0, 0) := by decide +kernel
theorem at_24_1 : j_at 24 1 = some (.getfield 18, 4, 3, 0) := by decide +kernel
theorem at_24_4 : j_at 24 4 = some (.iload_n 1, 0, 0, 0) := by decide +kernel
theorem at_24_5 : j_at 24 5 = some (.iaload, 0, 0, 0) := by decide +kernel
theorem at_24_6 : j_at 24 6 = some (.aload_n 0, 0, 0, 0) := by decide +kernel
theorem at_24_7 : j_at 24 7 = some (.getfield 15, 4, 2, 0) := by decide +kernel
theorem at_24_10 : j_at 24 10 = some (.iload_n 1, 0, 0, 0) := by decide +kernel
theorem at_24_11 : j_at 24 11 = some (.iaload, 0, 0, 0) := by decide +kernel
theorem at_24_12 : j_at 24 12 = some (.isub, 0, 0, 0) := by decide +kernel
theorem at_24_13 : j_at 24 13 = some (.ireturn, 0, 0, 0) := by decide +kernel
theorem at_25_0 : j_at 25 0 = some (.aload_n 0, 0, 0, 0) := by decide +kernel
theorem at_25_1 : j_at 25 1 = some (.getfield 21, 4, 0, 0) := by decide +kernel
theorem at_25_4 : j_at 25 4 = some (.istore 4, 0, 0, 0) := by decide +kernel
theorem at_25_6 : j_at 25 6 = some (.iload 4, 0, 0, 0) := by decide +kernel
theorem at_25_8 : j_at 25 8 = some (.ifCond .le 70, 78, 0, 0) := by decide +kernel
theorem at_25_11 : j_at 25 11 = some (.aload_n 0, 0, 0, 0) := by decide +kernel
theorem at_25_12 : j_at 25 12 = some (.iload_n 1, 0, 0, 0) := by decide +kernel
theorem at_25_13 : j_at 25 13 = some (.iload_n 2, 0, 0, 0) := by decide +kernel
theorem at_25_14 : j_at 25 14 = some (.iload 4, 0, 0, 0) := by decide +kernel
theorem at_25_16 : j_at 25 16 = some (.iconst 1, 0, 0, 1) := by decide +kernel
theorem at_25_17 : j_at 25 17 = some (.isub, 0, 0, 0) := by decide +kernel
theorem at_25_18 : j_at 25 18 = some (.invokevirtual 31, 27, 3, 0) := by decide +kernel
theorem at_25_21 : j_at 25 21 = some (.ifCond .eq 57, 78, 0, 0) := by decide +kernel
theorem at_25_24 : j_at 25 24 = some (.aload_n 0, 0, 0, 0) := by decide +kernel
theorem at_25_25 : j_at 25 25 = some (.getfield 9, 4, 1, 0) := by decide +kernel
theorem at_25_28 : j_at 25 28 = some (.iload 4, 0, 0, 0) := by decide +kernel
theorem at_25_30 : j_at 25 30 = some (.aload_n 0, 0, 0, 0) := by decide +kernel
theorem at_25_31 : j_at 25 31 = some (.getfield 9, 4, 1, 0) := by decide +kernel
theorem at_25_34 : j_at 25 34 = some (.iload 4, 0, 0, 0) := by decide +kernel
theorem at_25_36 : j_at 25 36 = some (.iconst 1, 0, 0, 1) := by decide +kernel
theorem at_25_37 : j_at 25 37 = some (.isub, 0, 0, 0) := by decide +kernel
theorem at_25_38 : j_at 25 38 = some (.iaload, 0, 0, 0) := by decide +kernel
theorem at_25_39 : j_at 25 39 = some (.iastore, 0, 0, 0) := by decide +kernel
theorem at_25_40 : j_at 25 40 = some (.aload_n 0, 0, 0, 0) := by decide +kernel
theorem at_25_41 : j_at 25 41 = some (.getfield 15, 4, 2, 0) := by decide +kernel
theorem at_25_44 : j_at 25 44 = some (.iload 4, 0, 0, 0) := by decide +kernel
theorem at_25_46 : j_at 25 46 = some (.aload_n 0, 0, 0, 0) := by decide +kernel
theorem at_25_47 : j_at 25 47 = some (.getfield 15, 4, 2, 0) := by decide +kernel
theorem at_25_50 : j_at 25 50 = some (.iload 4, 0, 0, 0) := by decide +kernel
theorem at_25_52 : j_at 25 52 = some (.iconst 1, 0, 0, 1) := by decide +kernel
theorem at_25_53 : j_at 25 53 = some (.isub, 0, 0, 0) := by decide +kernel
theorem at_25_54 : j_at 25 54 = some (.iaload, 0, 0, 0) := by decide +kernel
theorem at_25_55 : j_at 25 55 = some (.iastore, 0, 0, 0) := by decide +kernel
theorem at_25_56 : j_at 25 56 = some (.aload_n 0, 0, 0, 0) := by decide +kernel
theorem at_25_57 : j_at 25 57 = some (.getfield 18, 4, 3, 0) := by decide +kernel
theorem at_25_60 : j_at 25 60 = some (.iload 4, 0, 0, 0) := by decide +kernel
theorem at_25_62 : j_at 25 62 = some (.aload_n 0, 0, 0, 0) := by decide +kernel
theorem at_25_63 : j_at 25 63 = some (.getfield 18, 4, 3, 0) := by decide +kernel
theorem at_25_66 : j_at 25 66 = some (.iload 4, 0, 0, 0) := by decide +kernel
theorem at_25_68 : j_at 25 68 = some (.iconst 1, 0, 0, 1) := by decide +kernel
theorem at_25_69 : j_at 25 69 = some (.isub, 0, 0, 0) := by decide +kernel
theorem at_25_70 : j_at 25 70 = some (.iaload, 0, 0, 0) := by decide +kernel
theorem at_25_71 : j_at 25 71 = some (.iastore, 0, 0, 0) := by decide +kernel
theorem at_25_72 : j_at 25 72 = some (.iinc 4 (-1), 0, 0, 0) := by decide +kernel
theorem at_25_75 : j_at 25 75 = some (.goto (-69), 6, 0, 0) := by decide +kernel
theorem at_25_78 : j_at 25 78 = some (.aload_n 0, 0, 0, 0) := by decide +kernel
theorem at_25_79 : j_at 25 79 = some (.getfield 9, 4, 1, 0) := by decide +kernel
theorem at_25_82 : j_at 25 82 = some (.iload 4, 0, 0, 0) := by decide +kernel
theorem at_25_84 : j_at 25 84 = some (.iload_n 1, 0, 0, 0) := by decide +kernel
theorem at_25_85 : j_at 25 85 = some (.iastore, 0, 0, 0) := by decide +kernel
theorem at_25_86 : j_at 25 86 = some (.aload_n 0, 0, 0, 0) := by decide +kernel
theorem at_25_87 : j_at 25 87 = some (.getfield 15, 4, 2, 0) := by decide +kernel
theorem at_25_90 : j_at 25 90 = some (.iload 4, 0, 0, 0) := by decide +kernel
theorem at_25_92 : j_at 25 92 = some (.iload_n 2, 0, 0, 0) := by decide +kernel
theorem at_25_93 : j_at 25 93 = some (.iastore, 0, 0, 0) := by decide +kernel
theorem at_25_94 : j_at 25 94 = some (.aload_n 0, 0, 0, 0) := by decide +kernel
theorem at_25_95 : j_at 25 95 = some (.getfield 18, 4, 3, 0) := by decide +kernel
theorem at_25_98 : j_at 25 98 = some (.iload 4, 0, 0, 0) := by decide +kernel
theorem at_25_100 : j_at 25 100 = some (.iload_n 3, 0, 0, 0) := by decide +kernel
theorem at_25_101 : j_at 25 101 = some (.iastore, 0, 0, 0) := by decide +kernel
theorem at_25_102 : j_at 25 102 = some (.aload_n 0, 0, 0, 0) := by decide +kernel
theorem at_25_103 : j_at 25 103 = some (.dup, 0, 0, 0) := by decide +kernel
theorem at_25_104 : j_at 25 104 = some (.getfield 21, 4, 0, 0) := by decide +kernel
theorem at_25_107 : j_at 25 107 = some (.iconst 1, 0, 0, 1) := by decide +kernel
theorem at_25_108 : j_at 25 108 = some (.iadd, 0, 0, 0) := by decide +kernel
theorem at_25_109 : j_at 25 109 = some (.putfield 21, 4, 0, 0) := by decide +kernel
theorem at_25_112 : j_at 25 112 = some (.return_, 0, 0, 0) := by decide +kernel
theorem at_27_0 : j_at 27 0 = some (.iload_n 2, 0, 0, 0) := by decide +kernel
theorem at_27_1 : j_at 27 1 = some (.aload_n 0, 0, 0, 0) := by decide +kernel
theorem at_27_2 : j_at 27 2 = some (.getfield 15, 4, 2, 0) := by decide +kernel
theorem at_27_5 : j_at 27 5 = some (.iload_n 3, 0, 0, 0) := by decide +kernel
theorem at_27_6 : j_at 27 6 = some (.iaload, 0, 0, 0) := by decide +kernel
theorem at_27_7 : j_at 27 7 = some (.if_icmp .lt 23, 30, 0, 0) := by decide +kernel
theorem at_27_10 : j_at 27 10 = some (.iload_n 2, 0, 0, 0) := by decide +kernel
theorem at_27_11 : j_at 27 11 = some (.aload_n 0, 0, 0, 0) := by decide +kernel
theorem at_27_12 : j_at 27 12 = some (.getfield 15, 4, 2, 0) := by decide +kernel
theorem at_27_15 : j_at 27 15 = some (.iload_n 3, 0, 0, 0) := by decide +kernel
theorem at_27_16 : j_at 27 16 = some (.iaload, 0, 0, 0) := by decide +kernel
theorem at_27_17 : j_at 27 17 = some (.if_icmp .ne 17, 34, 0, 0) := by decide +kernel
theorem at_27_20 : j_at 27 20 = some (.iload_n 1, 0, 0, 0) := by decide +kernel
theorem at_27_21 : j_at 27 21 = some (.aload_n 0, 0, 0, 0) := by decide +kernel
theorem at_27_22 : j_at 27 22 = some (.getfield 9, 4, 1, 0) := by decide +kernel
theorem at_27_25 : j_at 27 25 = some (.iload_n 3, 0, 0, 0) := by decide +kernel
theorem at_27_26 : j_at 27 26 = some (.iaload, 0, 0, 0) := by decide +kernel
theorem at_27_27 : j_at 27 27 = some (.if_icmp .ge 7, 34, 0, 0) := by decide +kernel
theorem at_27_30 : j_at 27 30 = some (.iconst 1, 0, 0, 1) := by decide +kernel
theorem at_27_31 : j_at 27 31 = some (.goto 4, 35, 0, 0) := by decide +kernel
theorem at_27_34 : j_at 27 34 = some (.iconst 0, 0, 0, 0) := by decide +kernel
theorem at_27_35 : j_at 27 35 = some (.ireturn, 0, 0, 0) := by decide +kernel
theorem at_29_0 : j_at 29 0 = some (.aload_n 0, 0, 0, 0) := by decide +kernel
theorem at_29_1 : j_at 29 1 = some (.getfield 12, 5, 0, 0) := by decide +kernel
theorem at_29_4 : j_at 29 4 = some (.aload_n 1, 0, 0, 0) := by decide +kernel
theorem at_29_5 : j_at 29 5 = some (.invokevirtual 25, 38, 1, 0) := by decide +kernel
theorem at_29_8 : j_at 29 8 = some (.aload_n 0, 0, 0, 0) := by decide +kernel
theorem at_29_9 : j_at 29 9 = some (.getfield 21, 5, 1, 0) := by decide +kernel
theorem at_29_12 : j_at 29 12 = some (.invokevirtual 29, 1, 0, 0) := by decide +kernel
theorem at_29_15 : j_at 29 15 = some (.aload_n 0, 0, 0, 0) := by decide +kernel
theorem at_29_16 : j_at 29 16 = some (.aload_n 0, 0, 0, 0) := by decide +kernel
theorem at_29_17 : j_at 29 17 = some (.getfield 12, 5, 0, 0) := by decide +kernel
theorem at_29_20 : j_at 29 20 = some (.invokevirtual 32, 45, 0, 0) := by decide +kernel
theorem at_29_23 : j_at 29 23 = some (.putfield 36, 5, 2, 0) := by decide +kernel
theorem at_29_26 : j_at 29 26 = some (.iconst 0, 0, 0, 0) := by decide +kernel
theorem at_29_27 : j_at 29 27 = some (.istore_n 3, 0, 0, 0) := by decide +kernel
theorem at_29_28 : j_at 29 28 = some (.iload_n 3, 0, 0, 0) := by decide +kernel
theorem at_29_29 : j_at 29 29 = some (.iload_n 2, 0, 0, 0) := by decide +kernel
theorem at_29_30 : j_at 29 30 = some (.if_icmp .ge 92, 122, 0, 0) := by decide +kernel
theorem at_29_33 : j_at 29 33 = some (.aload_n 0, 0, 0, 0) := by decide +kernel
theorem at_29_34 : j_at 29 34 = some (.getfield 36, 5, 2, 0) := by decide +kernel
theorem at_29_37 : j_at 29 37 = some (.iconst 3, 0, 0, 3) := by decide +kernel
theorem at_29_38 : j_at 29 38 = some (.if_icmp .ne 84, 122, 0, 0) := by decide +kernel
theorem at_29_41 : j_at 29 41 = some (.aload_n 0, 0, 0, 0) := by decide +kernel
theorem at_29_42 : j_at 29 42 = some (.getfield 12, 5, 0, 0) := by decide +kernel
theorem at_29_45 : j_at 29 45 = some (.invokevirtual 40, 56, 0, 0) := by decide +kernel
theorem at_29_48 : j_at 29 48 = some (.istore 4, 0, 0, 0) := by decide +kernel
theorem at_29_50 : j_at 29 50 = some (.iload 4, 0, 0, 0) := by decide +kernel
theorem at_29_52 : j_at 29 52 = some (.ifCond .ge 6, 58, 0, 0) := by decide +kernel
theorem at_29_55 : j_at 29 55 = some (.goto 67, 122, 0, 0) := by decide +kernel
theorem at_29_58 : j_at 29 58 = some (.aload_n 0, 0, 0, 0) := by decide +kernel
theorem at_29_59 : j_at 29 59 = some (.getfield 21, 5, 1, 0) := by decide +kernel
theorem at_29_62 : j_at 29 62 = some (.aload_n 0, 0, 0, 0) := by decide +kernel
theorem at_29_63 : j_at 29 63 = some (.getfield 12, 5, 0, 0) := by decide +kernel
theorem at_29_66 : j_at 29 66 = some (.iload 4, 0, 0, 0) := by decide +kernel
theorem at_29_68 : j_at 29 68 = some (.aload_n 1, 0, 0, 0) := by decide +kernel
theorem at_29_69 : j_at 29 69 = some (.invokevirtual 43, 4, 3, 0) := by decide +kernel
theorem at_29_72 : j_at 29 72 = some (.ifCond .eq 38, 110, 0, 0) := by decide +kernel
theorem at_29_75 : j_at 29 75 = some (.aload_n 0, 0, 0, 0) := by decide +kernel
theorem at_29_76 : j_at 29 76 = some (.getfield 12, 5, 0, 0) := by decide +kernel
theorem at_29_79 : j_at 29 79 = some (.bipush 20, 0, 0, 20) := by decide +kernel
theorem at_29_81 : j_at 29 81 = some (.aload_n 0, 0, 0, 0) := by decide +kernel
theorem at_29_82 : j_at 29 82 = some (.getfield 21, 5, 1, 0) := by decide +kernel
theorem at_29_85 : j_at 29 85 = some (.getfield 47, 2, 0, 0) := by decide +kernel
theorem at_29_88 : j_at 29 88 = some (.iadd, 0, 0, 0) := by decide +kernel
theorem at_29_89 : j_at 29 89 = some (.iconst 1, 0, 0, 1) := by decide +kernel
theorem at_29_90 : j_at 29 90 = some (.isub, 0, 0, 0) := by decide +kernel
theorem at_29_91 : j_at 29 91 = some (.iload 4, 0, 0, 0) := by decide +kernel
theorem at_29_93 : j_at 29 93 = some (.invokevirtual 50, 42, 2, 0) := by decide +kernel
theorem at_29_96 : j_at 29 96 = some (.aload_n 0, 0, 0, 0) := by decide +kernel
theorem at_29_97 : j_at 29 97 = some (.aload_n 0, 0, 0, 0) := by decide +kernel
theorem at_29_98 : j_at 29 98 = some (.getfield 12, 5, 0, 0) := by decide +kernel
theorem at_29_101 : j_at 29 101 = some (.invokevirtual 32, 45, 0, 0) := by decide +kernel
theorem at_29_104 : j_at 29 104 = some (.putfield 36, 5, 2, 0) := by decide +kernel
theorem at_29_107 : j_at 29 107 = some (.goto 9, 116, 0, 0) := by decide +kernel
theorem at_29_110 : j_at 29 110 = some (.aload_n 0, 0, 0, 0) := by decide +kernel
theorem at_29_111 : j_at 29 111 = some (.bipush (-6), 0, 0, -6) := by decide +kernel
theorem at_29_113 : j_at 29 113 = some (.putfield 36, 5, 2, 0) := by decide +kernel
theorem at_29_116 : j_at 29 116 = some (.iinc 3 1, 0, 0, 0) := by decide +kernel
theorem at_29_119 : j_at 29 119 = some (.goto (-91), 28, 0, 0) := by decide +kernel
theorem at_29_122 : j_at 29 122 = some (.aload_n 0, 0, 0, 0) := by decide +kernel
theorem at_29_123 : j_at 29 123 = some (.getfield 36, 5, 2, 0) := by decide +kernel
theorem at_29_126 : j_at 29 126 = some (.iconst 3, 0, 0, 3) := by decide +kernel
theorem at_29_127 : j_at 29 127 = some (.if_icmp .ne 22, 149, 0, 0) := by decide +kernel
theorem at_29_130 : j_at 29 130 = some (.aload_n 0, 0, 0, 0) := by decide +kernel
theorem at_29_131 : j_at 29 131 = some (.aload_n 0, 0, 0, 0) := by decide +kernel
theorem at_29_132 : j_at 29 132 = some (.getfield 12, 5, 0, 0) := by decide +kernel
theorem at_29_135 : j_at 29 135 = some (.invokevirtual 40, 56, 0, 0) := by decide +kernel
theorem at_29_138 : j_at 29 138 = some (.ifCond .ge 7, 145, 0, 0) := by decide +kernel
theorem at_29_141 : j_at 29 141 = some (.iconst 1, 0, 0, 1) := by decide +kernel
theorem at_29_142 : j_at 29 142 = some (.goto 4, 146, 0, 0) := by decide +kernel
theorem at_29_145 : j_at 29 145 = some (.iconst 2, 0, 0, 2) := by decide +kernel
theorem at_29_146 : j_at 29 146 = some (.putfield 36, 5, 2, 0) := by decide +kernel
theorem at_29_149 : j_at 29 149 = some (.aload_n 0, 0, 0, 0) := by decide +kernel
theorem at_29_150 : j_at 29 150 = some (.getfield 36, 5, 2, 0) := by decide +kernel
theorem at_29_153 : j_at 29 153 = some (.ireturn, 0, 0, 0) := by decide +kernel
theorem at_30_0 : j_at 30 0 = some (.aload_n 0, 0, 0, 0) := by decide +kernel
theorem at_30_1 : j_at 30 1 = some (.aload_n 1, 0, 0, 0) := by decide +kernel
theorem at_30_2 : j_at 30 2 = some (.bipush 12, 0, 0, 12) := by decide +kernel
theorem at_30_4 : j_at 30 4 = some (.invokevirtual 54, 29, 2, 0) := by decide +kernel
theorem at_30_7 : j_at 30 7 = some (.istore_n 2, 0, 0, 0) := by decide +kernel
theorem at_30_8 : j_at 30 8 = some (.iload_n 2, 0, 0, 0) := by decide +kernel
theorem at_30_9 : j_at 30 9 = some (.iconst 1, 0, 0, 1) := by decide +kernel
theorem at_30_10 : j_at 30 10 = some (.if_icmp .ne 19, 29, 0, 0) := by decide +kernel
theorem at_30_13 : j_at 30 13 = some (.aload_n 0, 0, 0, 0) := by decide +kernel
theorem at_30_14 : j_at 30 14 = some (.getfield 12, 5, 0, 0) := by decide +kernel
theorem at_30_17 : j_at 30 17 = some (.aload_n 0, 0, 0, 0) := by decide +kernel
theorem at_30_18 : j_at 30 18 = some (.getfield 12, 5, 0, 0) := by decide +kernel
theorem at_30_21 : j_at 30 21 = some (.getfield 58, 7, 3, 0) := by decide +kernel
theorem at_30_24 : j_at 30 24 = some (.invokevirtual 62, 44, 1, 0) := by decide +kernel
theorem at_30_27 : j_at 30 27 = some (.l2i, 0, 0, 0) := by decide +kernel
theorem at_30_28 : j_at 30 28 = some (.ireturn, 0, 0, 0) := by decide +kernel
theorem at_30_29 : j_at 30 29 = some (.iload_n 2, 0, 0, 0) := by decide +kernel
theorem at_30_30 : j_at 30 30 = some (.ifCond .ne 8, 38, 0, 0) := by decide +kernel
theorem at_30_33 : j_at 30 33 = some (.bipush (-5), 0, 0, -5) := by decide +kernel
theorem at_30_35 : j_at 30 35 = some (.goto 5, 40, 0, 0) := by decide +kernel
theorem at_30_38 : j_at 30 38 = some (.bipush (-6), 0, 0, -6) := by decide +kernel
theorem at_30_40 : j_at 30 40 = some (.ireturn, 0, 0, 0) := by decide +kernel
theorem at_32_0 : j_at 32 0 = some (.aload_n 0, 0, 0, 0) := by decide +kernel
theorem at_32_1 : j_at 32 1 = some (.getfield 12, 6, 0, 0) := by decide +kernel
theorem at_32_4 : j_at 32 4 = some (.aload_n 1, 0, 0, 0) := by decide +kernel
theorem at_32_5 : j_at 32 5 = some (.getfield 12, 6, 0, 0) := by decide +kernel
theorem at_32_8 : j_at 32 8 = some (.invokevirtual 51, 8, 1, 0) := by decide +kernel
theorem at_32_11 : j_at 32 11 = some (.aload_n 0, 0, 0, 0) := by decide +kernel
theorem at_32_12 : j_at 32 12 = some (.getfield 21, 6, 1, 0) := by decide +kernel
theorem at_32_15 : j_at 32 15 = some (.aload_n 1, 0, 0, 0) := by decide +kernel
theorem at_32_16 : j_at 32 16 = some (.getfield 21, 6, 1, 0) := by decide +kernel
theorem at_32_19 : j_at 32 19 = some (.invokevirtual 55, 21, 1, 0) := by decide +kernel
theorem at_32_22 : j_at 32 22 = some (.aload_n 1, 0, 0, 0) := by decide +kernel
theorem at_32_23 : j_at 32 23 = some (.getfield 25, 6, 2, 0) := by decide +kernel
theorem at_32_26 : j_at 32 26 = some (.iconst 0, 0, 0, 0) := by decide +kernel
theorem at_32_27 : j_at 32 27 = some (.aload_n 0, 0, 0, 0) := by decide +kernel
theorem at_32_28 : j_at 32 28 = some (.getfield 25, 6, 2, 0) := by decide +kernel
theorem at_32_31 : j_at 32 31 = some (.iconst 0, 0, 0, 0) := by decide +kernel
theorem at_32_32 : j_at 32 32 = some (.bipush 8, 0, 0, 8) := by decide +kernel
theorem at_32_34 : j_at 32 34 = some (.invokestatic 58, 9999, 5, 0) := by decide +kernel
theorem at_32_37 : j_at 32 37 = some (.aload_n 0, 0, 0, 0) := by decide +kernel
theorem at_32_38 : j_at 32 38 = some (.aload_n 1, 0, 0, 0) := by decide +kernel
theorem at_32_39 : j_at 32 39 = some (.getfield 29, 6, 3, 0) := by decide +kernel
theorem at_32_42 : j_at 32 42 = some (.putfield 29, 6, 3, 0) := by decide +kernel
theorem at_32_45 : j_at 32 45 = some (.aload_n 0, 0, 0, 0) := by decide +kernel
theorem at_32_46 : j_at 32 46 = some (.aload_n 1, 0, 0, 0) := by decide +kernel
theorem at_32_47 : j_at 32 47 = some (.getfield 33, 6, 4, 0) := by decide +kernel
theorem at_32_50 : j_at 32 50 = some (.putfield 33, 6, 4, 0) := by decide +kernel
theorem at_32_53 : j_at 32 53 = some (.aload_n 0, 0, 0, 0) := by decide +kernel
theorem at_32_54 : j_at 32 54 = some (.aload_n 1, 0, 0, 0) := by decide +kernel
theorem at_32_55 : j_at 32 55 = some (.getfield 64, 6, 5, 0) := by decide +kernel
theorem at_32_58 : j_at 32 58 = some (.putfield 64, 6, 5, 0) := by decide +kernel
theorem at_32_61 : j_at 32 61 = some (.aload_n 1, 0, 0, 0) := by decide +kernel
theorem at_32_62 : j_at 32 62 = some (.getfield 36, 6, 6, 0) := by decide +kernel
theorem at_32_65 : j_at 32 65 = some (.iconst 0, 0, 0, 0) := by decide +kernel
theorem at_32_66 : j_at 32 66 = some (.aload_n 0, 0, 0, 0) := by decide +kernel
theorem at_32_67 : j_at 32 67 = some (.getfield 36, 6, 6, 0) := by decide +kernel
theorem at_32_70 : j_at 32 70 = some (.iconst 0, 0, 0, 0) := by decide +kernel
theorem at_32_71 : j_at 32 71 = some (.iconst 5, 0, 0, 5) := by decide +kernel
theorem at_32_72 : j_at 32 72 = some (.invokestatic 58, 9999, 5, 0) := by decide +kernel
theorem at_32_75 : j_at 32 75 = some (.aload_n 1, 0, 0, 0) := by decide +kernel
theorem at_32_76 : j_at 32 76 = some (.getfield 39, 6, 7, 0) := by decide +kernel
theorem at_32_79 : j_at 32 79 = some (.iconst 0, 0, 0, 0) := by decide +kernel
theorem at_32_80 : j_at 32 80 = some (.aload_n 0, 0, 0, 0) := by decide +kernel
theorem at_32_81 : j_at 32 81 = some (.getfield 39, 6, 7, 0) := by decide +kernel
theorem at_32_84 : j_at 32 84 = some (.iconst 0, 0, 0, 0) := by decide +kernel
theorem at_32_85 : j_at 32 85 = some (.iconst 5, 0, 0, 5) := by decide +kernel
theorem at_32_86 : j_at 32 86 = some (.invokestatic 58, 9999, 5, 0) := by decide +kernel
theorem at_32_89 : j_at 32 89 = some (.aload_n 0, 0, 0, 0) := by decide +kernel
theorem at_32_90 : j_at 32 90 = some (.aload_n 1, 0, 0, 0) := by decide +kernel
theorem at_32_91 : j_at 32 91 = some (.getfield 67, 6, 8, 0) := by decide +kernel
theorem at_32_94 : j_at 32 94 = some (.putfield 67, 6, 8, 0) := by decide +kernel
theorem at_32_97 : j_at 32 97 = some (.aload_n 1, 0, 0, 0) := by decide +kernel
theorem at_32_98 : j_at 32 98 = some (.getfield 42, 6, 9, 0) := by decide +kernel
theorem at_32_101 : j_at 32 101 = some (.iconst 0, 0, 0, 0) := by decide +kernel
theorem at_32_102 : j_at 32 102 = some (.aload_n 0, 0, 0, 0) := by decide +kernel
theorem at_32_103 : j_at 32 103 = some (.getfield 42, 6, 9, 0) := by decide +kernel
theorem at_32_106 : j_at 32 106 = some (.iconst 0, 0, 0, 0) := by decide +kernel
theorem at_32_107 : j_at 32 107 = some (.bipush 8, 0, 0, 8) := by decide +kernel
theorem at_32_109 : j_at 32 109 = some (.invokestatic 58, 9999, 5, 0) := by decide +kernel
theorem at_32_112 : j_at 32 112 = some (.aload_n 1, 0, 0, 0) := by decide +kernel
theorem at_32_113 : j_at 32 113 = some (.getfield 45, 6, 10, 0) := by decide +kernel
theorem at_32_116 : j_at 32 116 = some (.iconst 0, 0, 0, 0) := by decide +kernel
theorem at_32_117 : j_at 32 117 = some (.aload_n 0, 0, 0, 0) := by decide +kernel
theorem at_32_118 : j_at 32 118 = some (.getfield 45, 6, 10, 0) := by decide +kernel
theorem at_32_121 : j_at 32 121 = some (.iconst 0, 0, 0, 0) := by decide +kernel
theorem at_32_122 : j_at 32 122 = some (.bipush 8, 0, 0, 8) := by decide +kernel
theorem at_32_124 : j_at 32 124 = some (.invokestatic 58, 9999, 5, 0) := by decide +kernel
theorem at_32_127 : j_at 32 127 = some (.aload_n 1, 0, 0, 0) := by decide +kernel
theorem at_32_128 : j_at 32 128 = some (.getfield 48, 6, 11, 0) := by decide +kernel
theorem at_32_131 : j_at 32 131 = some (.iconst 0, 0, 0, 0) := by decide +kernel
theorem at_32_132 : j_at 32 132 = some (.aload_n 0, 0, 0, 0) := by decide +kernel
theorem at_32_133 : j_at 32 133 = some (.getfield 48, 6, 11, 0) := by decide +kernel
theorem at_32_136 : j_at 32 136 = some (.iconst 0, 0, 0, 0) := by decide +kernel
theorem at_32_137 : j_at 32 137 = some (.bipush 8, 0, 0, 8) := by decide +kernel
theorem at_32_139 : j_at 32 139 = some (.invokestatic 58, 9999, 5, 0) := by decide +kernel
theorem at_32_142 : j_at 32 142 = some (.return_, 0, 0, 0) := by decide +kernel
theorem at_33_0 : j_at 33 0 = some (.aload_n 0, 0, 0, 0) := by decide +kernel
theorem at_33_1 : j_at 33 1 = some (.getfield 12, 6, 0, 0) := by decide +kernel
theorem at_33_4 : j_at 33 4 = some (.iload_n 1, 0, 0, 0) := by decide +kernel
theorem at_33_5 : j_at 33 5 = some (.invokevirtual 70, 9, 1, 0) := by decide +kernel
theorem at_33_8 : j_at 33 8 = some (.aload_n 0, 0, 0, 0) := by decide +kernel
theorem at_33_9 : j_at 33 9 = some (.getfield 21, 6, 1, 0) := by decide +kernel
theorem at_33_12 : j_at 33 12 = some (.invokevirtual 74, 22, 0, 0) := by decide +kernel
theorem at_33_15 : j_at 33 15 = some (.aload_n 0, 0, 0, 0) := by decide +kernel
theorem at_33_16 : j_at 33 16 = some (.getfield 25, 6, 2, 0) := by decide +kernel
theorem at_33_19 : j_at 33 19 = some (.iconst 0, 0, 0, 0) := by decide +kernel
theorem at_33_20 : j_at 33 20 = some (.invokestatic 77, 270, 2, 0) := by decide +kernel
theorem at_33_23 : j_at 33 23 = some (.aload_n 0, 0, 0, 0) := by decide +kernel
theorem at_33_24 : j_at 33 24 = some (.iconst 1, 0, 0, 1) := by decide +kernel
theorem at_33_25 : j_at 33 25 = some (.putfield 29, 6, 3, 0) := by decide +kernel
theorem at_33_28 : j_at 33 28 = some (.aload_n 0, 0, 0, 0) := by decide +kernel
theorem at_33_29 : j_at 33 29 = some (.iconst 0, 0, 0, 0) := by decide +kernel
theorem at_33_30 : j_at 33 30 = some (.putfield 64, 6, 5, 0) := by decide +kernel
theorem at_33_33 : j_at 33 33 = some (.aload_n 0, 0, 0, 0) := by decide +kernel
theorem at_33_34 : j_at 33 34 = some (.iconst 0, 0, 0, 0) := by decide +kernel
theorem at_33_35 : j_at 33 35 = some (.putfield 67, 6, 8, 0) := by decide +kernel
theorem at_33_38 : j_at 33 38 = some (.return_, 0, 0, 0) := by decide +kernel
theorem at_34_0 : j_at 34 0 = some (.aload_n 0, 0, 0, 0) := by decide +kernel
theorem at_34_1 : j_at 34 1 = some (.getfield 36, 6, 6, 0) := by decide +kernel
theorem at_34_4 : j_at 34 4 = some (.aload_n 0, 0, 0, 0) := by decide +kernel
theorem at_34_5 : j_at 34 5 = some (.getfield 64, 6, 5, 0) := by decide +kernel
theorem at_34_8 : j_at 34 8 = some (.iload_n 1, 0, 0, 0) := by decide +kernel
theorem at_34_9 : j_at 34 9 = some (.iastore, 0, 0, 0) := by decide +kernel
theorem at_34_10 : j_at 34 10 = some (.aload_n 0, 0, 0, 0) := by decide +kernel
theorem at_34_11 : j_at 34 11 = some (.getfield 39, 6, 7, 0) := by decide +kernel
theorem at_34_14 : j_at 34 14 = some (.aload_n 0, 0, 0, 0) := by decide +kernel
theorem at_34_15 : j_at 34 15 = some (.getfield 64, 6, 5, 0) := by decide +kernel
theorem at_34_18 : j_at 34 18 = some (.iload_n 2, 0, 0, 0) := by decide +kernel
theorem at_34_19 : j_at 34 19 = some (.iastore, 0, 0, 0) := by decide +kernel
theorem at_34_20 : j_at 34 20 = some (.aload_n 0, 0, 0, 0) := by decide +kernel
theorem at_34_21 : j_at 34 21 = some (.dup, 0, 0, 0) := by decide +kernel
theorem at_34_22 : j_at 34 22 = some (.getfield 64, 6, 5, 0) := by decide +kernel
theorem at_34_25 : j_at 34 25 = some (.iconst 1, 0, 0, 1) := by decide +kernel
theorem at_34_26 : j_at 34 26 = some (.iadd, 0, 0, 0) := by decide +kernel
theorem at_34_27 : j_at 34 27 = some (.putfield 64, 6, 5, 0) := by decide +kernel
theorem at_34_30 : j_at 34 30 = some (.return_, 0, 0, 0) := by decide +kernel
theorem at_35_0 : j_at 35 0 = some (.aload_n 0, 0, 0, 0) := by decide +kernel
theorem at_35_1 : j_at 35 1 = some (.getfield 42, 6, 9, 0) := by decide +kernel
theorem at_35_4 : j_at 35 4 = some (.aload_n 0, 0, 0, 0) := by decide +kernel
theorem at_35_5 : j_at 35 5 = some (.getfield 67, 6, 8, 0) := by decide +kernel
theorem at_35_8 : j_at 35 8 = some (.iload_n 1, 0, 0, 0) := by decide +kernel
theorem at_35_9 : j_at 35 9 = some (.iastore, 0, 0, 0) := by decide +kernel
theorem at_35_10 : j_at 35 10 = some (.aload_n 0, 0, 0, 0) := by decide +kernel
theorem at_35_11 : j_at 35 11 = some (.getfield 45, 6, 10, 0) := by decide +kernel
theorem at_35_14 : j_at 35 14 = some (.aload_n 0, 0, 0, 0) := by decide +kernel
theorem at_35_15 : j_at 35 15 = some (.getfield 67, 6, 8, 0) := by decide +kernel
theorem at_35_18 : j_at 35 18 = some (.iload_n 2, 0, 0, 0) := by decide +kernel
theorem at_35_19 : j_at 35 19 = some (.iastore, 0, 0, 0) := by decide +kernel
theorem at_35_20 : j_at 35 20 = some (.aload_n 0, 0, 0, 0) := by decide +kernel
theorem at_35_21 : j_at 35 21 = some (.getfield 48, 6, 11, 0) := by decide +kernel
theorem at_35_24 : j_at 35 24 = some (.aload_n 0, 0, 0, 0) := by decide +kernel
theorem at_35_25 : j_at 35 25 = some (.getfield 67, 6, 8, 0) := by decide +kernel
theorem at_35_28 : j_at 35 28 = some (.iload_n 3, 0, 0, 0) := by decide +kernel
theorem at_35_29 : j_at 35 29 = some (.iastore, 0, 0, 0) := by decide +kernel
theorem at_35_30 : j_at 35 30 = some (.aload_n 0, 0, 0, 0) := by decide +kernel
theorem at_35_31 : j_at 35 31 = some (.dup, 0, 0, 0) := by decide +kernel
theorem at_35_32 : j_at 35 32 = some (.getfield 67, 6, 8, 0) := by decide +kernel
theorem at_35_35 : j_at 35 35 = some (.iconst 1, 0, 0, 1) := by decide +kernel
theorem at_35_36 : j_at 35 36 = some (.iadd, 0, 0, 0) := by decide +kernel
theorem at_35_37 : j_at 35 37 = some (.putfield 67, 6, 8, 0) := by decide +kernel
theorem at_35_40 : j_at 35 40 = some (.return_, 0, 0, 0) := by decide +kernel
theorem at_38_0 : j_at 38 0 = some (.aload_n 0, 0, 0, 0) := by decide +kernel
theorem at_38_1 : j_at 38 1 = some (.iconst 0, 0, 0, 0) := by decide +kernel
theorem at_38_2 : j_at 38 2 = some (.putfield 45, 7, 0, 0) := by decide +kernel
theorem at_38_5 : j_at 38 5 = some (.aload_n 0, 0, 0, 0) := by decide +kernel
theorem at_38_6 : j_at 38 6 = some (.aload_n 1, 0, 0, 0) := by decide +kernel
theorem at_38_7 : j_at 38 7 = some (.getfield 48, 3, 0, 0) := by decide +kernel
theorem at_38_10 : j_at 38 10 = some (.putfield 9, 7, 1, 0) := by decide +kernel
theorem at_38_13 : j_at 38 13 = some (.aload_n 0, 0, 0, 0) := by decide +kernel
theorem at_38_14 : j_at 38 14 = some (.iconst 0, 0, 0, 0) := by decide +kernel
theorem at_38_15 : j_at 38 15 = some (.putfield 53, 7, 2, 0) := by decide +kernel
theorem at_38_18 : j_at 38 18 = some (.aload_n 0, 0, 0, 0) := by decide +kernel
theorem at_38_19 : j_at 38 19 = some (.lconst 0, 0, 0, 0) := by decide +kernel
theorem at_38_20 : j_at 38 20 = some (.putfield 56, 7, 3, 0) := by decide +kernel
theorem at_38_23 : j_at 38 23 = some (.aload_n 0, 0, 0, 0) := by decide +kernel
theorem at_38_24 : j_at 38 24 = some (.lconst 1, 0, 0, 1) := by decide +kernel
theorem at_38_25 : j_at 38 25 = some (.putfield 15, 7, 4, 0) := by decide +kernel
theorem at_38_28 : j_at 38 28 = some (.iconst 0, 0, 0, 0) := by decide +kernel
theorem at_38_29 : j_at 38 29 = some (.istore_n 2, 0, 0, 0) := by decide +kernel
theorem at_38_30 : j_at 38 30 = some (.iload_n 2, 0, 0, 0) := by decide +kernel
theorem at_38_31 : j_at 38 31 = some (.aload_n 0, 0, 0, 0) := by decide +kernel
theorem at_38_32 : j_at 38 32 = some (.getfield 9, 7, 1, 0) := by decide +kernel
theorem at_38_35 : j_at 38 35 = some (.if_icmp .ge 29, 64, 0, 0) := by decide +kernel
theorem at_38_38 : j_at 38 38 = some (.aload_n 0, 0, 0, 0) := by decide +kernel
theorem at_38_39 : j_at 38 39 = some (.getfield 23, 7, 6, 0) := by decide +kernel
theorem at_38_42 : j_at 38 42 = some (.iload_n 2, 0, 0, 0) := by decide +kernel
theorem at_38_43 : j_at 38 43 = some (.iload_n 2, 0, 0, 0) := by decide +kernel
theorem at_38_44 : j_at 38 44 = some (.iastore, 0, 0, 0) := by decide +kernel
theorem at_38_45 : j_at 38 45 = some (.aload_n 0, 0, 0, 0) := by decide +kernel
theorem at_38_46 : j_at 38 46 = some (.getfield 33, 7, 9, 0) := by decide +kernel
theorem at_38_49 : j_at 38 49 = some (.iload_n 2, 0, 0, 0) := by decide +kernel
theorem at_38_50 : j_at 38 50 = some (.aload_n 1, 0, 0, 0) := by decide +kernel
theorem at_38_51 : j_at 38 51 = some (.getfield 59, 3, 2, 0) := by decide +kernel
theorem at_38_54 : j_at 38 54 = some (.iload_n 2, 0, 0, 0) := by decide +kernel
theorem at_38_55 : j_at 38 55 = some (.iaload, 0, 0, 0) := by decide +kernel
theorem at_38_56 : j_at 38 56 = some (.i2l, 0, 0, 0) := by decide +kernel
theorem at_38_57 : j_at 38 57 = some (.lastore, 0, 0, 0) := by decide +kernel
theorem at_38_58 : j_at 38 58 = some (.iinc 2 1, 0, 0, 0) := by decide +kernel
theorem at_38_61 : j_at 38 61 = some (.goto (-31), 30, 0, 0) := by decide +kernel
theorem at_38_64 : j_at 38 64 = some (.iconst 0, 0, 0, 0) := by decide +kernel
theorem at_38_65 : j_at 38 65 = some (.istore_n 2, 0, 0, 0) := by decide +kernel
theorem at_38_66 : j_at 38 66 = some (.iload_n 2, 0, 0, 0) := by decide +kernel
theorem at_38_67 : j_at 38 67 = some (.aload_n 1, 0, 0, 0) := by decide +kernel
theorem at_38_68 : j_at 38 68 = some (.getfield 62, 3, 1, 0) := by decide +kernel
theorem at_38_71 : j_at 38 71 = some (.if_icmp .ge 65, 136, 0, 0) := by decide +kernel
theorem at_38_74 : j_at 38 74 = some (.aload_n 0, 0, 0, 0) := by decide +kernel
theorem at_38_75 : j_at 38 75 = some (.bipush 10, 0, 0, 10) := by decide +kernel
theorem at_38_77 : j_at 38 77 = some (.iload_n 2, 0, 0, 0) := by decide +kernel
theorem at_38_78 : j_at 38 78 = some (.iadd, 0, 0, 0) := by decide +kernel
theorem at_38_79 : j_at 38 79 = some (.aload_n 1, 0, 0, 0) := by decide +kernel
theorem at_38_80 : j_at 38 80 = some (.iload_n 2, 0, 0, 0) := by decide +kernel
theorem at_38_81 : j_at 38 81 = some (.aload_n 0, 0, 0, 0) := by decide +kernel
theorem at_38_82 : j_at 38 82 = some (.getfield 9, 7, 1, 0) := by decide +kernel
theorem at_38_85 : j_at 38 85 = some (.invokevirtual 65, 13, 2, 0) := by decide +kernel
theorem at_38_88 : j_at 38 88 = some (.i2l, 0, 0, 0) := by decide +kernel
theorem at_38_89 : j_at 38 89 = some (.invokevirtual 69, 39, 2, 0) := by decide +kernel
theorem at_38_92 : j_at 38 92 = some (.istore_n 3, 0, 0, 0) := by decide +kernel
theorem at_38_93 : j_at 38 93 = some (.iconst 0, 0, 0, 0) := by decide +kernel
theorem at_38_94 : j_at 38 94 = some (.istore 4, 0, 0, 0) := by decide +kernel
theorem at_38_96 : j_at 38 96 = some (.iload 4, 0, 0, 0) := by decide +kernel
theorem at_38_98 : j_at 38 98 = some (.aload_n 0, 0, 0, 0) := by decide +kernel
theorem at_38_99 : j_at 38 99 = some (.getfield 9, 7, 1, 0) := by decide +kernel
theorem at_38_102 : j_at 38 102 = some (.if_icmp .ge 28, 130, 0, 0) := by decide +kernel
theorem at_38_105 : j_at 38 105 = some (.aload_n 0, 0, 0, 0) := by decide +kernel
theorem at_38_106 : j_at 38 106 = some (.getfield 26, 7, 7, 0) := by decide +kernel
theorem at_38_109 : j_at 38 109 = some (.iload_n 3, 0, 0, 0) := by decide +kernel
theorem at_38_110 : j_at 38 110 = some (.iconst 5, 0, 0, 5) := by decide +kernel
theorem at_38_111 : j_at 38 111 = some (.imul, 0, 0, 0) := by decide +kernel
theorem at_38_112 : j_at 38 112 = some (.iload 4, 0, 0, 0) := by decide +kernel
theorem at_38_114 : j_at 38 114 = some (.iadd, 0, 0, 0) := by decide +kernel
theorem at_38_115 : j_at 38 115 = some (.aload_n 1, 0, 0, 0) := by decide +kernel
theorem at_38_116 : j_at 38 116 = some (.iload_n 2, 0, 0, 0) := by decide +kernel
theorem at_38_117 : j_at 38 117 = some (.iload 4, 0, 0, 0) := by decide +kernel
theorem at_38_119 : j_at 38 119 = some (.invokevirtual 65, 13, 2, 0) := by decide +kernel
theorem at_38_122 : j_at 38 122 = some (.i2l, 0, 0, 0) := by decide +kernel
theorem at_38_123 : j_at 38 123 = some (.lastore, 0, 0, 0) := by decide +kernel
theorem at_38_124 : j_at 38 124 = some (.iinc 4 1, 0, 0, 0) := by decide +kernel
theorem at_38_127 : j_at 38 127 = some (.goto (-31), 96, 0, 0) := by decide +kernel
theorem at_38_130 : j_at 38 130 = some (.iinc 2 1, 0, 0, 0) := by decide +kernel
theorem at_38_133 : j_at 38 133 = some (.goto (-67), 66, 0, 0) := by decide +kernel
theorem at_38_136 : j_at 38 136 = some (.return_, 0, 0, 0) := by decide +kernel
theorem at_39_0 : j_at 39 0 = some (.aload_n 0, 0, 0, 0) := by decide +kernel
theorem at_39_1 : j_at 39 1 = some (.getfield 45, 7, 0, 0) := by decide +kernel
theorem at_39_4 : j_at 39 4 = some (.istore 4, 0, 0, 0) := by decide +kernel
theorem at_39_6 : j_at 39 6 = some (.aload_n 0, 0, 0, 0) := by decide +kernel
theorem at_39_7 : j_at 39 7 = some (.getfield 19, 7, 5, 0) := by decide +kernel
theorem at_39_10 : j_at 39 10 = some (.iload 4, 0, 0, 0) := by decide +kernel
theorem at_39_12 : j_at 39 12 = some (.iload_n 1, 0, 0, 0) := by decide +kernel
theorem at_39_13 : j_at 39 13 = some (.iastore, 0, 0, 0) := by decide +kernel
theorem at_39_14 : j_at 39 14 = some (.aload_n 0, 0, 0, 0) := by decide +kernel
theorem at_39_15 : j_at 39 15 = some (.getfield 30, 7, 8, 0) := by decide +kernel
theorem at_39_18 : j_at 39 18 = some (.iload 4, 0, 0, 0) := by decide +kernel
theorem at_39_20 : j_at 39 20 = some (.lload_n 2, 0, 0, 0) := by decide +kernel
theorem at_39_21 : j_at 39 21 = some (.lastore, 0, 0, 0) := by decide +kernel
theorem at_39_22 : j_at 39 22 = some (.iconst 0, 0, 0, 0) := by decide +kernel
theorem at_39_23 : j_at 39 23 = some (.istore 5, 0, 0, 0) := by decide +kernel
theorem at_39_25 : j_at 39 25 = some (.iload 5, 0, 0, 0) := by decide +kernel
theorem at_39_27 : j_at 39 27 = some (.iconst 5, 0, 0, 5) := by decide +kernel
theorem at_39_28 : j_at 39 28 = some (.if_icmp .ge 22, 50, 0, 0) := by decide +kernel
theorem at_39_31 : j_at 39 31 = some (.aload_n 0, 0, 0, 0) := by decide +kernel
theorem at_39_32 : j_at 39 32 = some (.getfield 26, 7, 7, 0) := by decide +kernel
theorem at_39_35 : j_at 39 35 = some (.iload 4, 0, 0, 0) := by decide +kernel
theorem at_39_37 : j_at 39 37 = some (.iconst 5, 0, 0, 5) := by decide +kernel
theorem at_39_38 : j_at 39 38 = some (.imul, 0, 0, 0) := by decide +kernel
theorem at_39_39 : j_at 39 39 = some (.iload 5, 0, 0, 0) := by decide +kernel
theorem at_39_41 : j_at 39 41 = some (.iadd, 0, 0, 0) := by decide +kernel
theorem at_39_42 : j_at 39 42 = some (.lconst 0, 0, 0, 0) := by decide +kernel
theorem at_39_43 : j_at 39 43 = some (.lastore, 0, 0, 0) := by decide +kernel
theorem at_39_44 : j_at 39 44 = some (.iinc 5 1, 0, 0, 0) := by decide +kernel
theorem at_39_47 : j_at 39 47 = some (.goto (-22), 25, 0, 0) := by decide +kernel
theorem at_39_50 : j_at 39 50 = some (.aload_n 0, 0, 0, 0) := by decide +kernel
theorem at_39_51 : j_at 39 51 = some (.dup, 0, 0, 0) := by decide +kernel
theorem at_39_52 : j_at 39 52 = some (.getfield 45, 7, 0, 0) := by decide +kernel
theorem at_39_55 : j_at 39 55 = some (.iconst 1, 0, 0, 1) := by decide +kernel
theorem at_39_56 : j_at 39 56 = some (.iadd, 0, 0, 0) := by decide +kernel
theorem at_39_57 : j_at 39 57 = some (.putfield 45, 7, 0, 0) := by decide +kernel
theorem at_39_60 : j_at 39 60 = some (.iload 4, 0, 0, 0) := by decide +kernel
theorem at_39_62 : j_at 39 62 = some (.ireturn, 0, 0, 0) := by decide +kernel
theorem at_42_0 : j_at 42 0 = some (.aload_n 0, 0, 0, 0) := by decide +kernel
theorem at_42_1 : j_at 42 1 = some (.iload_n 1, 0, 0, 0) := by decide +kernel
theorem at_42_2 : j_at 42 2 = some (.aload_n 0, 0, 0, 0) := by decide +kernel
theorem at_42_3 : j_at 42 3 = some (.aload_n 0, 0, 0, 0) := by decide +kernel
theorem at_42_4 : j_at 42 4 = some (.getfield 30, 7, 8, 0) := by decide +kernel
theorem at_42_7 : j_at 42 7 = some (.iload_n 2, 0, 0, 0) := by decide +kernel
theorem at_42_8 : j_at 42 8 = some (.laload, 0, 0, 0) := by decide +kernel
theorem at_42_9 : j_at 42 9 = some (.invokevirtual 75, 43, 1, 0) := by decide +kernel
theorem at_42_12 : j_at 42 12 = some (.lneg, 0, 0, 0) := by decide +kernel
theorem at_42_13 : j_at 42 13 = some (.invokevirtual 69, 39, 2, 0) := by decide +kernel
theorem at_42_16 : j_at 42 16 = some (.istore_n 3, 0, 0, 0) := by decide +kernel
theorem at_42_17 : j_at 42 17 = some (.iconst 0, 0, 0, 0) := by decide +kernel
theorem at_42_18 : j_at 42 18 = some (.istore 4, 0, 0, 0) := by decide +kernel
theorem at_42_20 : j_at 42 20 = some (.iload 4, 0, 0, 0) := by decide +kernel
theorem at_42_22 : j_at 42 22 = some (.aload_n 0, 0, 0, 0) := by decide +kernel
theorem at_42_23 : j_at 42 23 = some (.getfield 9, 7, 1, 0) := by decide +kernel
theorem at_42_26 : j_at 42 26 = some (.if_icmp .ge 36, 62, 0, 0) := by decide +kernel
theorem at_42_29 : j_at 42 29 = some (.aload_n 0, 0, 0, 0) := by decide +kernel
theorem at_42_30 : j_at 42 30 = some (.getfield 26, 7, 7, 0) := by decide +kernel
theorem at_42_33 : j_at 42 33 = some (.iload_n 3, 0, 0, 0) := by decide +kernel
theorem at_42_34 : j_at 42 34 = some (.iconst 5, 0, 0, 5) := by decide +kernel
theorem at_42_35 : j_at 42 35 = some (.imul, 0, 0, 0) := by decide +kernel
theorem at_42_36 : j_at 42 36 = some (.iload 4, 0, 0, 0) := by decide +kernel
theorem at_42_38 : j_at 42 38 = some (.iadd, 0, 0, 0) := by decide +kernel
theorem at_42_39 : j_at 42 39 = some (.aload_n 0, 0, 0, 0) := by decide +kernel
theorem at_42_40 : j_at 42 40 = some (.aload_n 0, 0, 0, 0) := by decide +kernel
theorem at_42_41 : j_at 42 41 = some (.getfield 26, 7, 7, 0) := by decide +kernel
theorem at_42_44 : j_at 42 44 = some (.iload_n 2, 0, 0, 0) := by decide +kernel
theorem at_42_45 : j_at 42 45 = some (.iconst 5, 0, 0, 5) := by decide +kernel
theorem at_42_46 : j_at 42 46 = some (.imul, 0, 0, 0) := by decide +kernel
theorem at_42_47 : j_at 42 47 = some (.iload 4, 0, 0, 0) := by decide +kernel
theorem at_42_49 : j_at 42 49 = some (.iadd, 0, 0, 0) := by decide +kernel
theorem at_42_50 : j_at 42 50 = some (.laload, 0, 0, 0) := by decide +kernel
theorem at_42_51 : j_at 42 51 = some (.invokevirtual 75, 43, 1, 0) := by decide +kernel
theorem at_42_54 : j_at 42 54 = some (.lneg, 0, 0, 0) := by decide +kernel
theorem at_42_55 : j_at 42 55 = some (.lastore, 0, 0, 0) := by decide +kernel
theorem at_42_56 : j_at 42 56 = some (.iinc 4 1, 0, 0, 0) := by decide +kernel
theorem at_42_59 : j_at 42 59 = some (.goto (-39), 20, 0, 0) := by decide +kernel
theorem at_42_62 : j_at 42 62 = some (.return_, 0, 0, 0) := by decide +kernel
theorem at_43_0 : j_at 43 0 = some (.aload_n 0, 0, 0, 0) := by decide +kernel
theorem at_43_1 : j_at 43 1 = some (.getfield 15, 7, 4, 0) := by decide +kernel
theorem at_43_4 : j_at 43 4 = some (.lconst 0, 0, 0, 0) := by decide +kernel
theorem at_43_5 : j_at 43 5 = some (.lcmp, 0, 0, 0) := by decide +kernel
theorem at_43_6 : j_at 43 6 = some (.ifCond .le 14, 20, 0, 0) := by decide +kernel
theorem at_43_9 : j_at 43 9 = some (.lload_n 1, 0, 0, 0) := by decide +kernel
theorem at_43_10 : j_at 43 10 = some (.aload_n 0, 0, 0, 0) := by decide +kernel
theorem at_43_11 : j_at 43 11 = some (.getfield 15, 7, 4, 0) := by decide +kernel
theorem at_43_14 : j_at 43 14 = some (.invokestatic 79, 266, 2, 0) := by decide +kernel
theorem at_43_17 : j_at 43 17 = some (.goto 4, 21, 0, 0) := by decide +kernel
theorem at_43_20 : j_at 43 20 = some (.lconst 0, 0, 0, 0) := by decide +kernel
theorem at_43_21 : j_at 43 21 = some (.lreturn, 0, 0, 0) := by decide +kernel
theorem at_44_0 : j_at 44 0 = some (.aload_n 0, 0, 0, 0) := by decide +kernel
theorem at_44_1 : j_at 44 1 = some (.getfield 15, 7, 4, 0) := by decide +kernel
theorem at_44_4 : j_at 44 4 = some (.lconst 0, 0, 0, 0) := by decide +kernel
theorem at_44_5 : j_at 44 5 = some (.lcmp, 0, 0, 0) := by decide +kernel
theorem at_44_6 : j_at 44 6 = some (.ifCond .le 14, 20, 0, 0) := by decide +kernel
theorem at_44_9 : j_at 44 9 = some (.lload_n 1, 0, 0, 0) := by decide +kernel
theorem at_44_10 : j_at 44 10 = some (.aload_n 0, 0, 0, 0) := by decide +kernel
theorem at_44_11 : j_at 44 11 = some (.getfield 15, 7, 4, 0) := by decide +kernel
theorem at_44_14 : j_at 44 14 = some (.invokestatic 85, 265, 2, 0) := by decide +kernel
theorem at_44_17 : j_at 44 17 = some (.goto 4, 21, 0, 0) := by decide +kernel
theorem at_44_20 : j_at 44 20 = some (.lconst 0, 0, 0, 0) := by decide +kernel
theorem at_44_21 : j_at 44 21 = some (.lreturn, 0, 0, 0) := by decide +kernel
theorem at_45_0 : j_at 45 0 = some (.iconst 0, 0, 0, 0) := by decide +kernel
theorem at_45_1 : j_at 45 1 = some (.istore_n 1, 0, 0, 0) := by decide +kernel
theorem at_45_2 : j_at 45 2 = some (.iload_n 1, 0, 0, 0) := by decide +kernel
theorem at_45_3 : j_at 45 3 = some (.bipush 60, 0, 0, 60) := by decide +kernel
theorem at_45_5 : j_at 45 5 = some (.if_icmp .gt 53, 58, 0, 0) := by decide +kernel
theorem at_45_8 : j_at 45 8 = some (.aload_n 0, 0, 0, 0) := by decide +kernel
theorem at_45_9 : j_at 45 9 = some (.invokevirtual 88, 46, 0, 0) := by decide +kernel
theorem at_45_12 : j_at 45 12 = some (.istore_n 2, 0, 0, 0) := by decide +kernel
theorem at_45_13 : j_at 45 13 = some (.iload_n 2, 0, 0, 0) := by decide +kernel
theorem at_45_14 : j_at 45 14 = some (.ifCond .ge 5, 19, 0, 0) := by decide +kernel
theorem at_45_17 : j_at 45 17 = some (.iconst 3, 0, 0, 3) := by decide +kernel
theorem at_45_18 : j_at 45 18 = some (.ireturn, 0, 0, 0) := by decide +kernel
theorem at_45_19 : j_at 45 19 = some (.aload_n 0, 0, 0, 0) := by decide +kernel
theorem at_45_20 : j_at 45 20 = some (.iload_n 2, 0, 0, 0) := by decide +kernel
theorem at_45_21 : j_at 45 21 = some (.invokevirtual 92, 47, 1, 0) := by decide +kernel
theorem at_45_24 : j_at 45 24 = some (.istore_n 3, 0, 0, 0) := by decide +kernel
theorem at_45_25 : j_at 45 25 = some (.iload_n 3, 0, 0, 0) := by decide +kernel
theorem at_45_26 : j_at 45 26 = some (.ifCond .ge 5, 31, 0, 0) := by decide +kernel
theorem at_45_29 : j_at 45 29 = some (.iconst 0, 0, 0, 0) := by decide +kernel
theorem at_45_30 : j_at 45 30 = some (.ireturn, 0, 0, 0) := by decide +kernel
theorem at_45_31 : j_at 45 31 = some (.aload_n 0, 0, 0, 0) := by decide +kernel
theorem at_45_32 : j_at 45 32 = some (.getfield 53, 7, 2, 0) := by decide +kernel
theorem at_45_35 : j_at 45 35 = some (.bipush 60, 0, 0, 60) := by decide +kernel
theorem at_45_37 : j_at 45 37 = some (.if_icmp .ge 12, 49, 0, 0) := by decide +kernel
theorem at_45_40 : j_at 45 40 = some (.aload_n 0, 0, 0, 0) := by decide +kernel
theorem at_45_41 : j_at 45 41 = some (.iload_n 2, 0, 0, 0) := by decide +kernel
theorem at_45_42 : j_at 45 42 = some (.iload_n 3, 0, 0, 0) := by decide +kernel
theorem at_45_43 : j_at 45 43 = some (.invokevirtual 96, 49, 2, 0) := by decide +kernel
theorem at_45_46 : j_at 45 46 = some (.ifCond .ne 6, 52, 0, 0) := by decide +kernel
theorem at_45_49 : j_at 45 49 = some (.bipush (-6), 0, 0, -6) := by decide +kernel
theorem at_45_51 : j_at 45 51 = some (.ireturn, 0, 0, 0) := by decide +kernel
theorem at_45_52 : j_at 45 52 = some (.iinc 1 1, 0, 0, 0) := by decide +kernel
theorem at_45_55 : j_at 45 55 = some (.goto (-53), 2, 0, 0) := by decide +kernel
theorem at_45_58 : j_at 45 58 = some (.bipush (-6), 0, 0, -6) := by decide +kernel
theorem at_45_60 : j_at 45 60 = some (.ireturn, 0, 0, 0) := by decide +kernel
theorem at_46_0 : j_at 46 0 = some (.iconst (-1), 0, 0, -1) := by decide +kernel
theorem at_46_1 : j_at 46 1 = some (.istore_n 1, 0, 0, 0) := by decide +kernel
theorem at_46_2 : j_at 46 2 = some (.iconst 0, 0, 0, 0) := by decide +kernel
theorem at_46_3 : j_at 46 3 = some (.istore_n 2, 0, 0, 0) := by decide +kernel
theorem at_46_4 : j_at 46 4 = some (.iload_n 2, 0, 0, 0) := by decide +kernel
theorem at_46_5 : j_at 46 5 = some (.aload_n 0, 0, 0, 0) := by decide +kernel
theorem at_46_6 : j_at 46 6 = some (.getfield 45, 7, 0, 0) := by decide +kernel
theorem at_46_9 : j_at 46 9 = some (.if_icmp .ge 42, 51, 0, 0) := by decide +kernel
theorem at_46_12 : j_at 46 12 = some (.aload_n 0, 0, 0, 0) := by decide +kernel
theorem at_46_13 : j_at 46 13 = some (.getfield 30, 7, 8, 0) := by decide +kernel
theorem at_46_16 : j_at 46 16 = some (.iload_n 2, 0, 0, 0) := by decide +kernel
theorem at_46_17 : j_at 46 17 = some (.laload, 0, 0, 0) := by decide +kernel
theorem at_46_18 : j_at 46 18 = some (.lconst 0, 0, 0, 0) := by decide +kernel
theorem at_46_19 : j_at 46 19 = some (.lcmp, 0, 0, 0) := by decide +kernel
theorem at_46_20 : j_at 46 20 = some (.ifCond .ge 25, 45, 0, 0) := by decide +kernel
theorem at_46_23 : j_at 46 23 = some (.iload_n 1, 0, 0, 0) := by decide +kernel
theorem at_46_24 : j_at 46 24 = some (.ifCond .lt 19, 43, 0, 0) := by decide +kernel
theorem at_46_27 : j_at 46 27 = some (.aload_n 0, 0, 0, 0) := by decide +kernel
theorem at_46_28 : j_at 46 28 = some (.getfield 30, 7, 8, 0) := by decide +kernel
theorem at_46_31 : j_at 46 31 = some (.iload_n 2, 0, 0, 0) := by decide +kernel
theorem at_46_32 : j_at 46 32 = some (.laload, 0, 0, 0) := by decide +kernel
theorem at_46_33 : j_at 46 33 = some (.aload_n 0, 0, 0, 0) := by decide +kernel
theorem at_46_34 : j_at 46 34 = some (.getfield 30, 7, 8, 0) := by decide +kernel
theorem at_46_37 : j_at 46 37 = some (.iload_n 1, 0, 0, 0) := by decide +kernel
theorem at_46_38 : j_at 46 38 = some (.laload, 0, 0, 0) := by decide +kernel
theorem at_46_39 : j_at 46 39 = some (.lcmp, 0, 0, 0) := by decide +kernel
theorem at_46_40 : j_at 46 40 = some (.ifCond .ge 5, 45, 0, 0) := by decide +kernel
theorem at_46_43 : j_at 46 43 = some (.iload_n 2, 0, 0, 0) := by decide +kernel
theorem at_46_44 : j_at 46 44 = some (.istore_n 1, 0, 0, 0) := by decide +kernel
theorem at_46_45 : j_at 46 45 = some (.iinc 2 1, 0, 0, 0) := by decide +kernel
theorem at_46_48 : j_at 46 48 = some (.goto (-44), 4, 0, 0) := by decide +kernel
theorem at_46_51 : j_at 46 51 = some (.iload_n 1, 0, 0, 0) := by decide +kernel
theorem at_46_52 : j_at 46 52 = some (.ireturn, 0, 0, 0) := by decide +kernel
theorem at_47_0 : j_at 47 0 = some (.iconst (-1), 0, 0, -1) := by decide +kernel
theorem at_47_1 : j_at 47 1 = some (.istore_n 2, 0, 0, 0) := by decide +kernel
theorem at_47_2 : j_at 47 2 = some (.iconst 0, 0, 0, 0) := by decide +kernel
theorem at_47_3 : j_at 47 3 = some (.istore_n 3, 0, 0, 0) := by decide +kernel
theorem at_47_4 : j_at 47 4 = some (.iload_n 3, 0, 0, 0) := by decide +kernel
theorem at_47_5 : j_at 47 5 = some (.aload_n 0, 0, 0, 0) := by decide +kernel
theorem at_47_6 : j_at 47 6 = some (.getfield 9, 7, 1, 0) := by decide +kernel
theorem at_47_9 : j_at 47 9 = some (.if_icmp .ge 43, 52, 0, 0) := by decide +kernel
theorem at_47_12 : j_at 47 12 = some (.aload_n 0, 0, 0, 0) := by decide +kernel
theorem at_47_13 : j_at 47 13 = some (.getfield 26, 7, 7, 0) := by decide +kernel
theorem at_47_16 : j_at 47 16 = some (.iload_n 1, 0, 0, 0) := by decide +kernel
theorem at_47_17 : j_at 47 17 = some (.iconst 5, 0, 0, 5) := by decide +kernel
theorem at_47_18 : j_at 47 18 = some (.imul, 0, 0, 0) := by decide +kernel
theorem at_47_19 : j_at 47 19 = some (.iload_n 3, 0, 0, 0) := by decide +kernel
theorem at_47_20 : j_at 47 20 = some (.iadd, 0, 0, 0) := by decide +kernel
theorem at_47_21 : j_at 47 21 = some (.laload, 0, 0, 0) := by decide +kernel
theorem at_47_22 : j_at 47 22 = some (.lconst 0, 0, 0, 0) := by decide +kernel
theorem at_47_23 : j_at 47 23 = some (.lcmp, 0, 0, 0) := by decide +kernel
theorem at_47_24 : j_at 47 24 = some (.ifCond .lt 6, 30, 0, 0) := by decide +kernel
theorem at_47_27 : j_at 47 27 = some (.goto 19, 46, 0, 0) := by decide +kernel
theorem at_47_30 : j_at 47 30 = some (.iload_n 2, 0, 0, 0) := by decide +kernel
theorem at_47_31 : j_at 47 31 = some (.ifCond .lt 13, 44, 0, 0) := by decide +kernel
theorem at_47_34 : j_at 47 34 = some (.aload_n 0, 0, 0, 0) := by decide +kernel
theorem at_47_35 : j_at 47 35 = some (.iload_n 1, 0, 0, 0) := by decide +kernel
theorem at_47_36 : j_at 47 36 = some (.iload_n 3, 0, 0, 0) := by decide +kernel
theorem at_47_37 : j_at 47 37 = some (.iload_n 2, 0, 0, 0) := by decide +kernel
theorem at_47_38 : j_at 47 38 = some (.invokevirtual 100, 48, 3, 0) := by decide +kernel
theorem at_47_41 : j_at 47 41 = some (.ifCond .eq 5, 46, 0, 0) := by decide +kernel
theorem at_47_44 : j_at 47 44 = some (.iload_n 3, 0, 0, 0) := by decide +kernel
theorem at_47_45 : j_at 47 45 = some (.istore_n 2, 0, 0, 0) := by decide +kernel
theorem at_47_46 : j_at 47 46 = some (.iinc 3 1, 0, 0, 0) := by decide +kernel
theorem at_47_49 : j_at 47 49 = some (.goto (-45), 4, 0, 0) := by decide +kernel
theorem at_47_52 : j_at 47 52 = some (.iload_n 2, 0, 0, 0) := by decide +kernel
theorem at_47_53 : j_at 47 53 = some (.ireturn, 0, 0, 0) := by decide +kernel
theorem at_48_0 : j_at 48 0 = some (.aload_n 0, 0, 0, 0) := by decide +kernel
theorem at_48_1 : j_at 48 1 = some (.getfield 33, 7, 9, 0) := by decide +kernel
theorem at_48_4 : j_at 48 4 = some (.iload_n 2, 0, 0, 0) := by decide +kernel
theorem at_48_5 : j_at 48 5 = some (.laload, 0, 0, 0) := by decide +kernel
theorem at_48_6 : j_at 48 6 = some (.aload_n 0, 0, 0, 0) := by decide +kernel
theorem at_48_7 : j_at 48 7 = some (.getfield 26, 7, 7, 0) := by decide +kernel
theorem at_48_10 : j_at 48 10 = some (.iload_n 1, 0, 0, 0) := by decide +kernel
theorem at_48_11 : j_at 48 11 = some (.iconst 5, 0, 0, 5) := by decide +kernel
theorem at_48_12 : j_at 48 12 = some (.imul, 0, 0, 0) := by decide +kernel
theorem at_48_13 : j_at 48 13 = some (.iload_n 3, 0, 0, 0) := by decide +kernel
theorem at_48_14 : j_at 48 14 = some (.iadd, 0, 0, 0) := by decide +kernel
theorem at_48_15 : j_at 48 15 = some (.laload, 0, 0, 0) := by decide +kernel
theorem at_48_16 : j_at 48 16 = some (.lneg, 0, 0, 0) := by decide +kernel
theorem at_48_17 : j_at 48 17 = some (.lmul, 0, 0, 0) := by decide +kernel
theorem at_48_18 : j_at 48 18 = some (.lstore 4, 0, 0, 0) := by decide +kernel
theorem at_48_20 : j_at 48 20 = some (.aload_n 0, 0, 0, 0) := by decide +kernel
theorem at_48_21 : j_at 48 21 = some (.getfield 33, 7, 9, 0) := by decide +kernel
theorem at_48_24 : j_at 48 24 = some (.iload_n 3, 0, 0, 0) := by decide +kernel
theorem at_48_25 : j_at 48 25 = some (.laload, 0, 0, 0) := by decide +kernel
theorem at_48_26 : j_at 48 26 = some (.aload_n 0, 0, 0, 0) := by decide +kernel
theorem at_48_27 : j_at 48 27 = some (.getfield 26, 7, 7, 0) := by decide +kernel
theorem at_48_30 : j_at 48 30 = some (.iload_n 1, 0, 0, 0) := by decide +kernel
theorem at_48_31 : j_at 48 31 = some (.iconst 5, 0, 0, 5) := by decide +kernel
theorem at_48_32 : j_at 48 32 = some (.imul, 0, 0, 0) := by decide +kernel
theorem at_48_33 : j_at 48 33 = some (.iload_n 2, 0, 0, 0) := by decide +kernel
theorem at_48_34 : j_at 48 34 = some (.iadd, 0, 0, 0) := by decide +kernel
theorem at_48_35 : j_at 48 35 = some (.laload, 0, 0, 0) := by decide +kernel
theorem at_48_36 : j_at 48 36 = some (.lneg, 0, 0, 0) := by decide +kernel
theorem at_48_37 : j_at 48 37 = some (.lmul, 0, 0, 0) := by decide +kernel
theorem at_48_38 : j_at 48 38 = some (.lstore 6, 0, 0, 0) := by decide +kernel
theorem at_48_40 : j_at 48 40 = some (.lload 4, 0, 0, 0) := by decide +kernel
theorem at_48_42 : j_at 48 42 = some (.lload 6, 0, 0, 0) := by decide +kernel
theorem at_48_44 : j_at 48 44 = some (.lcmp, 0, 0, 0) := by decide +kernel
theorem at_48_45 : j_at 48 45 = some (.ifCond .lt 26, 71, 0, 0) := by decide +kernel
theorem at_48_48 : j_at 48 48 = some (.lload 4, 0, 0, 0) := by decide +kernel
theorem at_48_50 : j_at 48 50 = some (.lload 6, 0, 0, 0) := by decide +kernel
theorem at_48_52 : j_at 48 52 = some (.lcmp, 0, 0, 0) := by decide +kernel
theorem at_48_53 : j_at 48 53 = some (.ifCond .ne 22, 75, 0, 0) := by decide +kernel
theorem at_48_56 : j_at 48 56 = some (.aload_n 0, 0, 0, 0) := by decide +kernel
theorem at_48_57 : j_at 48 57 = some (.getfield 23, 7, 6, 0) := by decide +kernel
theorem at_48_60 : j_at 48 60 = some (.iload_n 2, 0, 0, 0) := by decide +kernel
theorem at_48_61 : j_at 48 61 = some (.iaload, 0, 0, 0) := by decide +kernel
theorem at_48_62 : j_at 48 62 = some (.aload_n 0, 0, 0, 0) := by decide +kernel
theorem at_48_63 : j_at 48 63 = some (.getfield 23, 7, 6, 0) := by decide +kernel
theorem at_48_66 : j_at 48 66 = some (.iload_n 3, 0, 0, 0) := by decide +kernel
theorem at_48_67 : j_at 48 67 = some (.iaload, 0, 0, 0) := by decide +kernel
theorem at_48_68 : j_at 48 68 = some (.if_icmp .ge 7, 75, 0, 0) := by decide +kernel
theorem at_48_71 : j_at 48 71 = some (.iconst 1, 0, 0, 1) := by decide +kernel
theorem at_48_72 : j_at 48 72 = some (.goto 4, 76, 0, 0) := by decide +kernel
theorem at_48_75 : j_at 48 75 = some (.iconst 0, 0, 0, 0) := by decide +kernel
theorem at_48_76 : j_at 48 76 = some (.ireturn, 0, 0, 0) := by decide +kernel
theorem at_49_0 : j_at 49 0 = some (.iconst 0, 0, 0, 0) := by decide +kernel
theorem at_49_1 : j_at 49 1 = some (.istore_n 3, 0, 0, 0) := by decide +kernel
theorem at_49_2 : j_at 49 2 = some (.iload_n 3, 0, 0, 0) := by decide +kernel
theorem at_49_3 : j_at 49 3 = some (.aload_n 0, 0, 0, 0) := by decide +kernel
theorem at_49_4 : j_at 49 4 = some (.getfield 45, 7, 0, 0) := by decide +kernel
theorem at_49_7 : j_at 49 7 = some (.if_icmp .ge 21, 28, 0, 0) := by decide +kernel
theorem at_49_10 : j_at 49 10 = some (.aload_n 0, 0, 0, 0) := by decide +kernel
theorem at_49_11 : j_at 49 11 = some (.iload_n 3, 0, 0, 0) := by decide +kernel
theorem at_49_12 : j_at 49 12 = some (.iload_n 1, 0, 0, 0) := by decide +kernel
theorem at_49_13 : j_at 49 13 = some (.iload_n 2, 0, 0, 0) := by decide +kernel
theorem at_49_14 : j_at 49 14 = some (.invokevirtual 104, 50, 3, 0) := by decide +kernel
theorem at_49_17 : j_at 49 17 = some (.ifCond .ne 5, 22, 0, 0) := by decide +kernel
theorem at_49_20 : j_at 49 20 = some (.iconst 0, 0, 0, 0) := by decide +kernel
theorem at_49_21 : j_at 49 21 = some (.ireturn, 0, 0, 0) := by decide +kernel
theorem at_49_22 : j_at 49 22 = some (.iinc 3 1, 0, 0, 0) := by decide +kernel
theorem at_49_25 : j_at 49 25 = some (.goto (-23), 2, 0, 0) := by decide +kernel
theorem at_49_28 : j_at 49 28 = some (.iconst 0, 0, 0, 0) := by decide +kernel
theorem at_49_29 : j_at 49 29 = some (.istore_n 3, 0, 0, 0) := by decide +kernel
theorem at_49_30 : j_at 49 30 = some (.iload_n 3, 0, 0, 0) := by decide +kernel
theorem at_49_31 : j_at 49 31 = some (.aload_n 0, 0, 0, 0) := by decide +kernel
theorem at_49_32 : j_at 49 32 = some (.getfield 9, 7, 1, 0) := by decide +kernel
theorem at_49_35 : j_at 49 35 = some (.if_icmp .ge 71, 106, 0, 0) := by decide +kernel
theorem at_49_38 : j_at 49 38 = some (.aload_n 0, 0, 0, 0) := by decide +kernel
theorem at_49_39 : j_at 49 39 = some (.getfield 42, 7, 12, 0) := by decide +kernel
theorem at_49_42 : j_at 49 42 = some (.iload_n 3, 0, 0, 0) := by decide +kernel
theorem at_49_43 : j_at 49 43 = some (.iload_n 3, 0, 0, 0) := by decide +kernel
theorem at_49_44 : j_at 49 44 = some (.iload_n 2, 0, 0, 0) := by decide +kernel
theorem at_49_45 : j_at 49 45 = some (.if_icmp .ne 12, 57, 0, 0) := by decide +kernel
theorem at_49_48 : j_at 49 48 = some (.aload_n 0, 0, 0, 0) := by decide +kernel
theorem at_49_49 : j_at 49 49 = some (.getfield 33, 7, 9, 0) := by decide +kernel
theorem at_49_52 : j_at 49 52 = some (.iload_n 2, 0, 0, 0) := by decide +kernel
theorem at_49_53 : j_at 49 53 = some (.laload, 0, 0, 0) := by decide +kernel
theorem at_49_54 : j_at 49 54 = some (.goto 31, 85, 0, 0) := by decide +kernel
theorem at_49_57 : j_at 49 57 = some (.aload_n 0, 0, 0, 0) := by decide +kernel
theorem at_49_58 : j_at 49 58 = some (.aload_n 0, 0, 0, 0) := by decide +kernel
theorem at_49_59 : j_at 49 59 = some (.getfield 33, 7, 9, 0) := by decide +kernel
theorem at_49_62 : j_at 49 62 = some (.iload_n 3, 0, 0, 0) := by decide +kernel
theorem at_49_63 : j_at 49 63 = some (.laload, 0, 0, 0) := by decide +kernel
theorem at_49_64 : j_at 49 64 = some (.aload_n 0, 0, 0, 0) := by decide +kernel
theorem at_49_65 : j_at 49 65 = some (.getfield 33, 7, 9, 0) := by decide +kernel
theorem at_49_68 : j_at 49 68 = some (.iload_n 2, 0, 0, 0) := by decide +kernel
theorem at_49_69 : j_at 49 69 = some (.laload, 0, 0, 0) := by decide +kernel
theorem at_49_70 : j_at 49 70 = some (.aload_n 0, 0, 0, 0) := by decide +kernel
theorem at_49_71 : j_at 49 71 = some (.getfield 26, 7, 7, 0) := by decide +kernel
theorem at_49_74 : j_at 49 74 = some (.iload_n 1, 0, 0, 0) := by decide +kernel
theorem at_49_75 : j_at 49 75 = some (.iconst 5, 0, 0, 5) := by decide +kernel
theorem at_49_76 : j_at 49 76 = some (.imul, 0, 0, 0) := by decide +kernel
theorem at_49_77 : j_at 49 77 = some (.iload_n 3, 0, 0, 0) := by decide +kernel
theorem at_49_78 : j_at 49 78 = some (.iadd, 0, 0, 0) := by decide +kernel
theorem at_49_79 : j_at 49 79 = some (.laload, 0, 0, 0) := by decide +kernel
theorem at_49_80 : j_at 49 80 = some (.iload_n 1, 0, 0, 0) := by decide +kernel
theorem at_49_81 : j_at 49 81 = some (.iload_n 2, 0, 0, 0) := by decide +kernel
theorem at_49_82 : j_at 49 82 = some (.invokevirtual 107, 51, 5, 0) := by decide +kernel
theorem at_49_85 : j_at 49 85 = some (.lastore, 0, 0, 0) := by decide +kernel
theorem at_49_86 : j_at 49 86 = some (.aload_n 0, 0, 0, 0) := by decide +kernel
theorem at_49_87 : j_at 49 87 = some (.getfield 42, 7, 12, 0) := by decide +kernel
theorem at_49_90 : j_at 49 90 = some (.iload_n 3, 0, 0, 0) := by decide +kernel
theorem at_49_91 : j_at 49 91 = some (.laload, 0, 0, 0) := by decide +kernel
theorem at_49_92 : j_at 49 92 = some (.invokestatic 111, 144, 1, 0) := by decide +kernel
theorem at_49_95 : j_at 49 95 = some (.ifCond .ne 5, 100, 0, 0) := by decide +kernel
theorem at_49_98 : j_at 49 98 = some (.iconst 0, 0, 0, 0) := by decide +kernel
theorem at_49_99 : j_at 49 99 = some (.ireturn, 0, 0, 0) := by decide +kernel
theorem at_49_100 : j_at 49 100 = some (.iinc 3 1, 0, 0, 0) := by decide +kernel
theorem at_49_103 : j_at 49 103 = some (.goto (-73), 30, 0, 0) := by decide +kernel
theorem at_49_106 : j_at 49 106 = some (.aload_n 0, 0, 0, 0) := by decide +kernel
theorem at_49_107 : j_at 49 107 = some (.aload_n 0, 0, 0, 0) := by decide +kernel
theorem at_49_108 : j_at 49 108 = some (.getfield 56, 7, 3, 0) := by decide +kernel
theorem at_49_111 : j_at 49 111 = some (.aload_n 0, 0, 0, 0) := by decide +kernel
theorem at_49_112 : j_at 49 112 = some (.getfield 33, 7, 9, 0) := by decide +kernel
theorem at_49_115 : j_at 49 115 = some (.iload_n 2, 0, 0, 0) := by decide +kernel
theorem at_49_116 : j_at 49 116 = some (.laload, 0, 0, 0) := by decide +kernel
theorem at_49_117 : j_at 49 117 = some (.lneg, 0, 0, 0) := by decide +kernel
theorem at_49_118 : j_at 49 118 = some (.aload_n 0, 0, 0, 0) := by decide +kernel
theorem at_49_119 : j_at 49 119 = some (.getfield 30, 7, 8, 0) := by decide +kernel
theorem at_49_122 : j_at 49 122 = some (.iload_n 1, 0, 0, 0) := by decide +kernel
theorem at_49_123 : j_at 49 123 = some (.laload, 0, 0, 0) := by decide +kernel
theorem at_49_124 : j_at 49 124 = some (.iload_n 1, 0, 0, 0) := by decide +kernel
theorem at_49_125 : j_at 49 125 = some (.iload_n 2, 0, 0, 0) := by decide +kernel
theorem at_49_126 : j_at 49 126 = some (.invokevirtual 107, 51, 5, 0) := by decide +kernel
theorem at_49_129 : j_at 49 129 = some (.lstore_n 3, 0, 0, 0) := by decide +kernel
theorem at_49_130 : j_at 49 130 = some (.lload_n 3, 0, 0, 0) := by decide +kernel
theorem at_49_131 : j_at 49 131 = some (.invokestatic 111, 144, 1, 0) := by decide +kernel
theorem at_49_134 : j_at 49 134 = some (.ifCond .ne 5, 139, 0, 0) := by decide +kernel
theorem at_49_137 : j_at 49 137 = some (.iconst 0, 0, 0, 0) := by decide +kernel
theorem at_49_138 : j_at 49 138 = some (.ireturn, 0, 0, 0) := by decide +kernel
theorem at_49_139 : j_at 49 139 = some (.aload_n 0, 0, 0, 0) := by decide +kernel
theorem at_49_140 : j_at 49 140 = some (.lload_n 3, 0, 0, 0) := by decide +kernel
theorem at_49_141 : j_at 49 141 = some (.putfield 56, 7, 3, 0) := by decide +kernel
theorem at_49_144 : j_at 49 144 = some (.aload_n 0, 0, 0, 0) := by decide +kernel
theorem at_49_145 : j_at 49 145 = some (.aload_n 0, 0, 0, 0) := by decide +kernel
theorem at_49_146 : j_at 49 146 = some (.getfield 26, 7, 7, 0) := by decide +kernel
theorem at_49_149 : j_at 49 149 = some (.iload_n 1, 0, 0, 0) := by decide +kernel
theorem at_49_150 : j_at 49 150 = some (.iconst 5, 0, 0, 5) := by decide +kernel
theorem at_49_151 : j_at 49 151 = some (.imul, 0, 0, 0) := by decide +kernel
theorem at_49_152 : j_at 49 152 = some (.iload_n 2, 0, 0, 0) := by decide +kernel
theorem at_49_153 : j_at 49 153 = some (.iadd, 0, 0, 0) := by decide +kernel
theorem at_49_154 : j_at 49 154 = some (.laload, 0, 0, 0) := by decide +kernel
theorem at_49_155 : j_at 49 155 = some (.lneg, 0, 0, 0) := by decide +kernel
theorem at_49_156 : j_at 49 156 = some (.putfield 15, 7, 4, 0) := by decide +kernel
theorem at_49_159 : j_at 49 159 = some (.aload_n 0, 0, 0, 0) := by decide +kernel
theorem at_49_160 : j_at 49 160 = some (.getfield 36, 7, 10, 0) := by decide +kernel
theorem at_49_163 : j_at 49 163 = some (.iconst 0, 0, 0, 0) := by decide +kernel
theorem at_49_164 : j_at 49 164 = some (.aload_n 0, 0, 0, 0) := by decide +kernel
theorem at_49_165 : j_at 49 165 = some (.getfield 26, 7, 7, 0) := by decide +kernel
theorem at_49_168 : j_at 49 168 = some (.iconst 0, 0, 0, 0) := by decide +kernel
theorem at_49_169 : j_at 49 169 = some (.aload_n 0, 0, 0, 0) := by decide +kernel
theorem at_49_170 : j_at 49 170 = some (.getfield 45, 7, 0, 0) := by decide +kernel
theorem at_49_173 : j_at 49 173 = some (.iconst 5, 0, 0, 5) := by decide +kernel
theorem at_49_174 : j_at 49 174 = some (.imul, 0, 0, 0) := by decide +kernel
theorem at_49_175 : j_at 49 175 = some (.invokestatic 115, 9999, 5, 0) := by decide +kernel
theorem at_49_178 : j_at 49 178 = some (.aload_n 0, 0, 0, 0) := by decide +kernel
theorem at_49_179 : j_at 49 179 = some (.getfield 39, 7, 11, 0) := by decide +kernel
theorem at_49_182 : j_at 49 182 = some (.iconst 0, 0, 0, 0) := by decide +kernel
theorem at_49_183 : j_at 49 183 = some (.aload_n 0, 0, 0, 0) := by decide +kernel
theorem at_49_184 : j_at 49 184 = some (.getfield 30, 7, 8, 0) := by decide +kernel
theorem at_49_187 : j_at 49 187 = some (.iconst 0, 0, 0, 0) := by decide +kernel
theorem at_49_188 : j_at 49 188 = some (.aload_n 0, 0, 0, 0) := by decide +kernel
theorem at_49_189 : j_at 49 189 = some (.getfield 45, 7, 0, 0) := by decide +kernel
theorem at_49_192 : j_at 49 192 = some (.invokestatic 115, 9999, 5, 0) := by decide +kernel
theorem at_49_195 : j_at 49 195 = some (.aload_n 0, 0, 0, 0) := by decide +kernel
theorem at_49_196 : j_at 49 196 = some (.getfield 42, 7, 12, 0) := by decide +kernel
theorem at_49_199 : j_at 49 199 = some (.iconst 0, 0, 0, 0) := by decide +kernel
theorem at_49_200 : j_at 49 200 = some (.aload_n 0, 0, 0, 0) := by decide +kernel
theorem at_49_201 : j_at 49 201 = some (.getfield 33, 7, 9, 0) := by decide +kernel
theorem at_49_204 : j_at 49 204 = some (.iconst 0, 0, 0, 0) := by decide +kernel
theorem at_49_205 : j_at 49 205 = some (.aload_n 0, 0, 0, 0) := by decide +kernel
theorem at_49_206 : j_at 49 206 = some (.getfield 9, 7, 1, 0) := by decide +kernel
theorem at_49_209 : j_at 49 209 = some (.invokestatic 115, 9999, 5, 0) := by decide +kernel
theorem at_49_212 : j_at 49 212 = some (.aload_n 0, 0, 0, 0) := by decide +kernel
theorem at_49_213 : j_at 49 213 = some (.getfield 19, 7, 5, 0) := by decide +kernel
theorem at_49_216 : j_at 49 216 = some (.iload_n 1, 0, 0, 0) := by decide +kernel
theorem at_49_217 : j_at 49 217 = some (.iaload, 0, 0, 0) := by decide +kernel
theorem at_49_218 : j_at 49 218 = some (.istore 5, 0, 0, 0) := by decide +kernel
theorem at_49_220 : j_at 49 220 = some (.aload_n 0, 0, 0, 0) := by decide +kernel
theorem at_49_221 : j_at 49 221 = some (.getfield 19, 7, 5, 0) := by decide +kernel
theorem at_49_224 : j_at 49 224 = some (.iload_n 1, 0, 0, 0) := by decide +kernel
theorem at_49_225 : j_at 49 225 = some (.aload_n 0, 0, 0, 0) := by decide +kernel
theorem at_49_226 : j_at 49 226 = some (.getfield 23, 7, 6, 0) := by decide +kernel
theorem at_49_229 : j_at 49 229 = some (.iload_n 2, 0, 0, 0) := by decide +kernel
theorem at_49_230 : j_at 49 230 = some (.iaload, 0, 0, 0) := by decide +kernel
theorem at_49_231 : j_at 49 231 = some (.iastore, 0, 0, 0) := by decide +kernel
theorem at_49_232 : j_at 49 232 = some (.aload_n 0, 0, 0, 0) := by decide +kernel
theorem at_49_233 : j_at 49 233 = some (.getfield 23, 7, 6, 0) := by decide +kernel
theorem at_49_236 : j_at 49 236 = some (.iload_n 2, 0, 0, 0) := by decide +kernel
theorem at_49_237 : j_at 49 237 = some (.iload 5, 0, 0, 0) := by decide +kernel
theorem at_49_239 : j_at 49 239 = some (.iastore, 0, 0, 0) := by decide +kernel
theorem at_49_240 : j_at 49 240 = some (.aload_n 0, 0, 0, 0) := by decide +kernel
theorem at_49_241 : j_at 49 241 = some (.dup, 0, 0, 0) := by decide +kernel
theorem at_49_242 : j_at 49 242 = some (.getfield 53, 7, 2, 0) := by decide +kernel
theorem at_49_245 : j_at 49 245 = some (.iconst 1, 0, 0, 1) := by decide +kernel
theorem at_49_246 : j_at 49 246 = some (.iadd, 0, 0, 0) := by decide +kernel
theorem at_49_247 : j_at 49 247 = some (.putfield 53, 7, 2, 0) := by decide +kernel
theorem at_49_250 : j_at 49 250 = some (.iconst 1, 0, 0, 1) := by decide +kernel
theorem at_49_251 : j_at 49 251 = some (.ireturn, 0, 0, 0) := by decide +kernel
theorem at_50_0 : j_at 50 0 = some (.aload_n 0, 0, 0, 0) := by decide +kernel
theorem at_50_1 : j_at 50 1 = some (.getfield 26, 7, 7, 0) := by decide +kernel
theorem at_50_4 : j_at 50 4 = some (.iload_n 1, 0, 0, 0) := by decide +kernel
theorem at_50_5 : j_at 50 5 = some (.iconst 5, 0, 0, 5) := by decide +kernel
theorem at_50_6 : j_at 50 6 = some (.imul, 0, 0, 0) := by decide +kernel
theorem at_50_7 : j_at 50 7 = some (.iload_n 3, 0, 0, 0) := by decide +kernel
theorem at_50_8 : j_at 50 8 = some (.iadd, 0, 0, 0) := by decide +kernel
theorem at_50_9 : j_at 50 9 = some (.laload, 0, 0, 0) := by decide +kernel
theorem at_50_10 : j_at 50 10 = some (.lstore 4, 0, 0, 0) := by decide +kernel
theorem at_50_12 : j_at 50 12 = some (.iconst 0, 0, 0, 0) := by decide +kernel
theorem at_50_13 : j_at 50 13 = some (.istore 6, 0, 0, 0) := by decide +kernel
theorem at_50_15 : j_at 50 15 = some (.iload 6, 0, 0, 0) := by decide +kernel
theorem at_50_17 : j_at 50 17 = some (.aload_n 0, 0, 0, 0) := by decide +kernel
theorem at_50_18 : j_at 50 18 = some (.getfield 9, 7, 1, 0) := by decide +kernel
theorem at_50_21 : j_at 50 21 = some (.if_icmp .ge 108, 129, 0, 0) := by decide +kernel
theorem at_50_24 : j_at 50 24 = some (.aload_n 0, 0, 0, 0) := by decide +kernel
theorem at_50_25 : j_at 50 25 = some (.getfield 26, 7, 7, 0) := by decide +kernel
theorem at_50_28 : j_at 50 28 = some (.iload_n 1, 0, 0, 0) := by decide +kernel
theorem at_50_29 : j_at 50 29 = some (.iconst 5, 0, 0, 5) := by decide +kernel
theorem at_50_30 : j_at 50 30 = some (.imul, 0, 0, 0) := by decide +kernel
theorem at_50_31 : j_at 50 31 = some (.iload 6, 0, 0, 0) := by decide +kernel
theorem at_50_33 : j_at 50 33 = some (.iadd, 0, 0, 0) := by decide +kernel
theorem at_50_34 : j_at 50 34 = some (.laload, 0, 0, 0) := by decide +kernel
theorem at_50_35 : j_at 50 35 = some (.lstore 7, 0, 0, 0) := by decide +kernel
theorem at_50_37 : j_at 50 37 = some (.iload_n 1, 0, 0, 0) := by decide +kernel
theorem at_50_38 : j_at 50 38 = some (.iload_n 2, 0, 0, 0) := by decide +kernel
theorem at_50_39 : j_at 50 39 = some (.if_icmp .ne 25, 64, 0, 0) := by decide +kernel
theorem at_50_42 : j_at 50 42 = some (.iload 6, 0, 0, 0) := by decide +kernel
theorem at_50_44 : j_at 50 44 = some (.iload_n 3, 0, 0, 0) := by decide +kernel
theorem at_50_45 : j_at 50 45 = some (.if_icmp .ne 11, 56, 0, 0) := by decide +kernel
theorem at_50_48 : j_at 50 48 = some (.aload_n 0, 0, 0, 0) := by decide +kernel
theorem at_50_49 : j_at 50 49 = some (.getfield 15, 7, 4, 0) := by decide +kernel
theorem at_50_52 : j_at 50 52 = some (.lneg, 0, 0, 0) := by decide +kernel
theorem at_50_53 : j_at 50 53 = some (.goto 6, 59, 0, 0) := by decide +kernel
theorem at_50_56 : j_at 50 56 = some (.lload 7, 0, 0, 0) := by decide +kernel
theorem at_50_58 : j_at 50 58 = some (.lneg, 0, 0, 0) := by decide +kernel
theorem at_50_59 : j_at 50 59 = some (.lstore 9, 0, 0, 0) := by decide +kernel
theorem at_50_61 : j_at 50 61 = some (.goto 39, 100, 0, 0) := by decide +kernel
theorem at_50_64 : j_at 50 64 = some (.iload 6, 0, 0, 0) := by decide +kernel
theorem at_50_66 : j_at 50 66 = some (.iload_n 3, 0, 0, 0) := by decide +kernel
theorem at_50_67 : j_at 50 67 = some (.if_icmp .ne 10, 77, 0, 0) := by decide +kernel
theorem at_50_70 : j_at 50 70 = some (.lload 7, 0, 0, 0) := by decide +kernel
theorem at_50_72 : j_at 50 72 = some (.lstore 9, 0, 0, 0) := by decide +kernel
theorem at_50_74 : j_at 50 74 = some (.goto 26, 100, 0, 0) := by decide +kernel
theorem at_50_77 : j_at 50 77 = some (.aload_n 0, 0, 0, 0) := by decide +kernel
theorem at_50_78 : j_at 50 78 = some (.lload 7, 0, 0, 0) := by decide +kernel
theorem at_50_80 : j_at 50 80 = some (.lload 4, 0, 0, 0) := by decide +kernel
theorem at_50_82 : j_at 50 82 = some (.aload_n 0, 0, 0, 0) := by decide +kernel
theorem at_50_83 : j_at 50 83 = some (.getfield 26, 7, 7, 0) := by decide +kernel
theorem at_50_86 : j_at 50 86 = some (.iload_n 2, 0, 0, 0) := by decide +kernel
theorem at_50_87 : j_at 50 87 = some (.iconst 5, 0, 0, 5) := by decide +kernel
theorem at_50_88 : j_at 50 88 = some (.imul, 0, 0, 0) := by decide +kernel
theorem at_50_89 : j_at 50 89 = some (.iload 6, 0, 0, 0) := by decide +kernel
theorem at_50_91 : j_at 50 91 = some (.iadd, 0, 0, 0) := by decide +kernel
theorem at_50_92 : j_at 50 92 = some (.laload, 0, 0, 0) := by decide +kernel
theorem at_50_93 : j_at 50 93 = some (.iload_n 2, 0, 0, 0) := by decide +kernel
theorem at_50_94 : j_at 50 94 = some (.iload_n 3, 0, 0, 0) := by decide +kernel
theorem at_50_95 : j_at 50 95 = some (.invokevirtual 107, 51, 5, 0) := by decide +kernel
theorem at_50_98 : j_at 50 98 = some (.lstore 9, 0, 0, 0) := by decide +kernel
theorem at_50_100 : j_at 50 100 = some (.lload 9, 0, 0, 0) := by decide +kernel
theorem at_50_102 : j_at 50 102 = some (.invokestatic 111, 144, 1, 0) := by decide +kernel
theorem at_50_105 : j_at 50 105 = some (.ifCond .ne 5, 110, 0, 0) := by decide +kernel
theorem at_50_108 : j_at 50 108 = some (.iconst 0, 0, 0, 0) := by decide +kernel
theorem at_50_109 : j_at 50 109 = some (.ireturn, 0, 0, 0) := by decide +kernel
theorem at_50_110 : j_at 50 110 = some (.aload_n 0, 0, 0, 0) := by decide +kernel
theorem at_50_111 : j_at 50 111 = some (.getfield 36, 7, 10, 0) := by decide +kernel
theorem at_50_114 : j_at 50 114 = some (.iload_n 1, 0, 0, 0) := by decide +kernel
theorem at_50_115 : j_at 50 115 = some (.iconst 5, 0, 0, 5) := by decide +kernel
theorem at_50_116 : j_at 50 116 = some (.imul, 0, 0, 0) := by decide +kernel
theorem at_50_117 : j_at 50 117 = some (.iload 6, 0, 0, 0) := by decide +kernel
theorem at_50_119 : j_at 50 119 = some (.iadd, 0, 0, 0) := by decide +kernel
theorem at_50_120 : j_at 50 120 = some (.lload 9, 0, 0, 0) := by decide +kernel
theorem at_50_122 : j_at 50 122 = some (.lastore, 0, 0, 0) := by decide +kernel
theorem at_50_123 : j_at 50 123 = some (.iinc 6 1, 0, 0, 0) := by decide +kernel
theorem at_50_126 : j_at 50 126 = some (.goto (-111), 15, 0, 0) := by decide +kernel
theorem at_50_129 : j_at 50 129 = some (.aload_n 0, 0, 0, 0) := by decide +kernel
theorem at_50_130 : j_at 50 130 = some (.getfield 39, 7, 11, 0) := by decide +kernel
theorem at_50_133 : j_at 50 133 = some (.iload_n 1, 0, 0, 0) := by decide +kernel
theorem at_50_134 : j_at 50 134 = some (.iload_n 1, 0, 0, 0) := by decide +kernel
theorem at_50_135 : j_at 50 135 = some (.iload_n 2, 0, 0, 0) := by decide +kernel
theorem at_50_136 : j_at 50 136 = some (.if_icmp .ne 13, 149, 0, 0) := by decide +kernel
theorem at_50_139 : j_at 50 139 = some (.aload_n 0, 0, 0, 0) := by decide +kernel
theorem at_50_140 : j_at 50 140 = some (.getfield 30, 7, 8, 0) := by decide +kernel
theorem at_50_143 : j_at 50 143 = some (.iload_n 2, 0, 0, 0) := by decide +kernel
theorem at_50_144 : j_at 50 144 = some (.laload, 0, 0, 0) := by decide +kernel
theorem at_50_145 : j_at 50 145 = some (.lneg, 0, 0, 0) := by decide +kernel
theorem at_50_146 : j_at 50 146 = some (.goto 23, 169, 0, 0) := by decide +kernel
theorem at_50_149 : j_at 50 149 = some (.aload_n 0, 0, 0, 0) := by decide +kernel
theorem at_50_150 : j_at 50 150 = some (.aload_n 0, 0, 0, 0) := by decide +kernel
theorem at_50_151 : j_at 50 151 = some (.getfield 30, 7, 8, 0) := by decide +kernel
theorem at_50_154 : j_at 50 154 = some (.iload_n 1, 0, 0, 0) := by decide +kernel
theorem at_50_155 : j_at 50 155 = some (.laload, 0, 0, 0) := by decide +kernel
theorem at_50_156 : j_at 50 156 = some (.lload 4, 0, 0, 0) := by decide +kernel
theorem at_50_158 : j_at 50 158 = some (.aload_n 0, 0, 0, 0) := by decide +kernel
theorem at_50_159 : j_at 50 159 = some (.getfield 30, 7, 8, 0) := by decide +kernel
theorem at_50_162 : j_at 50 162 = some (.iload_n 2, 0, 0, 0) := by decide +kernel
theorem at_50_163 : j_at 50 163 = some (.laload, 0, 0, 0) := by decide +kernel
theorem at_50_164 : j_at 50 164 = some (.iload_n 2, 0, 0, 0) := by decide +kernel
theorem at_50_165 : j_at 50 165 = some (.iload_n 3, 0, 0, 0) := by decide +kernel
theorem at_50_166 : j_at 50 166 = some (.invokevirtual 107, 51, 5, 0) := by decide +kernel
theorem at_50_169 : j_at 50 169 = some (.lastore, 0, 0, 0) := by decide +kernel
theorem at_50_170 : j_at 50 170 = some (.aload_n 0, 0, 0, 0) := by decide +kernel
theorem at_50_171 : j_at 50 171 = some (.getfield 39, 7, 11, 0) := by decide +kernel
theorem at_50_174 : j_at 50 174 = some (.iload_n 1, 0, 0, 0) := by decide +kernel
theorem at_50_175 : j_at 50 175 = some (.laload, 0, 0, 0) := by decide +kernel
theorem at_50_176 : j_at 50 176 = some (.invokestatic 111, 144, 1, 0) := by decide +kernel
theorem at_50_179 : j_at 50 179 = some (.ireturn, 0, 0, 0) := by decide +kernel
theorem at_51_0 : j_at 51 0 = some (.aload_n 0, 0, 0, 0) := by decide +kernel
theorem at_51_1 : j_at 51 1 = some (.getfield 26, 7, 7, 0) := by decide +kernel
theorem at_51_4 : j_at 51 4 = some (.iload 7, 0, 0, 0) := by decide +kernel
theorem at_51_6 : j_at 51 6 = some (.iconst 5, 0, 0, 5) := by decide +kernel
theorem at_51_7 : j_at 51 7 = some (.imul, 0, 0, 0) := by decide +kernel
theorem at_51_8 : j_at 51 8 = some (.iload 8, 0, 0, 0) := by decide +kernel
theorem at_51_10 : j_at 51 10 = some (.iadd, 0, 0, 0) := by decide +kernel
theorem at_51_11 : j_at 51 11 = some (.laload, 0, 0, 0) := by decide +kernel
theorem at_51_12 : j_at 51 12 = some (.lneg, 0, 0, 0) := by decide +kernel
theorem at_51_13 : j_at 51 13 = some (.lload_n 1, 0, 0, 0) := by decide +kernel
theorem at_51_14 : j_at 51 14 = some (.lmul, 0, 0, 0) := by decide +kernel
theorem at_51_15 : j_at 51 15 = some (.lload_n 3, 0, 0, 0) := by decide +kernel
theorem at_51_16 : j_at 51 16 = some (.lload 5, 0, 0, 0) := by decide +kernel
theorem at_51_18 : j_at 51 18 = some (.lmul, 0, 0, 0) := by decide +kernel
theorem at_51_19 : j_at 51 19 = some (.ladd, 0, 0, 0) := by decide +kernel
theorem at_51_20 : j_at 51 20 = some (.lstore 9, 0, 0, 0) := by decide +kernel
theorem at_51_22 : j_at 51 22 = some (.aload_n 0, 0, 0, 0) := by decide +kernel
theorem at_51_23 : j_at 51 23 = some (.getfield 15, 7, 4, 0) := by decide +kernel
theorem at_51_26 : j_at 51 26 = some (.lconst 0, 0, 0, 0) := by decide +kernel
theorem at_51_27 : j_at 51 27 = some (.lcmp, 0, 0, 0) := by decide +kernel
theorem at_51_28 : j_at 51 28 = some (.ifCond .le 13, 41, 0, 0) := by decide +kernel
theorem at_51_31 : j_at 51 31 = some (.lload 9, 0, 0, 0) := by decide +kernel
theorem at_51_33 : j_at 51 33 = some (.aload_n 0, 0, 0, 0) := by decide +kernel
theorem at_51_34 : j_at 51 34 = some (.getfield 15, 7, 4, 0) := by decide +kernel
theorem at_51_37 : j_at 51 37 = some (.ldiv, 0, 0, 0) := by decide +kernel
theorem at_51_38 : j_at 51 38 = some (.goto 4, 42, 0, 0) := by decide +kernel
theorem at_51_41 : j_at 51 41 = some (.lconst 0, 0, 0, 0) := by decide +kernel
theorem at_51_42 : j_at 51 42 = some (.lreturn, 0, 0, 0) := by decide +kernel
theorem at_52_0 : j_at 52 0 = some (.iconst 0, 0, 0, 0) := by decide +kernel
theorem at_52_1 : j_at 52 1 = some (.istore_n 2, 0, 0, 0) := by decide +kernel
theorem at_52_2 : j_at 52 2 = some (.iload_n 2, 0, 0, 0) := by decide +kernel
theorem at_52_3 : j_at 52 3 = some (.aload_n 0, 0, 0, 0) := by decide +kernel
theorem at_52_4 : j_at 52 4 = some (.getfield 45, 7, 0, 0) := by decide +kernel
theorem at_52_7 : j_at 52 7 = some (.if_icmp .ge 21, 28, 0, 0) := by decide +kernel
theorem at_52_10 : j_at 52 10 = some (.aload_n 0, 0, 0, 0) := by decide +kernel
theorem at_52_11 : j_at 52 11 = some (.getfield 19, 7, 5, 0) := by decide +kernel
theorem at_52_14 : j_at 52 14 = some (.iload_n 2, 0, 0, 0) := by decide +kernel
theorem at_52_15 : j_at 52 15 = some (.iaload, 0, 0, 0) := by decide +kernel
theorem at_52_16 : j_at 52 16 = some (.iload_n 1, 0, 0, 0) := by decide +kernel
theorem at_52_17 : j_at 52 17 = some (.if_icmp .ne 5, 22, 0, 0) := by decide +kernel
theorem at_52_20 : j_at 52 20 = some (.iload_n 2, 0, 0, 0) := by decide +kernel
theorem at_52_21 : j_at 52 21 = some (.ireturn, 0, 0, 0) := by decide +kernel
theorem at_52_22 : j_at 52 22 = some (.iinc 2 1, 0, 0, 0) := by decide +kernel
theorem at_52_25 : j_at 52 25 = some (.goto (-23), 2, 0, 0) := by decide +kernel
theorem at_52_28 : j_at 52 28 = some (.iconst (-1), 0, 0, -1) := by decide +kernel
theorem at_52_29 : j_at 52 29 = some (.ireturn, 0, 0, 0) := by decide +kernel
theorem at_53_0 : j_at 53 0 = some (.aload_n 0, 0, 0, 0) := by decide +kernel
theorem at_53_1 : j_at 53 1 = some (.iload_n 1, 0, 0, 0) := by decide +kernel
theorem at_53_2 : j_at 53 2 = some (.invokevirtual 121, 52, 1, 0) := by decide +kernel
theorem at_53_5 : j_at 53 5 = some (.istore_n 2, 0, 0, 0) := by decide +kernel
theorem at_53_6 : j_at 53 6 = some (.iload_n 2, 0, 0, 0) := by decide +kernel
theorem at_53_7 : j_at 53 7 = some (.ifCond .ge 7, 14, 0, 0) := by decide +kernel
theorem at_53_10 : j_at 53 10 = some (.lconst 0, 0, 0, 0) := by decide +kernel
theorem at_53_11 : j_at 53 11 = some (.goto 9, 20, 0, 0) := by decide +kernel
theorem at_53_14 : j_at 53 14 = some (.aload_n 0, 0, 0, 0) := by decide +kernel
theorem at_53_15 : j_at 53 15 = some (.getfield 30, 7, 8, 0) := by decide +kernel
theorem at_53_18 : j_at 53 18 = some (.iload_n 2, 0, 0, 0) := by decide +kernel
theorem at_53_19 : j_at 53 19 = some (.laload, 0, 0, 0) := by decide +kernel
theorem at_53_20 : j_at 53 20 = some (.lreturn, 0, 0, 0) := by decide +kernel
theorem at_54_0 : j_at 54 0 = some (.aload_n 0, 0, 0, 0) := by decide +kernel
theorem at_54_1 : j_at 54 1 = some (.aload_n 0, 0, 0, 0) := by decide +kernel
theorem at_54_2 : j_at 54 2 = some (.iload_n 1, 0, 0, 0) := by decide +kernel
theorem at_54_3 : j_at 54 3 = some (.invokevirtual 124, 53, 1, 0) := by decide +kernel
theorem at_54_6 : j_at 54 6 = some (.invokevirtual 128, 44, 1, 0) := by decide +kernel
theorem at_54_9 : j_at 54 9 = some (.lreturn, 0, 0, 0) := by decide +kernel
theorem at_56_0 : j_at 56 0 = some (.iconst 0, 0, 0, 0) := by decide +kernel
theorem at_56_1 : j_at 56 1 = some (.istore_n 1, 0, 0, 0) := by decide +kernel
theorem at_56_2 : j_at 56 2 = some (.iload_n 1, 0, 0, 0) := by decide +kernel
theorem at_56_3 : j_at 56 3 = some (.aload_n 0, 0, 0, 0) := by decide +kernel
theorem at_56_4 : j_at 56 4 = some (.getfield 45, 7, 0, 0) := by decide +kernel
theorem at_56_7 : j_at 56 7 = some (.if_icmp .ge 37, 44, 0, 0) := by decide +kernel
theorem at_56_10 : j_at 56 10 = some (.aload_n 0, 0, 0, 0) := by decide +kernel
theorem at_56_11 : j_at 56 11 = some (.getfield 19, 7, 5, 0) := by decide +kernel
theorem at_56_14 : j_at 56 14 = some (.iload_n 1, 0, 0, 0) := by decide +kernel
theorem at_56_15 : j_at 56 15 = some (.iaload, 0, 0, 0) := by decide +kernel
theorem at_56_16 : j_at 56 16 = some (.bipush 10, 0, 0, 10) := by decide +kernel
theorem at_56_18 : j_at 56 18 = some (.if_icmp .ge 20, 38, 0, 0) := by decide +kernel
theorem at_56_21 : j_at 56 21 = some (.aload_n 0, 0, 0, 0) := by decide +kernel
theorem at_56_22 : j_at 56 22 = some (.aload_n 0, 0, 0, 0) := by decide +kernel
theorem at_56_23 : j_at 56 23 = some (.getfield 30, 7, 8, 0) := by decide +kernel
theorem at_56_26 : j_at 56 26 = some (.iload_n 1, 0, 0, 0) := by decide +kernel
theorem at_56_27 : j_at 56 27 = some (.laload, 0, 0, 0) := by decide +kernel
theorem at_56_28 : j_at 56 28 = some (.invokevirtual 75, 43, 1, 0) := by decide +kernel
theorem at_56_31 : j_at 56 31 = some (.lconst 0, 0, 0, 0) := by decide +kernel
theorem at_56_32 : j_at 56 32 = some (.lcmp, 0, 0, 0) := by decide +kernel
theorem at_56_33 : j_at 56 33 = some (.ifCond .eq 5, 38, 0, 0) := by decide +kernel
theorem at_56_36 : j_at 56 36 = some (.iload_n 1, 0, 0, 0) := by decide +kernel
theorem at_56_37 : j_at 56 37 = some (.ireturn, 0, 0, 0) := by decide +kernel
theorem at_56_38 : j_at 56 38 = some (.iinc 1 1, 0, 0, 0) := by decide +kernel
theorem at_56_41 : j_at 56 41 = some (.goto (-39), 2, 0, 0) := by decide +kernel
theorem at_56_44 : j_at 56 44 = some (.iconst (-1), 0, 0, -1) := by decide +kernel
theorem at_56_45 : j_at 56 45 = some (.ireturn, 0, 0, 0) := by decide +kernel
theorem at_61_0 : j_at 61 0 = some (.aload_n 0, 0, 0, 0) := by decide +kernel
theorem at_61_1 : j_at 61 1 = some (.getfield 9, 8, 0, 0) := by decide +kernel
theorem at_61_4 : j_at 61 4 = some (.iload_n 1, 0, 0, 0) := by decide +kernel
theorem at_61_5 : j_at 61 5 = some (.iload_n 2, 0, 0, 0) := by decide +kernel
theorem at_61_6 : j_at 61 6 = some (.iastore, 0, 0, 0) := by decide +kernel
theorem at_61_7 : j_at 61 7 = some (.aload_n 0, 0, 0, 0) := by decide +kernel
theorem at_61_8 : j_at 61 8 = some (.getfield 15, 8, 1, 0) := by decide +kernel
theorem at_61_11 : j_at 61 11 = some (.iload_n 1, 0, 0, 0) := by decide +kernel
theorem at_61_12 : j_at 61 12 = some (.iload_n 3, 0, 0, 0) := by decide +kernel
theorem at_61_13 : j_at 61 13 = some (.iastore, 0, 0, 0) := by decide +kernel
theorem at_61_14 : j_at 61 14 = some (.aload_n 0, 0, 0, 0) := by decide +kernel
theorem at_61_15 : j_at 61 15 = some (.getfield 20, 8, 2, 0) := by decide +kernel
theorem at_61_18 : j_at 61 18 = some (.iload_n 1, 0, 0, 0) := by decide +kernel
theorem at_61_19 : j_at 61 19 = some (.aaload, 0, 0, 0) := by decide +kernel
theorem at_61_20 : j_at 61 20 = some (.lconst 0, 0, 0, 0) := by decide +kernel
theorem at_61_21 : j_at 61 21 = some (.invokestatic 23, 269, 2, 0) := by decide +kernel
theorem at_61_24 : j_at 61 24 = some (.return_, 0, 0, 0) := by decide +kernel
theorem at_62_0 : j_at 62 0 = some (.iload_n 1, 0, 0, 0) := by decide +kernel
theorem at_62_1 : j_at 62 1 = some (.tableswitch 61 0 4 #[35, 40, 45, 61, 49], 0, 0, 0) := by decide +kernel
theorem at_62_36 : j_at 62 36 = some (.lload_n 2, 0, 0, 0) := by decide +kernel
theorem at_62_37 : j_at 62 37 = some (.l2i, 0, 0, 0) := by decide +kernel
theorem at_62_38 : j_at 62 38 = some (.i2b, 0, 0, 0) := by decide +kernel
theorem at_62_39 : j_at 62 39 = some (.i2l, 0, 0, 0) := by decide +kernel
theorem at_62_40 : j_at 62 40 = some (.lreturn, 0, 0, 0) := by decide +kernel
theorem at_62_41 : j_at 62 41 = some (.lload_n 2, 0, 0, 0) := by decide +kernel
theorem at_62_42 : j_at 62 42 = some (.l2i, 0, 0, 0) := by decide +kernel
theorem at_62_43 : j_at 62 43 = some (.i2s, 0, 0, 0) := by decide +kernel
theorem at_62_44 : j_at 62 44 = some (.i2l, 0, 0, 0) := by decide +kernel
theorem at_62_45 : j_at 62 45 = some (.lreturn, 0, 0, 0) := by decide +kernel
theorem at_62_46 : j_at 62 46 = some (.lload_n 2, 0, 0, 0) := by decide +kernel
theorem at_62_47 : j_at 62 47 = some (.l2i, 0, 0, 0) := by decide +kernel
theorem at_62_48 : j_at 62 48 = some (.i2l, 0, 0, 0) := by decide +kernel
theorem at_62_49 : j_at 62 49 = some (.lreturn, 0, 0, 0) := by decide +kernel
theorem at_62_50 : j_at 62 50 = some (.lload_n 2, 0, 0, 0) := by decide +kernel
theorem at_62_51 : j_at 62 51 = some (.lconst 0, 0, 0, 0) := by decide +kernel
theorem at_62_52 : j_at 62 52 = some (.lcmp, 0, 0, 0) := by decide +kernel
theorem at_62_53 : j_at 62 53 = some (.ifCond .eq 7, 60, 0, 0) := by decide +kernel
theorem at_62_56 : j_at 62 56 = some (.lconst 1, 0, 0, 1) := by decide +kernel
theorem at_62_57 : j_at 62 57 = some (.goto 4, 61, 0, 0) := by decide +kernel
theorem at_62_60 : j_at 62 60 = some (.lconst 0, 0, 0, 0) := by decide +kernel
theorem at_62_61 : j_at 62 61 = some (.lreturn, 0, 0, 0) := by decide +kernel
theorem at_62_62 : j_at 62 62 = some (.lload_n 2, 0, 0, 0) := by decide +kernel
theorem at_62_63 : j_at 62 63 = some (.lreturn, 0, 0, 0) := by decide +kernel
theorem at_65_0 : j_at 65 0 = some (.aload_n 0, 0, 0, 0) := by decide +kernel
theorem at_65_1 : j_at 65 1 = some (.iload_n 1, 0, 0, 0) := by decide +kernel
theorem at_65_2 : j_at 65 2 = some (.putfield 25, 9, 4, 0) := by decide +kernel
theorem at_65_5 : j_at 65 5 = some (.aload_n 0, 0, 0, 0) := by decide +kernel
theorem at_65_6 : j_at 65 6 = some (.iconst 0, 0, 0, 0) := by decide +kernel
theorem at_65_7 : j_at 65 7 = some (.putfield 29, 9, 3, 0) := by decide +kernel
theorem at_65_10 : j_at 65 10 = some (.aload_n 0, 0, 0, 0) := by decide +kernel
theorem at_65_11 : j_at 65 11 = some (.iconst 0, 0, 0, 0) := by decide +kernel
theorem at_65_12 : j_at 65 12 = some (.putfield 32, 9, 1, 0) := by decide +kernel
theorem at_65_15 : j_at 65 15 = some (.iconst 0, 0, 0, 0) := by decide +kernel
theorem at_65_16 : j_at 65 16 = some (.istore_n 2, 0, 0, 0) := by decide +kernel
theorem at_65_17 : j_at 65 17 = some (.iload_n 2, 0, 0, 0) := by decide +kernel
theorem at_65_18 : j_at 65 18 = some (.iconst 4, 0, 0, 4) := by decide +kernel
theorem at_65_19 : j_at 65 19 = some (.if_icmp .ge 66, 85, 0, 0) := by decide +kernel
theorem at_65_22 : j_at 65 22 = some (.aload_n 0, 0, 0, 0) := by decide +kernel
theorem at_65_23 : j_at 65 23 = some (.invokevirtual 35, 70, 0, 0) := by decide +kernel
theorem at_65_26 : j_at 65 26 = some (.ifCond .ne 8, 34, 0, 0) := by decide +kernel
theorem at_65_29 : j_at 65 29 = some (.aload_n 0, 0, 0, 0) := by decide +kernel
theorem at_65_30 : j_at 65 30 = some (.getfield 29, 9, 3, 0) := by decide +kernel
theorem at_65_33 : j_at 65 33 = some (.ireturn, 0, 0, 0) := by decide +kernel
theorem at_65_34 : j_at 65 34 = some (.aload_n 0, 0, 0, 0) := by decide +kernel
theorem at_65_35 : j_at 65 35 = some (.dup, 0, 0, 0) := by decide +kernel
theorem at_65_36 : j_at 65 36 = some (.getfield 32, 9, 1, 0) := by decide +kernel
theorem at_65_39 : j_at 65 39 = some (.iconst 1, 0, 0, 1) := by decide +kernel
theorem at_65_40 : j_at 65 40 = some (.iadd, 0, 0, 0) := by decide +kernel
theorem at_65_41 : j_at 65 41 = some (.putfield 32, 9, 1, 0) := by decide +kernel
theorem at_65_44 : j_at 65 44 = some (.aload_n 0, 0, 0, 0) := by decide +kernel
theorem at_65_45 : j_at 65 45 = some (.getfield 29, 9, 3, 0) := by decide +kernel
theorem at_65_48 : j_at 65 48 = some (.aload_n 0, 0, 0, 0) := by decide +kernel
theorem at_65_49 : j_at 65 49 = some (.getfield 39, 9, 0, 0) := by decide +kernel
theorem at_65_52 : j_at 65 52 = some (.if_icmp .lt 5, 57, 0, 0) := by decide +kernel
theorem at_65_55 : j_at 65 55 = some (.iconst (-1), 0, 0, -1) := by decide +kernel
theorem at_65_56 : j_at 65 56 = some (.ireturn, 0, 0, 0) := by decide +kernel
theorem at_65_57 : j_at 65 57 = some (.aload_n 0, 0, 0, 0) := by decide +kernel
theorem at_65_58 : j_at 65 58 = some (.getfield 32, 9, 1, 0) := by decide +kernel
theorem at_65_61 : j_at 65 61 = some (.iconst 4, 0, 0, 4) := by decide +kernel
theorem at_65_62 : j_at 65 62 = some (.if_icmp .eq 12, 74, 0, 0) := by decide +kernel
theorem at_65_65 : j_at 65 65 = some (.aload_n 0, 0, 0, 0) := by decide +kernel
theorem at_65_66 : j_at 65 66 = some (.bipush 59, 0, 0, 59) := by decide +kernel
theorem at_65_68 : j_at 65 68 = some (.invokevirtual 42, 68, 1, 0) := by decide +kernel
theorem at_65_71 : j_at 65 71 = some (.ifCond .ne 8, 79, 0, 0) := by decide +kernel
theorem at_65_74 : j_at 65 74 = some (.aload_n 0, 0, 0, 0) := by decide +kernel
theorem at_65_75 : j_at 65 75 = some (.getfield 29, 9, 3, 0) := by decide +kernel
theorem at_65_78 : j_at 65 78 = some (.ireturn, 0, 0, 0) := by decide +kernel
theorem at_65_79 : j_at 65 79 = some (.iinc 2 1, 0, 0, 0) := by decide +kernel
theorem at_65_82 : j_at 65 82 = some (.goto (-65), 17, 0, 0) := by decide +kernel
theorem at_65_85 : j_at 65 85 = some (.aload_n 0, 0, 0, 0) := by decide +kernel
theorem at_65_86 : j_at 65 86 = some (.getfield 29, 9, 3, 0) := by decide +kernel
theorem at_65_89 : j_at 65 89 = some (.ireturn, 0, 0, 0) := by decide +kernel
theorem at_66_0 : j_at 66 0 = some (.iconst 0, 0, 0, 0) := by decide +kernel
theorem at_66_1 : j_at 66 1 = some (.istore_n 2, 0, 0, 0) := by decide +kernel
theorem at_66_2 : j_at 66 2 = some (.iload_n 2, 0, 0, 0) := by decide +kernel
theorem at_66_3 : j_at 66 3 = some (.aload_n 0, 0, 0, 0) := by decide +kernel
theorem at_66_4 : j_at 66 4 = some (.getfield 32, 9, 1, 0) := by decide +kernel
theorem at_66_7 : j_at 66 7 = some (.if_icmp .ge 62, 69, 0, 0) := by decide +kernel
theorem at_66_10 : j_at 66 10 = some (.aload_n 1, 0, 0, 0) := by decide +kernel
theorem at_66_11 : j_at 66 11 = some (.aload_n 0, 0, 0, 0) := by decide +kernel
theorem at_66_12 : j_at 66 12 = some (.getfield 15, 9, 5, 0) := by decide +kernel
theorem at_66_15 : j_at 66 15 = some (.iload_n 2, 0, 0, 0) := by decide +kernel
theorem at_66_16 : j_at 66 16 = some (.iaload, 0, 0, 0) := by decide +kernel
theorem at_66_17 : j_at 66 17 = some (.aload_n 0, 0, 0, 0) := by decide +kernel
theorem at_66_18 : j_at 66 18 = some (.getfield 19, 9, 6, 0) := by decide +kernel
theorem at_66_21 : j_at 66 21 = some (.iload_n 2, 0, 0, 0) := by decide +kernel
theorem at_66_22 : j_at 66 22 = some (.iaload, 0, 0, 0) := by decide +kernel
theorem at_66_23 : j_at 66 23 = some (.invokevirtual 46, 10, 2, 0) := by decide +kernel
theorem at_66_26 : j_at 66 26 = some (.iconst 0, 0, 0, 0) := by decide +kernel
theorem at_66_27 : j_at 66 27 = some (.istore_n 3, 0, 0, 0) := by decide +kernel
theorem at_66_28 : j_at 66 28 = some (.iload_n 3, 0, 0, 0) := by decide +kernel
theorem at_66_29 : j_at 66 29 = some (.aload_n 1, 0, 0, 0) := by decide +kernel
theorem at_66_30 : j_at 66 30 = some (.getfield 52, 3, 0, 0) := by decide +kernel
theorem at_66_33 : j_at 66 33 = some (.if_icmp .ge 30, 63, 0, 0) := by decide +kernel
theorem at_66_36 : j_at 66 36 = some (.aload_n 1, 0, 0, 0) := by decide +kernel
theorem at_66_37 : j_at 66 37 = some (.aload_n 1, 0, 0, 0) := by decide +kernel
theorem at_66_38 : j_at 66 38 = some (.getfield 55, 3, 1, 0) := by decide +kernel
theorem at_66_41 : j_at 66 41 = some (.iconst 1, 0, 0, 1) := by decide +kernel
theorem at_66_42 : j_at 66 42 = some (.isub, 0, 0, 0) := by decide +kernel
theorem at_66_43 : j_at 66 43 = some (.iload_n 3, 0, 0, 0) := by decide +kernel
theorem at_66_44 : j_at 66 44 = some (.aload_n 0, 0, 0, 0) := by decide +kernel
theorem at_66_45 : j_at 66 45 = some (.getfield 22, 9, 7, 0) := by decide +kernel
theorem at_66_48 : j_at 66 48 = some (.iload_n 2, 0, 0, 0) := by decide +kernel
theorem at_66_49 : j_at 66 49 = some (.iconst 5, 0, 0, 5) := by decide +kernel
theorem at_66_50 : j_at 66 50 = some (.imul, 0, 0, 0) := by decide +kernel
theorem at_66_51 : j_at 66 51 = some (.iload_n 3, 0, 0, 0) := by decide +kernel
theorem at_66_52 : j_at 66 52 = some (.iadd, 0, 0, 0) := by decide +kernel
theorem at_66_53 : j_at 66 53 = some (.iaload, 0, 0, 0) := by decide +kernel
theorem at_66_54 : j_at 66 54 = some (.invokevirtual 58, 12, 3, 0) := by decide +kernel
theorem at_66_57 : j_at 66 57 = some (.iinc 3 1, 0, 0, 0) := by decide +kernel
theorem at_66_60 : j_at 66 60 = some (.goto (-32), 28, 0, 0) := by decide +kernel
theorem at_66_63 : j_at 66 63 = some (.iinc 2 1, 0, 0, 0) := by decide +kernel
theorem at_66_66 : j_at 66 66 = some (.goto (-64), 2, 0, 0) := by decide +kernel
theorem at_66_69 : j_at 66 69 = some (.return_, 0, 0, 0) := by decide +kernel
theorem at_67_0 : j_at 67 0 = some (.aload_n 0, 0, 0, 0) := by decide +kernel
theorem at_67_1 : j_at 67 1 = some (.getfield 29, 9, 3, 0) := by decide +kernel
theorem at_67_4 : j_at 67 4 = some (.aload_n 0, 0, 0, 0) := by decide +kernel
theorem at_67_5 : j_at 67 5 = some (.getfield 39, 9, 0, 0) := by decide +kernel
theorem at_67_8 : j_at 67 8 = some (.if_icmp .ge 15, 23, 0, 0) := by decide +kernel
theorem at_67_11 : j_at 67 11 = some (.aload_n 0, 0, 0, 0) := by decide +kernel
theorem at_67_12 : j_at 67 12 = some (.getfield 9, 9, 2, 0) := by decide +kernel
theorem at_67_15 : j_at 67 15 = some (.aload_n 0, 0, 0, 0) := by decide +kernel
theorem at_67_16 : j_at 67 16 = some (.getfield 29, 9, 3, 0) := by decide +kernel
theorem at_67_19 : j_at 67 19 = some (.baload, 0, 0, 0) := by decide +kernel
theorem at_67_20 : j_at 67 20 = some (.goto 4, 24, 0, 0) := by decide +kernel
theorem at_67_23 : j_at 67 23 = some (.iconst (-1), 0, 0, -1) := by decide +kernel
theorem at_67_24 : j_at 67 24 = some (.ireturn, 0, 0, 0) := by decide +kernel
theorem at_68_0 : j_at 68 0 = some (.aload_n 0, 0, 0, 0) := by decide +kernel
theorem at_68_1 : j_at 68 1 = some (.invokevirtual 62, 67, 0, 0) := by decide +kernel
theorem at_68_4 : j_at 68 4 = some (.iload_n 1, 0, 0, 0) := by decide +kernel
theorem at_68_5 : j_at 68 5 = some (.if_icmp .eq 5, 10, 0, 0) := by decide +kernel
theorem at_68_8 : j_at 68 8 = some (.iconst 0, 0, 0, 0) := by decide +kernel
theorem at_68_9 : j_at 68 9 = some (.ireturn, 0, 0, 0) := by decide +kernel
theorem at_68_10 : j_at 68 10 = some (.aload_n 0, 0, 0, 0) := by decide +kernel
theorem at_68_11 : j_at 68 11 = some (.dup, 0, 0, 0) := by decide +kernel
theorem at_68_12 : j_at 68 12 = some (.getfield 29, 9, 3, 0) := by decide +kernel
theorem at_68_15 : j_at 68 15 = some (.iconst 1, 0, 0, 1) := by decide +kernel
theorem at_68_16 : j_at 68 16 = some (.iadd, 0, 0, 0) := by decide +kernel
theorem at_68_17 : j_at 68 17 = some (.putfield 29, 9, 3, 0) := by decide +kernel
theorem at_68_20 : j_at 68 20 = some (.iconst 1, 0, 0, 1) := by decide +kernel
theorem at_68_21 : j_at 68 21 = some (.ireturn, 0, 0, 0) := by decide +kernel
theorem at_69_0 : j_at 69 0 = some (.aload_n 0, 0, 0, 0) := by decide +kernel
theorem at_69_1 : j_at 69 1 = some (.invokevirtual 62, 67, 0, 0) := by decide +kernel
theorem at_69_4 : j_at 69 4 = some (.bipush 48, 0, 0, 48) := by decide +kernel
theorem at_69_6 : j_at 69 6 = some (.if_icmp .lt 16, 22, 0, 0) := by decide +kernel
theorem at_69_9 : j_at 69 9 = some (.aload_n 0, 0, 0, 0) := by decide +kernel
theorem at_69_10 : j_at 69 10 = some (.invokevirtual 62, 67, 0, 0) := by decide +kernel
theorem at_69_13 : j_at 69 13 = some (.bipush 57, 0, 0, 57) := by decide +kernel
theorem at_69_15 : j_at 69 15 = some (.if_icmp .gt 7, 22, 0, 0) := by decide +kernel
theorem at_69_18 : j_at 69 18 = some (.iconst 1, 0, 0, 1) := by decide +kernel
theorem at_69_19 : j_at 69 19 = some (.goto 4, 23, 0, 0) := by decide +kernel
theorem at_69_22 : j_at 69 22 = some (.iconst 0, 0, 0, 0) := by decide +kernel
theorem at_69_23 : j_at 69 23 = some (.ireturn, 0, 0, 0) := by decide +kernel
theorem at_70_0 : j_at 70 0 = some (.iconst 0, 0, 0, 0) := by decide +kernel
theorem at_70_1 : j_at 70 1 = some (.istore_n 1, 0, 0, 0) := by decide +kernel
theorem at_70_2 : j_at 70 2 = some (.iload_n 1, 0, 0, 0) := by decide +kernel
theorem at_70_3 : j_at 70 3 = some (.iconst 5, 0, 0, 5) := by decide +kernel
theorem at_70_4 : j_at 70 4 = some (.if_icmp .ge 23, 27, 0, 0) := by decide +kernel
theorem at_70_7 : j_at 70 7 = some (.aload_n 0, 0, 0, 0) := by decide +kernel
theorem at_70_8 : j_at 70 8 = some (.getfield 22, 9, 7, 0) := by decide +kernel
theorem at_70_11 : j_at 70 11 = some (.aload_n 0, 0, 0, 0) := by decide +kernel
theorem at_70_12 : j_at 70 12 = some (.getfield 32, 9, 1, 0) := by decide +kernel
theorem at_70_15 : j_at 70 15 = some (.iconst 5, 0, 0, 5) := by decide +kernel
theorem at_70_16 : j_at 70 16 = some (.imul, 0, 0, 0) := by decide +kernel
theorem at_70_17 : j_at 70 17 = some (.iload_n 1, 0, 0, 0) := by decide +kernel
theorem at_70_18 : j_at 70 18 = some (.iadd, 0, 0, 0) := by decide +kernel
theorem at_70_19 : j_at 70 19 = some (.iconst 0, 0, 0, 0) := by decide +kernel
theorem at_70_20 : j_at 70 20 = some (.iastore, 0, 0, 0) := by decide +kernel
theorem at_70_21 : j_at 70 21 = some (.iinc 1 1, 0, 0, 0) := by decide +kernel
theorem at_70_24 : j_at 70 24 = some (.goto (-22), 2, 0, 0) := by decide +kernel
theorem at_70_27 : j_at 70 27 = some (.aload_n 0, 0, 0, 0) := by decide +kernel
theorem at_70_28 : j_at 70 28 = some (.aload_n 0, 0, 0, 0) := by decide +kernel
theorem at_70_29 : j_at 70 29 = some (.bipush 45, 0, 0, 45) := by decide +kernel
theorem at_70_31 : j_at 70 31 = some (.invokevirtual 42, 68, 1, 0) := by decide +kernel
theorem at_70_34 : j_at 70 34 = some (.invokevirtual 66, 71, 1, 0) := by decide +kernel
theorem at_70_37 : j_at 70 37 = some (.ifCond .ne 5, 42, 0, 0) := by decide +kernel
theorem at_70_40 : j_at 70 40 = some (.iconst 0, 0, 0, 0) := by decide +kernel
theorem at_70_41 : j_at 70 41 = some (.ireturn, 0, 0, 0) := by decide +kernel
theorem at_70_42 : j_at 70 42 = some (.iconst 0, 0, 0, 0) := by decide +kernel
theorem at_70_43 : j_at 70 43 = some (.istore_n 1, 0, 0, 0) := by decide +kernel
theorem at_70_44 : j_at 70 44 = some (.iload_n 1, 0, 0, 0) := by decide +kernel
theorem at_70_45 : j_at 70 45 = some (.bipush 80, 0, 0, 80) := by decide +kernel
theorem at_70_47 : j_at 70 47 = some (.if_icmp .ge 62, 109, 0, 0) := by decide +kernel
theorem at_70_50 : j_at 70 50 = some (.aload_n 0, 0, 0, 0) := by decide +kernel
theorem at_70_51 : j_at 70 51 = some (.invokevirtual 62, 67, 0, 0) := by decide +kernel
theorem at_70_54 : j_at 70 54 = some (.bipush 43, 0, 0, 43) := by decide +kernel
theorem at_70_56 : j_at 70 56 = some (.if_icmp .eq 12, 68, 0, 0) := by decide +kernel
theorem at_70_59 : j_at 70 59 = some (.aload_n 0, 0, 0, 0) := by decide +kernel
theorem at_70_60 : j_at 70 60 = some (.invokevirtual 62, 67, 0, 0) := by decide +kernel
theorem at_70_63 : j_at 70 63 = some (.bipush 45, 0, 0, 45) := by decide +kernel
theorem at_70_65 : j_at 70 65 = some (.if_icmp .ne 44, 109, 0, 0) := by decide +kernel
theorem at_70_68 : j_at 70 68 = some (.aload_n 0, 0, 0, 0) := by decide +kernel
theorem at_70_69 : j_at 70 69 = some (.invokevirtual 62, 67, 0, 0) := by decide +kernel
theorem at_70_72 : j_at 70 72 = some (.bipush 45, 0, 0, 45) := by decide +kernel
theorem at_70_74 : j_at 70 74 = some (.if_icmp .ne 7, 81, 0, 0) := by decide +kernel
theorem at_70_77 : j_at 70 77 = some (.iconst 1, 0, 0, 1) := by decide +kernel
theorem at_70_78 : j_at 70 78 = some (.goto 4, 82, 0, 0) := by decide +kernel
theorem at_70_81 : j_at 70 81 = some (.iconst 0, 0, 0, 0) := by decide +kernel
theorem at_70_82 : j_at 70 82 = some (.istore_n 2, 0, 0, 0) := by decide +kernel
theorem at_70_83 : j_at 70 83 = some (.aload_n 0, 0, 0, 0) := by decide +kernel
theorem at_70_84 : j_at 70 84 = some (.dup, 0, 0, 0) := by decide +kernel
theorem at_70_85 : j_at 70 85 = some (.getfield 29, 9, 3, 0) := by decide +kernel
theorem at_70_88 : j_at 70 88 = some (.iconst 1, 0, 0, 1) := by decide +kernel
theorem at_70_89 : j_at 70 89 = some (.iadd, 0, 0, 0) := by decide +kernel
theorem at_70_90 : j_at 70 90 = some (.putfield 29, 9, 3, 0) := by decide +kernel
theorem at_70_93 : j_at 70 93 = some (.aload_n 0, 0, 0, 0) := by decide +kernel
theorem at_70_94 : j_at 70 94 = some (.iload_n 2, 0, 0, 0) := by decide +kernel
theorem at_70_95 : j_at 70 95 = some (.invokevirtual 66, 71, 1, 0) := by decide +kernel
theorem at_70_98 : j_at 70 98 = some (.ifCond .ne 5, 103, 0, 0) := by decide +kernel
theorem at_70_101 : j_at 70 101 = some (.iconst 0, 0, 0, 0) := by decide +kernel
theorem at_70_102 : j_at 70 102 = some (.ireturn, 0, 0, 0) := by decide +kernel
theorem at_70_103 : j_at 70 103 = some (.iinc 1 1, 0, 0, 0) := by decide +kernel
theorem at_70_106 : j_at 70 106 = some (.goto (-62), 44, 0, 0) := by decide +kernel
theorem at_70_109 : j_at 70 109 = some (.aload_n 0, 0, 0, 0) := by decide +kernel
theorem at_70_110 : j_at 70 110 = some (.invokevirtual 62, 67, 0, 0) := by decide +kernel
theorem at_70_113 : j_at 70 113 = some (.bipush 62, 0, 0, 62) := by decide +kernel
theorem at_70_115 : j_at 70 115 = some (.if_icmp .eq 14, 129, 0, 0) := by decide +kernel
theorem at_70_118 : j_at 70 118 = some (.aload_n 0, 0, 0, 0) := by decide +kernel
theorem at_70_119 : j_at 70 119 = some (.invokevirtual 62, 67, 0, 0) := by decide +kernel
theorem at_70_122 : j_at 70 122 = some (.bipush 60, 0, 0, 60) := by decide +kernel
theorem at_70_124 : j_at 70 124 = some (.if_icmp .eq 5, 129, 0, 0) := by decide +kernel
theorem at_70_127 : j_at 70 127 = some (.iconst 0, 0, 0, 0) := by decide +kernel
theorem at_70_128 : j_at 70 128 = some (.ireturn, 0, 0, 0) := by decide +kernel
theorem at_70_129 : j_at 70 129 = some (.aload_n 0, 0, 0, 0) := by decide +kernel
theorem at_70_130 : j_at 70 130 = some (.getfield 15, 9, 5, 0) := by decide +kernel
theorem at_70_133 : j_at 70 133 = some (.aload_n 0, 0, 0, 0) := by decide +kernel
theorem at_70_134 : j_at 70 134 = some (.getfield 32, 9, 1, 0) := by decide +kernel
theorem at_70_137 : j_at 70 137 = some (.aload_n 0, 0, 0, 0) := by decide +kernel
theorem at_70_138 : j_at 70 138 = some (.invokevirtual 62, 67, 0, 0) := by decide +kernel
theorem at_70_141 : j_at 70 141 = some (.bipush 62, 0, 0, 62) := by decide +kernel
theorem at_70_143 : j_at 70 143 = some (.if_icmp .ne 7, 150, 0, 0) := by decide +kernel
theorem at_70_146 : j_at 70 146 = some (.iconst 0, 0, 0, 0) := by decide +kernel
theorem at_70_147 : j_at 70 147 = some (.goto 4, 151, 0, 0) := by decide +kernel
theorem at_70_150 : j_at 70 150 = some (.iconst 1, 0, 0, 1) := by decide +kernel
theorem at_70_151 : j_at 70 151 = some (.iastore, 0, 0, 0) := by decide +kernel
theorem at_70_152 : j_at 70 152 = some (.aload_n 0, 0, 0, 0) := by decide +kernel
theorem at_70_153 : j_at 70 153 = some (.dup, 0, 0, 0) := by decide +kernel
theorem at_70_154 : j_at 70 154 = some (.getfield 29, 9, 3, 0) := by decide +kernel
theorem at_70_157 : j_at 70 157 = some (.iconst 1, 0, 0, 1) := by decide +kernel
theorem at_70_158 : j_at 70 158 = some (.iadd, 0, 0, 0) := by decide +kernel
theorem at_70_159 : j_at 70 159 = some (.putfield 29, 9, 3, 0) := by decide +kernel
theorem at_70_162 : j_at 70 162 = some (.aload_n 0, 0, 0, 0) := by decide +kernel
theorem at_70_163 : j_at 70 163 = some (.aload_n 0, 0, 0, 0) := by decide +kernel
theorem at_70_164 : j_at 70 164 = some (.bipush 45, 0, 0, 45) := by decide +kernel
theorem at_70_166 : j_at 70 166 = some (.invokevirtual 42, 68, 1, 0) := by decide +kernel
theorem at_70_169 : j_at 70 169 = some (.invokevirtual 70, 72, 1, 0) := by decide +kernel
theorem at_70_172 : j_at 70 172 = some (.ireturn, 0, 0, 0) := by decide +kernel
theorem at_71_0 : j_at 71 0 = some (.iconst 1, 0, 0, 1) := by decide +kernel
theorem at_71_1 : j_at 71 1 = some (.istore_n 2, 0, 0, 0) := by decide +kernel
theorem at_71_2 : j_at 71 2 = some (.aload_n 0, 0, 0, 0) := by decide +kernel
theorem at_71_3 : j_at 71 3 = some (.invokevirtual 73, 69, 0, 0) := by decide +kernel
theorem at_71_6 : j_at 71 6 = some (.ifCond .eq 21, 27, 0, 0) := by decide +kernel
theorem at_71_9 : j_at 71 9 = some (.aload_n 0, 0, 0, 0) := by decide +kernel
theorem at_71_10 : j_at 71 10 = some (.invokevirtual 62, 67, 0, 0) := by decide +kernel
theorem at_71_13 : j_at 71 13 = some (.bipush 48, 0, 0, 48) := by decide +kernel
theorem at_71_15 : j_at 71 15 = some (.isub, 0, 0, 0) := by decide +kernel
theorem at_71_16 : j_at 71 16 = some (.istore_n 2, 0, 0, 0) := by decide +kernel
theorem at_71_17 : j_at 71 17 = some (.aload_n 0, 0, 0, 0) := by decide +kernel
theorem at_71_18 : j_at 71 18 = some (.dup, 0, 0, 0) := by decide +kernel
theorem at_71_19 : j_at 71 19 = some (.getfield 29, 9, 3, 0) := by decide +kernel
theorem at_71_22 : j_at 71 22 = some (.iconst 1, 0, 0, 1) := by decide +kernel
theorem at_71_23 : j_at 71 23 = some (.iadd, 0, 0, 0) := by decide +kernel
theorem at_71_24 : j_at 71 24 = some (.putfield 29, 9, 3, 0) := by decide +kernel
theorem at_71_27 : j_at 71 27 = some (.aload_n 0, 0, 0, 0) := by decide +kernel
theorem at_71_28 : j_at 71 28 = some (.invokevirtual 62, 67, 0, 0) := by decide +kernel
theorem at_71_31 : j_at 71 31 = some (.bipush 97, 0, 0, 97) := by decide +kernel
theorem at_71_33 : j_at 71 33 = some (.isub, 0, 0, 0) := by decide +kernel
theorem at_71_34 : j_at 71 34 = some (.istore_n 3, 0, 0, 0) := by decide +kernel
theorem at_71_35 : j_at 71 35 = some (.iload_n 3, 0, 0, 0) := by decide +kernel
theorem at_71_36 : j_at 71 36 = some (.ifCond .lt 11, 47, 0, 0) := by decide +kernel
theorem at_71_39 : j_at 71 39 = some (.iload_n 3, 0, 0, 0) := by decide +kernel
theorem at_71_40 : j_at 71 40 = some (.aload_n 0, 0, 0, 0) := by decide +kernel
theorem at_71_41 : j_at 71 41 = some (.getfield 25, 9, 4, 0) := by decide +kernel
theorem at_71_44 : j_at 71 44 = some (.if_icmp .lt 5, 49, 0, 0) := by decide +kernel
theorem at_71_47 : j_at 71 47 = some (.iconst 0, 0, 0, 0) := by decide +kernel
theorem at_71_48 : j_at 71 48 = some (.ireturn, 0, 0, 0) := by decide +kernel
theorem at_71_49 : j_at 71 49 = some (.aload_n 0, 0, 0, 0) := by decide +kernel
theorem at_71_50 : j_at 71 50 = some (.getfield 22, 9, 7, 0) := by decide +kernel
theorem at_71_53 : j_at 71 53 = some (.aload_n 0, 0, 0, 0) := by decide +kernel
theorem at_71_54 : j_at 71 54 = some (.getfield 32, 9, 1, 0) := by decide +kernel
theorem at_71_57 : j_at 71 57 = some (.iconst 5, 0, 0, 5) := by decide +kernel
theorem at_71_58 : j_at 71 58 = some (.imul, 0, 0, 0) := by decide +kernel
theorem at_71_59 : j_at 71 59 = some (.iload_n 3, 0, 0, 0) := by decide +kernel
theorem at_71_60 : j_at 71 60 = some (.iadd, 0, 0, 0) := by decide +kernel
theorem at_71_61 : j_at 71 61 = some (.iaload, 0, 0, 0) := by decide +kernel
theorem at_71_62 : j_at 71 62 = some (.iload_n 1, 0, 0, 0) := by decide +kernel
theorem at_71_63 : j_at 71 63 = some (.ifCond .eq 8, 71, 0, 0) := by decide +kernel
theorem at_71_66 : j_at 71 66 = some (.iload_n 2, 0, 0, 0) := by decide +kernel
theorem at_71_67 : j_at 71 67 = some (.ineg, 0, 0, 0) := by decide +kernel
theorem at_71_68 : j_at 71 68 = some (.goto 4, 72, 0, 0) := by decide +kernel
theorem at_71_71 : j_at 71 71 = some (.iload_n 2, 0, 0, 0) := by decide +kernel
theorem at_71_72 : j_at 71 72 = some (.iadd, 0, 0, 0) := by decide +kernel
theorem at_71_73 : j_at 71 73 = some (.istore 4, 0, 0, 0) := by decide +kernel
theorem at_71_75 : j_at 71 75 = some (.iload 4, 0, 0, 0) := by decide +kernel
theorem at_71_77 : j_at 71 77 = some (.invokestatic 76, 140, 1, 0) := by decide +kernel
theorem at_71_80 : j_at 71 80 = some (.ifCond .ne 5, 85, 0, 0) := by decide +kernel
theorem at_71_83 : j_at 71 83 = some (.iconst 0, 0, 0, 0) := by decide +kernel
theorem at_71_84 : j_at 71 84 = some (.ireturn, 0, 0, 0) := by decide +kernel
theorem at_71_85 : j_at 71 85 = some (.aload_n 0, 0, 0, 0) := by decide +kernel
theorem at_71_86 : j_at 71 86 = some (.getfield 22, 9, 7, 0) := by decide +kernel
theorem at_71_89 : j_at 71 89 = some (.aload_n 0, 0, 0, 0) := by decide +kernel
theorem at_71_90 : j_at 71 90 = some (.getfield 32, 9, 1, 0) := by decide +kernel
theorem at_71_93 : j_at 71 93 = some (.iconst 5, 0, 0, 5) := by decide +kernel
theorem at_71_94 : j_at 71 94 = some (.imul, 0, 0, 0) := by decide +kernel
theorem at_71_95 : j_at 71 95 = some (.iload_n 3, 0, 0, 0) := by decide +kernel
theorem at_71_96 : j_at 71 96 = some (.iadd, 0, 0, 0) := by decide +kernel
theorem at_71_97 : j_at 71 97 = some (.iload 4, 0, 0, 0) := by decide +kernel
theorem at_71_99 : j_at 71 99 = some (.iastore, 0, 0, 0) := by decide +kernel
theorem at_71_100 : j_at 71 100 = some (.aload_n 0, 0, 0, 0) := by decide +kernel
theorem at_71_101 : j_at 71 101 = some (.dup, 0, 0, 0) := by decide +kernel
theorem at_71_102 : j_at 71 102 = some (.getfield 29, 9, 3, 0) := by decide +kernel
theorem at_71_105 : j_at 71 105 = some (.iconst 1, 0, 0, 1) := by decide +kernel
theorem at_71_106 : j_at 71 106 = some (.iadd, 0, 0, 0) := by decide +kernel
theorem at_71_107 : j_at 71 107 = some (.putfield 29, 9, 3, 0) := by decide +kernel
theorem at_71_110 : j_at 71 110 = some (.iconst 1, 0, 0, 1) := by decide +kernel
theorem at_71_111 : j_at 71 111 = some (.ireturn, 0, 0, 0) := by decide +kernel
theorem at_72_0 : j_at 72 0 = some (.iconst 0, 0, 0, 0) := by decide +kernel
theorem at_72_1 : j_at 72 1 = some (.istore_n 2, 0, 0, 0) := by decide +kernel
theorem at_72_2 : j_at 72 2 = some (.iconst 0, 0, 0, 0) := by decide +kernel
theorem at_72_3 : j_at 72 3 = some (.istore_n 3, 0, 0, 0) := by decide +kernel
theorem at_72_4 : j_at 72 4 = some (.iload_n 3, 0, 0, 0) := by decide +kernel
theorem at_72_5 : j_at 72 5 = some (.iconst 3, 0, 0, 3) := by decide +kernel
theorem at_72_6 : j_at 72 6 = some (.if_icmp .ge 52, 58, 0, 0) := by decide +kernel
theorem at_72_9 : j_at 72 9 = some (.aload_n 0, 0, 0, 0) := by decide +kernel
theorem at_72_10 : j_at 72 10 = some (.invokevirtual 73, 69, 0, 0) := by decide +kernel
theorem at_72_13 : j_at 72 13 = some (.ifCond .eq 45, 58, 0, 0) := by decide +kernel
theorem at_72_16 : j_at 72 16 = some (.iload_n 2, 0, 0, 0) := by decide +kernel
theorem at_72_17 : j_at 72 17 = some (.bipush 10, 0, 0, 10) := by decide +kernel
theorem at_72_19 : j_at 72 19 = some (.imul, 0, 0, 0) := by decide +kernel
theorem at_72_20 : j_at 72 20 = some (.aload_n 0, 0, 0, 0) := by decide +kernel
theorem at_72_21 : j_at 72 21 = some (.invokevirtual 62, 67, 0, 0) := by decide +kernel
theorem at_72_24 : j_at 72 24 = some (.iadd, 0, 0, 0) := by decide +kernel
theorem at_72_25 : j_at 72 25 = some (.bipush 48, 0, 0, 48) := by decide +kernel
theorem at_72_27 : j_at 72 27 = some (.isub, 0, 0, 0) := by decide +kernel
theorem at_72_28 : j_at 72 28 = some (.istore_n 2, 0, 0, 0) := by decide +kernel
theorem at_72_29 : j_at 72 29 = some (.iload_n 1, 0, 0, 0) := by decide +kernel
theorem at_72_30 : j_at 72 30 = some (.ifCond .eq 12, 42, 0, 0) := by decide +kernel
theorem at_72_33 : j_at 72 33 = some (.iload_n 2, 0, 0, 0) := by decide +kernel
theorem at_72_34 : j_at 72 34 = some (.ineg, 0, 0, 0) := by decide +kernel
theorem at_72_35 : j_at 72 35 = some (.bipush (-99), 0, 0, -99) := by decide +kernel
theorem at_72_37 : j_at 72 37 = some (.if_icmp .ge 5, 42, 0, 0) := by decide +kernel
theorem at_72_40 : j_at 72 40 = some (.iconst 0, 0, 0, 0) := by decide +kernel
theorem at_72_41 : j_at 72 41 = some (.ireturn, 0, 0, 0) := by decide +kernel
theorem at_72_42 : j_at 72 42 = some (.aload_n 0, 0, 0, 0) := by decide +kernel
theorem at_72_43 : j_at 72 43 = some (.dup, 0, 0, 0) := by decide +kernel
theorem at_72_44 : j_at 72 44 = some (.getfield 29, 9, 3, 0) := by decide +kernel
theorem at_72_47 : j_at 72 47 = some (.iconst 1, 0, 0, 1) := by decide +kernel
theorem at_72_48 : j_at 72 48 = some (.iadd, 0, 0, 0) := by decide +kernel
theorem at_72_49 : j_at 72 49 = some (.putfield 29, 9, 3, 0) := by decide +kernel
theorem at_72_52 : j_at 72 52 = some (.iinc 3 1, 0, 0, 0) := by decide +kernel
theorem at_72_55 : j_at 72 55 = some (.goto (-51), 4, 0, 0) := by decide +kernel
theorem at_72_58 : j_at 72 58 = some (.aload_n 0, 0, 0, 0) := by decide +kernel
theorem at_72_59 : j_at 72 59 = some (.getfield 19, 9, 6, 0) := by decide +kernel
theorem at_72_62 : j_at 72 62 = some (.aload_n 0, 0, 0, 0) := by decide +kernel
theorem at_72_63 : j_at 72 63 = some (.getfield 32, 9, 1, 0) := by decide +kernel
theorem at_72_66 : j_at 72 66 = some (.iload_n 1, 0, 0, 0) := by decide +kernel
theorem at_72_67 : j_at 72 67 = some (.ifCond .eq 8, 75, 0, 0) := by decide +kernel
theorem at_72_70 : j_at 72 70 = some (.iload_n 2, 0, 0, 0) := by decide +kernel
theorem at_72_71 : j_at 72 71 = some (.ineg, 0, 0, 0) := by decide +kernel
theorem at_72_72 : j_at 72 72 = some (.goto 4, 76, 0, 0) := by decide +kernel
theorem at_72_75 : j_at 72 75 = some (.iload_n 2, 0, 0, 0) := by decide +kernel
theorem at_72_76 : j_at 72 76 = some (.iastore, 0, 0, 0) := by decide +kernel
theorem at_72_77 : j_at 72 77 = some (.iload_n 3, 0, 0, 0) := by decide +kernel
theorem at_72_78 : j_at 72 78 = some (.ifCond .le 7, 85, 0, 0) := by decide +kernel
theorem at_72_81 : j_at 72 81 = some (.iconst 1, 0, 0, 1) := by decide +kernel
theorem at_72_82 : j_at 72 82 = some (.goto 4, 86, 0, 0) := by decide +kernel
theorem at_72_85 : j_at 72 85 = some (.iconst 0, 0, 0, 0) := by decide +kernel
theorem at_72_86 : j_at 72 86 = some (.ireturn, 0, 0, 0) := by decide +kernel
theorem at_88_0 : j_at 88 0 = some (.iload_n 1, 0, 0, 0) := by decide +kernel
theorem at_88_1 : j_at 88 1 = some (.iconst 1, 0, 0, 1) := by decide +kernel
theorem at_88_2 : j_at 88 2 = some (.if_icmp .lt 8, 10, 0, 0) := by decide +kernel
theorem at_88_5 : j_at 88 5 = some (.iload_n 1, 0, 0, 0) := by decide +kernel
theorem at_88_6 : j_at 88 6 = some (.iconst 5, 0, 0, 5) := by decide +kernel
theorem at_88_7 : j_at 88 7 = some (.if_icmp .le 6, 13, 0, 0) := by decide +kernel
theorem at_88_10 : j_at 88 10 = some (.bipush (-2), 0, 0, -2) := by decide +kernel
theorem at_88_12 : j_at 88 12 = some (.ireturn, 0, 0, 0) := by decide +kernel
theorem at_88_13 : j_at 88 13 = some (.aload_n 0, 0, 0, 0) := by decide +kernel
theorem at_88_14 : j_at 88 14 = some (.getfield 14, 12, 0, 0) := by decide +kernel
theorem at_88_17 : j_at 88 17 = some (.getfield 77, 6, 0, 0) := by decide +kernel
theorem at_88_20 : j_at 88 20 = some (.getfield 80, 3, 0, 0) := by decide +kernel
theorem at_88_23 : j_at 88 23 = some (.istore_n 2, 0, 0, 0) := by decide +kernel
theorem at_88_24 : j_at 88 24 = some (.aload_n 0, 0, 0, 0) := by decide +kernel
theorem at_88_25 : j_at 88 25 = some (.getfield 14, 12, 0, 0) := by decide +kernel
theorem at_88_28 : j_at 88 28 = some (.iload_n 1, 0, 0, 0) := by decide +kernel
theorem at_88_29 : j_at 88 29 = some (.invokevirtual 84, 33, 1, 0) := by decide +kernel
theorem at_88_32 : j_at 88 32 = some (.aload_n 0, 0, 0, 0) := by decide +kernel
theorem at_88_33 : j_at 88 33 = some (.iconst 0, 0, 0, 0) := by decide +kernel
theorem at_88_34 : j_at 88 34 = some (.putfield 88, 12, 11, 0) := by decide +kernel
theorem at_88_37 : j_at 88 37 = some (.iload_n 2, 0, 0, 0) := by decide +kernel
theorem at_88_38 : j_at 88 38 = some (.ireturn, 0, 0, 0) := by decide +kernel
theorem at_89_0 : j_at 89 0 = some (.aload_n 0, 0, 0, 0) := by decide +kernel
theorem at_89_1 : j_at 89 1 = some (.iload_n 1, 0, 0, 0) := by decide +kernel
theorem at_89_2 : j_at 89 2 = some (.invokevirtual 92, 135, 1, 0) := by decide +kernel
theorem at_89_5 : j_at 89 5 = some (.ifCond .ne 5, 10, 0, 0) := by decide +kernel
theorem at_89_8 : j_at 89 8 = some (.iconst (-1), 0, 0, -1) := by decide +kernel
theorem at_89_9 : j_at 89 9 = some (.ireturn, 0, 0, 0) := by decide +kernel
theorem at_89_10 : j_at 89 10 = some (.iload_n 2, 0, 0, 0) := by decide +kernel
theorem at_89_11 : j_at 89 11 = some (.ifCond .lt 9, 20, 0, 0) := by decide +kernel
theorem at_89_14 : j_at 89 14 = some (.iload_n 2, 0, 0, 0) := by decide +kernel
theorem at_89_15 : j_at 89 15 = some (.bipush 99, 0, 0, 99) := by decide +kernel
theorem at_89_17 : j_at 89 17 = some (.if_icmp .le 6, 23, 0, 0) := by decide +kernel
theorem at_89_20 : j_at 89 20 = some (.bipush (-2), 0, 0, -2) := by decide +kernel
theorem at_89_22 : j_at 89 22 = some (.ireturn, 0, 0, 0) := by decide +kernel
theorem at_89_23 : j_at 89 23 = some (.aload_n 0, 0, 0, 0) := by decide +kernel
theorem at_89_24 : j_at 89 24 = some (.getfield 14, 12, 0, 0) := by decide +kernel
theorem at_89_27 : j_at 89 27 = some (.getfield 77, 6, 0, 0) := by decide +kernel
theorem at_89_30 : j_at 89 30 = some (.getfield 96, 3, 2, 0) := by decide +kernel
theorem at_89_33 : j_at 89 33 = some (.iload_n 1, 0, 0, 0) := by decide +kernel
theorem at_89_34 : j_at 89 34 = some (.iaload, 0, 0, 0) := by decide +kernel
theorem at_89_35 : j_at 89 35 = some (.istore_n 3, 0, 0, 0) := by decide +kernel
theorem at_89_36 : j_at 89 36 = some (.aload_n 0, 0, 0, 0) := by decide +kernel
theorem at_89_37 : j_at 89 37 = some (.getfield 14, 12, 0, 0) := by decide +kernel
theorem at_89_40 : j_at 89 40 = some (.getfield 77, 6, 0, 0) := by decide +kernel
theorem at_89_43 : j_at 89 43 = some (.getfield 96, 3, 2, 0) := by decide +kernel
theorem at_89_46 : j_at 89 46 = some (.iload_n 1, 0, 0, 0) := by decide +kernel
theorem at_89_47 : j_at 89 47 = some (.iload_n 2, 0, 0, 0) := by decide +kernel
theorem at_89_48 : j_at 89 48 = some (.iastore, 0, 0, 0) := by decide +kernel
theorem at_89_49 : j_at 89 49 = some (.aload_n 0, 0, 0, 0) := by decide +kernel
theorem at_89_50 : j_at 89 50 = some (.getfield 14, 12, 0, 0) := by decide +kernel
theorem at_89_53 : j_at 89 53 = some (.getfield 100, 6, 1, 0) := by decide +kernel
theorem at_89_56 : j_at 89 56 = some (.invokevirtual 103, 22, 0, 0) := by decide +kernel
theorem at_89_59 : j_at 89 59 = some (.aload_n 0, 0, 0, 0) := by decide +kernel
theorem at_89_60 : j_at 89 60 = some (.iconst 0, 0, 0, 0) := by decide +kernel
theorem at_89_61 : j_at 89 61 = some (.putfield 88, 12, 11, 0) := by decide +kernel
theorem at_89_64 : j_at 89 64 = some (.iload_n 3, 0, 0, 0) := by decide +kernel
theorem at_89_65 : j_at 89 65 = some (.ireturn, 0, 0, 0) := by decide +kernel
theorem at_91_0 : j_at 91 0 = some (.aload_n 0, 0, 0, 0) := by decide +kernel
theorem at_91_1 : j_at 91 1 = some (.iload_n 1, 0, 0, 0) := by decide +kernel
theorem at_91_2 : j_at 91 2 = some (.invokevirtual 116, 136, 1, 0) := by decide +kernel
theorem at_91_5 : j_at 91 5 = some (.ifCond .eq 11, 16, 0, 0) := by decide +kernel
theorem at_91_8 : j_at 91 8 = some (.aload_n 0, 0, 0, 0) := by decide +kernel
theorem at_91_9 : j_at 91 9 = some (.iload_n 2, 0, 0, 0) := by decide +kernel
theorem at_91_10 : j_at 91 10 = some (.invokevirtual 92, 135, 1, 0) := by decide +kernel
theorem at_91_13 : j_at 91 13 = some (.ifCond .ne 5, 18, 0, 0) := by decide +kernel
theorem at_91_16 : j_at 91 16 = some (.iconst (-1), 0, 0, -1) := by decide +kernel
theorem at_91_17 : j_at 91 17 = some (.ireturn, 0, 0, 0) := by decide +kernel
theorem at_91_18 : j_at 91 18 = some (.iload_n 3, 0, 0, 0) := by decide +kernel
theorem at_91_19 : j_at 91 19 = some (.invokestatic 119, 140, 1, 0) := by decide +kernel
theorem at_91_22 : j_at 91 22 = some (.ifCond .ne 6, 28, 0, 0) := by decide +kernel
theorem at_91_25 : j_at 91 25 = some (.bipush (-2), 0, 0, -2) := by decide +kernel
theorem at_91_27 : j_at 91 27 = some (.ireturn, 0, 0, 0) := by decide +kernel
theorem at_91_28 : j_at 91 28 = some (.aload_n 0, 0, 0, 0) := by decide +kernel
theorem at_91_29 : j_at 91 29 = some (.getfield 14, 12, 0, 0) := by decide +kernel
theorem at_91_32 : j_at 91 32 = some (.getfield 77, 6, 0, 0) := by decide +kernel
theorem at_91_35 : j_at 91 35 = some (.iload_n 1, 0, 0, 0) := by decide +kernel
theorem at_91_36 : j_at 91 36 = some (.iload_n 2, 0, 0, 0) := by decide +kernel
theorem at_91_37 : j_at 91 37 = some (.invokevirtual 122, 11, 2, 0) := by decide +kernel
theorem at_91_40 : j_at 91 40 = some (.istore 4, 0, 0, 0) := by decide +kernel
theorem at_91_42 : j_at 91 42 = some (.aload_n 0, 0, 0, 0) := by decide +kernel
theorem at_91_43 : j_at 91 43 = some (.getfield 14, 12, 0, 0) := by decide +kernel
theorem at_91_46 : j_at 91 46 = some (.getfield 77, 6, 0, 0) := by decide +kernel
theorem at_91_49 : j_at 91 49 = some (.iload_n 1, 0, 0, 0) := by decide +kernel
theorem at_91_50 : j_at 91 50 = some (.iload_n 2, 0, 0, 0) := by decide +kernel
theorem at_91_51 : j_at 91 51 = some (.iload_n 3, 0, 0, 0) := by decide +kernel
theorem at_91_52 : j_at 91 52 = some (.invokevirtual 126, 12, 3, 0) := by decide +kernel
theorem at_91_55 : j_at 91 55 = some (.aload_n 0, 0, 0, 0) := by decide +kernel
theorem at_91_56 : j_at 91 56 = some (.iconst 0, 0, 0, 0) := by decide +kernel
theorem at_91_57 : j_at 91 57 = some (.putfield 88, 12, 11, 0) := by decide +kernel
theorem at_91_60 : j_at 91 60 = some (.iload 4, 0, 0, 0) := by decide +kernel
theorem at_91_62 : j_at 91 62 = some (.bipush 100, 0, 0, 100) := by decide +kernel
theorem at_91_64 : j_at 91 64 = some (.iadd, 0, 0, 0) := by decide +kernel
theorem at_91_65 : j_at 91 65 = some (.ireturn, 0, 0, 0) := by decide +kernel
theorem at_92_0 : j_at 92 0 = some (.aload_n 0, 0, 0, 0) := by decide +kernel
theorem at_92_1 : j_at 92 1 = some (.iload_n 1, 0, 0, 0) := by decide +kernel
theorem at_92_2 : j_at 92 2 = some (.invokevirtual 116, 136, 1, 0) := by decide +kernel
theorem at_92_5 : j_at 92 5 = some (.ifCond .ne 5, 10, 0, 0) := by decide +kernel
theorem at_92_8 : j_at 92 8 = some (.iconst (-1), 0, 0, -1) := by decide +kernel
theorem at_92_9 : j_at 92 9 = some (.ireturn, 0, 0, 0) := by decide +kernel
theorem at_92_10 : j_at 92 10 = some (.iload_n 2, 0, 0, 0) := by decide +kernel
theorem at_92_11 : j_at 92 11 = some (.invokestatic 106, 139, 1, 0) := by decide +kernel
theorem at_92_14 : j_at 92 14 = some (.ifCond .ne 6, 20, 0, 0) := by decide +kernel
theorem at_92_17 : j_at 92 17 = some (.bipush (-2), 0, 0, -2) := by decide +kernel
theorem at_92_19 : j_at 92 19 = some (.ireturn, 0, 0, 0) := by decide +kernel
theorem at_92_20 : j_at 92 20 = some (.aload_n 0, 0, 0, 0) := by decide +kernel
theorem at_92_21 : j_at 92 21 = some (.getfield 14, 12, 0, 0) := by decide +kernel
theorem at_92_24 : j_at 92 24 = some (.getfield 77, 6, 0, 0) := by decide +kernel
theorem at_92_27 : j_at 92 27 = some (.getfield 130, 3, 4, 0) := by decide +kernel
theorem at_92_30 : j_at 92 30 = some (.iload_n 1, 0, 0, 0) := by decide +kernel
theorem at_92_31 : j_at 92 31 = some (.iaload, 0, 0, 0) := by decide +kernel
theorem at_92_32 : j_at 92 32 = some (.istore_n 3, 0, 0, 0) := by decide +kernel
theorem at_92_33 : j_at 92 33 = some (.aload_n 0, 0, 0, 0) := by decide +kernel
theorem at_92_34 : j_at 92 34 = some (.getfield 14, 12, 0, 0) := by decide +kernel
theorem at_92_37 : j_at 92 37 = some (.getfield 77, 6, 0, 0) := by decide +kernel
theorem at_92_40 : j_at 92 40 = some (.getfield 130, 3, 4, 0) := by decide +kernel
theorem at_92_43 : j_at 92 43 = some (.iload_n 1, 0, 0, 0) := by decide +kernel
theorem at_92_44 : j_at 92 44 = some (.iload_n 2, 0, 0, 0) := by decide +kernel
theorem at_92_45 : j_at 92 45 = some (.iastore, 0, 0, 0) := by decide +kernel
theorem at_92_46 : j_at 92 46 = some (.aload_n 0, 0, 0, 0) := by decide +kernel
theorem at_92_47 : j_at 92 47 = some (.iconst 0, 0, 0, 0) := by decide +kernel
theorem at_92_48 : j_at 92 48 = some (.putfield 88, 12, 11, 0) := by decide +kernel
theorem at_92_51 : j_at 92 51 = some (.iload_n 3, 0, 0, 0) := by decide +kernel
theorem at_92_52 : j_at 92 52 = some (.sipush 1000, 0, 0, 1000) := by decide +kernel
theorem at_92_55 : j_at 92 55 = some (.iadd, 0, 0, 0) := by decide +kernel
theorem at_92_56 : j_at 92 56 = some (.ireturn, 0, 0, 0) := by decide +kernel
theorem at_93_0 : j_at 93 0 = some (.aload_n 0, 0, 0, 0) := by decide +kernel
theorem at_93_1 : j_at 93 1 = some (.getfield 14, 12, 0, 0) := by decide +kernel
theorem at_93_4 : j_at 93 4 = some (.getfield 77, 6, 0, 0) := by decide +kernel
theorem at_93_7 : j_at 93 7 = some (.getfield 109, 3, 1, 0) := by decide +kernel
theorem at_93_10 : j_at 93 10 = some (.ifCond .gt 6, 16, 0, 0) := by decide +kernel
theorem at_93_13 : j_at 93 13 = some (.bipush (-3), 0, 0, -3) := by decide +kernel
theorem at_93_15 : j_at 93 15 = some (.ireturn, 0, 0, 0) := by decide +kernel
theorem at_93_16 : j_at 93 16 = some (.aload_n 0, 0, 0, 0) := by decide +kernel
theorem at_93_17 : j_at 93 17 = some (.getfield 14, 12, 0, 0) := by decide +kernel
theorem at_93_20 : j_at 93 20 = some (.getfield 77, 6, 0, 0) := by decide +kernel
theorem at_93_23 : j_at 93 23 = some (.dup, 0, 0, 0) := by decide +kernel
theorem at_93_24 : j_at 93 24 = some (.getfield 109, 3, 1, 0) := by decide +kernel
theorem at_93_27 : j_at 93 27 = some (.iconst 1, 0, 0, 1) := by decide +kernel
theorem at_93_28 : j_at 93 28 = some (.isub, 0, 0, 0) := by decide +kernel
theorem at_93_29 : j_at 93 29 = some (.putfield 109, 3, 1, 0) := by decide +kernel
theorem at_93_32 : j_at 93 32 = some (.aload_n 0, 0, 0, 0) := by decide +kernel
theorem at_93_33 : j_at 93 33 = some (.getfield 14, 12, 0, 0) := by decide +kernel
theorem at_93_36 : j_at 93 36 = some (.getfield 133, 6, 2, 0) := by decide +kernel
theorem at_93_39 : j_at 93 39 = some (.aload_n 0, 0, 0, 0) := by decide +kernel
theorem at_93_40 : j_at 93 40 = some (.getfield 14, 12, 0, 0) := by decide +kernel
theorem at_93_43 : j_at 93 43 = some (.getfield 77, 6, 0, 0) := by decide +kernel
theorem at_93_46 : j_at 93 46 = some (.getfield 109, 3, 1, 0) := by decide +kernel
theorem at_93_49 : j_at 93 49 = some (.iconst 0, 0, 0, 0) := by decide +kernel
theorem at_93_50 : j_at 93 50 = some (.iastore, 0, 0, 0) := by decide +kernel
theorem at_93_51 : j_at 93 51 = some (.aload_n 0, 0, 0, 0) := by decide +kernel
theorem at_93_52 : j_at 93 52 = some (.iconst 0, 0, 0, 0) := by decide +kernel
theorem at_93_53 : j_at 93 53 = some (.putfield 88, 12, 11, 0) := by decide +kernel
theorem at_93_56 : j_at 93 56 = some (.aload_n 0, 0, 0, 0) := by decide +kernel
theorem at_93_57 : j_at 93 57 = some (.getfield 14, 12, 0, 0) := by decide +kernel
theorem at_93_60 : j_at 93 60 = some (.getfield 77, 6, 0, 0) := by decide +kernel
theorem at_93_63 : j_at 93 63 = some (.getfield 109, 3, 1, 0) := by decide +kernel
theorem at_93_66 : j_at 93 66 = some (.ireturn, 0, 0, 0) := by decide +kernel
theorem at_94_0 : j_at 94 0 = some (.iload_n 1, 0, 0, 0) := by decide +kernel
theorem at_94_1 : j_at 94 1 = some (.ifCond .lt 9, 10, 0, 0) := by decide +kernel
theorem at_94_4 : j_at 94 4 = some (.iload_n 1, 0, 0, 0) := by decide +kernel
theorem at_94_5 : j_at 94 5 = some (.bipush 127, 0, 0, 127) := by decide +kernel
theorem at_94_7 : j_at 94 7 = some (.if_icmp .le 6, 13, 0, 0) := by decide +kernel
theorem at_94_10 : j_at 94 10 = some (.bipush (-2), 0, 0, -2) := by decide +kernel
theorem at_94_12 : j_at 94 12 = some (.ireturn, 0, 0, 0) := by decide +kernel
theorem at_94_13 : j_at 94 13 = some (.aload_n 0, 0, 0, 0) := by decide +kernel
theorem at_94_14 : j_at 94 14 = some (.getfield 62, 12, 8, 0) := by decide +kernel
theorem at_94_17 : j_at 94 17 = some (.getfield 136, 9, 0, 0) := by decide +kernel
theorem at_94_20 : j_at 94 20 = some (.bipush 80, 0, 0, 80) := by decide +kernel
theorem at_94_22 : j_at 94 22 = some (.if_icmp .lt 6, 28, 0, 0) := by decide +kernel
theorem at_94_25 : j_at 94 25 = some (.bipush (-4), 0, 0, -4) := by decide +kernel
theorem at_94_27 : j_at 94 27 = some (.ireturn, 0, 0, 0) := by decide +kernel
theorem at_94_28 : j_at 94 28 = some (.aload_n 0, 0, 0, 0) := by decide +kernel
theorem at_94_29 : j_at 94 29 = some (.getfield 62, 12, 8, 0) := by decide +kernel
theorem at_94_32 : j_at 94 32 = some (.getfield 139, 9, 2, 0) := by decide +kernel
theorem at_94_35 : j_at 94 35 = some (.aload_n 0, 0, 0, 0) := by decide +kernel
theorem at_94_36 : j_at 94 36 = some (.getfield 62, 12, 8, 0) := by decide +kernel
theorem at_94_39 : j_at 94 39 = some (.getfield 136, 9, 0, 0) := by decide +kernel
theorem at_94_42 : j_at 94 42 = some (.iload_n 1, 0, 0, 0) := by decide +kernel
theorem at_94_43 : j_at 94 43 = some (.i2b, 0, 0, 0) := by decide +kernel
theorem at_94_44 : j_at 94 44 = some (.bastore, 0, 0, 0) := by decide +kernel
theorem at_94_45 : j_at 94 45 = some (.aload_n 0, 0, 0, 0) := by decide +kernel
theorem at_94_46 : j_at 94 46 = some (.getfield 62, 12, 8, 0) := by decide +kernel
theorem at_94_49 : j_at 94 49 = some (.dup, 0, 0, 0) := by decide +kernel
theorem at_94_50 : j_at 94 50 = some (.getfield 136, 9, 0, 0) := by decide +kernel
theorem at_94_53 : j_at 94 53 = some (.iconst 1, 0, 0, 1) := by decide +kernel
theorem at_94_54 : j_at 94 54 = some (.iadd, 0, 0, 0) := by decide +kernel
theorem at_94_55 : j_at 94 55 = some (.putfield 136, 9, 0, 0) := by decide +kernel
theorem at_94_58 : j_at 94 58 = some (.aload_n 0, 0, 0, 0) := by decide +kernel
theorem at_94_59 : j_at 94 59 = some (.getfield 62, 12, 8, 0) := by decide +kernel
theorem at_94_62 : j_at 94 62 = some (.getfield 136, 9, 0, 0) := by decide +kernel
theorem at_94_65 : j_at 94 65 = some (.ireturn, 0, 0, 0) := by decide +kernel
theorem at_95_0 : j_at 95 0 = some (.aload_n 0, 0, 0, 0) := by decide +kernel
theorem at_95_1 : j_at 95 1 = some (.getfield 62, 12, 8, 0) := by decide +kernel
theorem at_95_4 : j_at 95 4 = some (.aload_n 0, 0, 0, 0) := by decide +kernel
theorem at_95_5 : j_at 95 5 = some (.getfield 14, 12, 0, 0) := by decide +kernel
theorem at_95_8 : j_at 95 8 = some (.getfield 77, 6, 0, 0) := by decide +kernel
theorem at_95_11 : j_at 95 11 = some (.getfield 80, 3, 0, 0) := by decide +kernel
theorem at_95_14 : j_at 95 14 = some (.invokevirtual 143, 65, 1, 0) := by decide +kernel
theorem at_95_17 : j_at 95 17 = some (.istore_n 1, 0, 0, 0) := by decide +kernel
theorem at_95_18 : j_at 95 18 = some (.aload_n 0, 0, 0, 0) := by decide +kernel
theorem at_95_19 : j_at 95 19 = some (.getfield 62, 12, 8, 0) := by decide +kernel
theorem at_95_22 : j_at 95 22 = some (.iconst 0, 0, 0, 0) := by decide +kernel
theorem at_95_23 : j_at 95 23 = some (.putfield 136, 9, 0, 0) := by decide +kernel
theorem at_95_26 : j_at 95 26 = some (.iload_n 1, 0, 0, 0) := by decide +kernel
theorem at_95_27 : j_at 95 27 = some (.ifCond .lt 8, 35, 0, 0) := by decide +kernel
theorem at_95_30 : j_at 95 30 = some (.bipush (-10), 0, 0, -10) := by decide +kernel
theorem at_95_32 : j_at 95 32 = some (.iload_n 1, 0, 0, 0) := by decide +kernel
theorem at_95_33 : j_at 95 33 = some (.isub, 0, 0, 0) := by decide +kernel
theorem at_95_34 : j_at 95 34 = some (.ireturn, 0, 0, 0) := by decide +kernel
theorem at_95_35 : j_at 95 35 = some (.aload_n 0, 0, 0, 0) := by decide +kernel
theorem at_95_36 : j_at 95 36 = some (.getfield 14, 12, 0, 0) := by decide +kernel
theorem at_95_39 : j_at 95 39 = some (.getfield 77, 6, 0, 0) := by decide +kernel
theorem at_95_42 : j_at 95 42 = some (.getfield 109, 3, 1, 0) := by decide +kernel
theorem at_95_45 : j_at 95 45 = some (.aload_n 0, 0, 0, 0) := by decide +kernel
theorem at_95_46 : j_at 95 46 = some (.getfield 62, 12, 8, 0) := by decide +kernel
theorem at_95_49 : j_at 95 49 = some (.getfield 147, 9, 1, 0) := by decide +kernel
theorem at_95_52 : j_at 95 52 = some (.iadd, 0, 0, 0) := by decide +kernel
theorem at_95_53 : j_at 95 53 = some (.bipush 8, 0, 0, 8) := by decide +kernel
theorem at_95_55 : j_at 95 55 = some (.if_icmp .le 6, 61, 0, 0) := by decide +kernel
theorem at_95_58 : j_at 95 58 = some (.bipush (-4), 0, 0, -4) := by decide +kernel
theorem at_95_60 : j_at 95 60 = some (.ireturn, 0, 0, 0) := by decide +kernel
theorem at_95_61 : j_at 95 61 = some (.aload_n 0, 0, 0, 0) := by decide +kernel
theorem at_95_62 : j_at 95 62 = some (.getfield 62, 12, 8, 0) := by decide +kernel
theorem at_95_65 : j_at 95 65 = some (.aload_n 0, 0, 0, 0) := by decide +kernel
theorem at_95_66 : j_at 95 66 = some (.getfield 14, 12, 0, 0) := by decide +kernel
theorem at_95_69 : j_at 95 69 = some (.getfield 77, 6, 0, 0) := by decide +kernel
theorem at_95_72 : j_at 95 72 = some (.invokevirtual 150, 66, 1, 0) := by decide +kernel
theorem at_95_75 : j_at 95 75 = some (.aload_n 0, 0, 0, 0) := by decide +kernel
theorem at_95_76 : j_at 95 76 = some (.iconst 0, 0, 0, 0) := by decide +kernel
theorem at_95_77 : j_at 95 77 = some (.putfield 88, 12, 11, 0) := by decide +kernel
theorem at_95_80 : j_at 95 80 = some (.aload_n 0, 0, 0, 0) := by decide +kernel
theorem at_95_81 : j_at 95 81 = some (.getfield 62, 12, 8, 0) := by decide +kernel
theorem at_95_84 : j_at 95 84 = some (.getfield 147, 9, 1, 0) := by decide +kernel
theorem at_95_87 : j_at 95 87 = some (.ireturn, 0, 0, 0) := by decide +kernel
theorem at_96_0 : j_at 96 0 = some (.aload_n 0, 0, 0, 0) := by decide +kernel
theorem at_96_1 : j_at 96 1 = some (.iload_n 1, 0, 0, 0) := by decide +kernel
theorem at_96_2 : j_at 96 2 = some (.invokevirtual 116, 136, 1, 0) := by decide +kernel
theorem at_96_5 : j_at 96 5 = some (.ifCond .eq 23, 28, 0, 0) := by decide +kernel
theorem at_96_8 : j_at 96 8 = some (.iload_n 2, 0, 0, 0) := by decide +kernel
theorem at_96_9 : j_at 96 9 = some (.ifCond .lt 19, 28, 0, 0) := by decide +kernel
theorem at_96_12 : j_at 96 12 = some (.iload_n 2, 0, 0, 0) := by decide +kernel
theorem at_96_13 : j_at 96 13 = some (.aload_n 0, 0, 0, 0) := by decide +kernel
theorem at_96_14 : j_at 96 14 = some (.getfield 14, 12, 0, 0) := by decide +kernel
theorem at_96_17 : j_at 96 17 = some (.getfield 77, 6, 0, 0) := by decide +kernel
theorem at_96_20 : j_at 96 20 = some (.getfield 80, 3, 0, 0) := by decide +kernel
theorem at_96_23 : j_at 96 23 = some (.iconst 1, 0, 0, 1) := by decide +kernel
theorem at_96_24 : j_at 96 24 = some (.iadd, 0, 0, 0) := by decide +kernel
theorem at_96_25 : j_at 96 25 = some (.if_icmp .le 5, 30, 0, 0) := by decide +kernel
theorem at_96_28 : j_at 96 28 = some (.iconst (-1), 0, 0, -1) := by decide +kernel
theorem at_96_29 : j_at 96 29 = some (.ireturn, 0, 0, 0) := by decide +kernel
theorem at_96_30 : j_at 96 30 = some (.iload_n 2, 0, 0, 0) := by decide +kernel
theorem at_96_31 : j_at 96 31 = some (.ifCond .ne 20, 51, 0, 0) := by decide +kernel
theorem at_96_34 : j_at 96 34 = some (.aload_n 0, 0, 0, 0) := by decide +kernel
theorem at_96_35 : j_at 96 35 = some (.getfield 14, 12, 0, 0) := by decide +kernel
theorem at_96_38 : j_at 96 38 = some (.getfield 77, 6, 0, 0) := by decide +kernel
theorem at_96_41 : j_at 96 41 = some (.getfield 154, 3, 3, 0) := by decide +kernel
theorem at_96_44 : j_at 96 44 = some (.iload_n 1, 0, 0, 0) := by decide +kernel
theorem at_96_45 : j_at 96 45 = some (.iaload, 0, 0, 0) := by decide +kernel
theorem at_96_46 : j_at 96 46 = some (.sipush 1000, 0, 0, 1000) := by decide +kernel
theorem at_96_49 : j_at 96 49 = some (.iadd, 0, 0, 0) := by decide +kernel
theorem at_96_50 : j_at 96 50 = some (.ireturn, 0, 0, 0) := by decide +kernel
theorem at_96_51 : j_at 96 51 = some (.iload_n 2, 0, 0, 0) := by decide +kernel
theorem at_96_52 : j_at 96 52 = some (.iconst 1, 0, 0, 1) := by decide +kernel
theorem at_96_53 : j_at 96 53 = some (.if_icmp .ne 20, 73, 0, 0) := by decide +kernel
theorem at_96_56 : j_at 96 56 = some (.aload_n 0, 0, 0, 0) := by decide +kernel
theorem at_96_57 : j_at 96 57 = some (.getfield 14, 12, 0, 0) := by decide +kernel
theorem at_96_60 : j_at 96 60 = some (.getfield 77, 6, 0, 0) := by decide +kernel
theorem at_96_63 : j_at 96 63 = some (.getfield 130, 3, 4, 0) := by decide +kernel
theorem at_96_66 : j_at 96 66 = some (.iload_n 1, 0, 0, 0) := by decide +kernel
theorem at_96_67 : j_at 96 67 = some (.iaload, 0, 0, 0) := by decide +kernel
theorem at_96_68 : j_at 96 68 = some (.sipush 1000, 0, 0, 1000) := by decide +kernel
theorem at_96_71 : j_at 96 71 = some (.iadd, 0, 0, 0) := by decide +kernel
theorem at_96_72 : j_at 96 72 = some (.ireturn, 0, 0, 0) := by decide +kernel
theorem at_96_73 : j_at 96 73 = some (.aload_n 0, 0, 0, 0) := by decide +kernel
theorem at_96_74 : j_at 96 74 = some (.getfield 14, 12, 0, 0) := by decide +kernel
theorem at_96_77 : j_at 96 77 = some (.getfield 77, 6, 0, 0) := by decide +kernel
theorem at_96_80 : j_at 96 80 = some (.iload_n 1, 0, 0, 0) := by decide +kernel
theorem at_96_81 : j_at 96 81 = some (.iload_n 2, 0, 0, 0) := by decide +kernel
theorem at_96_82 : j_at 96 82 = some (.iconst 2, 0, 0, 2) := by decide +kernel
theorem at_96_83 : j_at 96 83 = some (.isub, 0, 0, 0) := by decide +kernel
theorem at_96_84 : j_at 96 84 = some (.invokevirtual 122, 11, 2, 0) := by decide +kernel
theorem at_96_87 : j_at 96 87 = some (.sipush 1000, 0, 0, 1000) := by decide +kernel
theorem at_96_90 : j_at 96 90 = some (.iadd, 0, 0, 0) := by decide +kernel
theorem at_96_91 : j_at 96 91 = some (.ireturn, 0, 0, 0) := by decide +kernel
theorem at_97_0 : j_at 97 0 = some (.iload_n 1, 0, 0, 0) := by decide +kernel
theorem at_97_1 : j_at 97 1 = some (.ifCond .lt 9, 10, 0, 0) := by decide +kernel
theorem at_97_4 : j_at 97 4 = some (.iload_n 1, 0, 0, 0) := by decide +kernel
theorem at_97_5 : j_at 97 5 = some (.bipush 12, 0, 0, 12) := by decide +kernel
theorem at_97_7 : j_at 97 7 = some (.if_icmp .le 6, 13, 0, 0) := by decide +kernel
theorem at_97_10 : j_at 97 10 = some (.bipush (-2), 0, 0, -2) := by decide +kernel
theorem at_97_12 : j_at 97 12 = some (.ireturn, 0, 0, 0) := by decide +kernel
theorem at_97_13 : j_at 97 13 = some (.aload_n 0, 0, 0, 0) := by decide +kernel
theorem at_97_14 : j_at 97 14 = some (.iconst 1, 0, 0, 1) := by decide +kernel
theorem at_97_15 : j_at 97 15 = some (.putfield 88, 12, 11, 0) := by decide +kernel
theorem at_97_18 : j_at 97 18 = some (.aload_n 0, 0, 0, 0) := by decide +kernel
theorem at_97_19 : j_at 97 19 = some (.getfield 31, 12, 3, 0) := by decide +kernel
theorem at_97_22 : j_at 97 22 = some (.aload_n 0, 0, 0, 0) := by decide +kernel
theorem at_97_23 : j_at 97 23 = some (.getfield 14, 12, 0, 0) := by decide +kernel
theorem at_97_26 : j_at 97 26 = some (.getfield 77, 6, 0, 0) := by decide +kernel
theorem at_97_29 : j_at 97 29 = some (.iload_n 1, 0, 0, 0) := by decide +kernel
theorem at_97_30 : j_at 97 30 = some (.invokevirtual 157, 29, 2, 0) := by decide +kernel
theorem at_97_33 : j_at 97 33 = some (.ireturn, 0, 0, 0) := by decide +kernel
theorem at_99_0 : j_at 99 0 = some (.aload_n 0, 0, 0, 0) := by decide +kernel
theorem at_99_1 : j_at 99 1 = some (.getfield 88, 12, 11, 0) := by decide +kernel
theorem at_99_4 : j_at 99 4 = some (.ifCond .eq 18, 22, 0, 0) := by decide +kernel
theorem at_99_7 : j_at 99 7 = some (.aload_n 0, 0, 0, 0) := by decide +kernel
theorem at_99_8 : j_at 99 8 = some (.iload_n 1, 0, 0, 0) := by decide +kernel
theorem at_99_9 : j_at 99 9 = some (.invokevirtual 92, 135, 1, 0) := by decide +kernel
theorem at_99_12 : j_at 99 12 = some (.ifCond .eq 10, 22, 0, 0) := by decide +kernel
theorem at_99_15 : j_at 99 15 = some (.iload_n 2, 0, 0, 0) := by decide +kernel
theorem at_99_16 : j_at 99 16 = some (.invokestatic 183, 141, 1, 0) := by decide +kernel
theorem at_99_19 : j_at 99 19 = some (.ifCond .ne 7, 26, 0, 0) := by decide +kernel
theorem at_99_22 : j_at 99 22 = some (.ldc2_w 170, 0, 0, -9223372036854775808) := by decide +kernel
theorem at_99_25 : j_at 99 25 = some (.lreturn, 0, 0, 0) := by decide +kernel
theorem at_99_26 : j_at 99 26 = some (.aload_n 0, 0, 0, 0) := by decide +kernel
theorem at_99_27 : j_at 99 27 = some (.getfield 31, 12, 3, 0) := by decide +kernel
theorem at_99_30 : j_at 99 30 = some (.getfield 161, 5, 0, 0) := by decide +kernel
theorem at_99_33 : j_at 99 33 = some (.iload_n 1, 0, 0, 0) := by decide +kernel
theorem at_99_34 : j_at 99 34 = some (.invokevirtual 186, 53, 1, 0) := by decide +kernel
theorem at_99_37 : j_at 99 37 = some (.aload_n 0, 0, 0, 0) := by decide +kernel
theorem at_99_38 : j_at 99 38 = some (.getfield 31, 12, 3, 0) := by decide +kernel
theorem at_99_41 : j_at 99 41 = some (.getfield 161, 5, 0, 0) := by decide +kernel
theorem at_99_44 : j_at 99 44 = some (.getfield 189, 7, 4, 0) := by decide +kernel
theorem at_99_47 : j_at 99 47 = some (.iload_n 2, 0, 0, 0) := by decide +kernel
theorem at_99_48 : j_at 99 48 = some (.invokestatic 193, 146, 3, 0) := by decide +kernel
theorem at_99_51 : j_at 99 51 = some (.lreturn, 0, 0, 0) := by decide +kernel
theorem at_115_0 : j_at 115 0 = some (.aload_n 0, 0, 0, 0) := by decide +kernel
theorem at_115_1 : j_at 115 1 = some (.iload_n 1, 0, 0, 0) := by decide +kernel
theorem at_115_2 : j_at 115 2 = some (.invokevirtual 116, 136, 1, 0) := by decide +kernel
theorem at_115_5 : j_at 115 5 = some (.ifCond .ne 5, 10, 0, 0) := by decide +kernel
theorem at_115_8 : j_at 115 8 = some (.iconst (-1), 0, 0, -1) := by decide +kernel
theorem at_115_9 : j_at 115 9 = some (.ireturn, 0, 0, 0) := by decide +kernel
theorem at_115_10 : j_at 115 10 = some (.iload_n 2, 0, 0, 0) := by decide +kernel
theorem at_115_11 : j_at 115 11 = some (.invokestatic 106, 139, 1, 0) := by decide +kernel
theorem at_115_14 : j_at 115 14 = some (.ifCond .ne 6, 20, 0, 0) := by decide +kernel
theorem at_115_17 : j_at 115 17 = some (.bipush (-2), 0, 0, -2) := by decide +kernel
theorem at_115_19 : j_at 115 19 = some (.ireturn, 0, 0, 0) := by decide +kernel
theorem at_115_20 : j_at 115 20 = some (.aload_n 0, 0, 0, 0) := by decide +kernel
theorem at_115_21 : j_at 115 21 = some (.getfield 24, 12, 2, 0) := by decide +kernel
theorem at_115_24 : j_at 115 24 = some (.aload_n 0, 0, 0, 0) := by decide +kernel
theorem at_115_25 : j_at 115 25 = some (.getfield 14, 12, 0, 0) := by decide +kernel
theorem at_115_28 : j_at 115 28 = some (.getfield 77, 6, 0, 0) := by decide +kernel
theorem at_115_31 : j_at 115 31 = some (.invokevirtual 294, 8, 1, 0) := by decide +kernel
theorem at_115_34 : j_at 115 34 = some (.aload_n 0, 0, 0, 0) := by decide +kernel
theorem at_115_35 : j_at 115 35 = some (.getfield 24, 12, 2, 0) := by decide +kernel
theorem at_115_38 : j_at 115 38 = some (.getfield 130, 3, 4, 0) := by decide +kernel
theorem at_115_41 : j_at 115 41 = some (.iload_n 1, 0, 0, 0) := by decide +kernel
theorem at_115_42 : j_at 115 42 = some (.iload_n 2, 0, 0, 0) := by decide +kernel
theorem at_115_43 : j_at 115 43 = some (.iastore, 0, 0, 0) := by decide +kernel
theorem at_115_44 : j_at 115 44 = some (.aload_n 0, 0, 0, 0) := by decide +kernel
theorem at_115_45 : j_at 115 45 = some (.getfield 35, 12, 4, 0) := by decide +kernel
theorem at_115_48 : j_at 115 48 = some (.aload_n 0, 0, 0, 0) := by decide +kernel
theorem at_115_49 : j_at 115 49 = some (.getfield 24, 12, 2, 0) := by decide +kernel
theorem at_115_52 : j_at 115 52 = some (.invokevirtual 297, 30, 1, 0) := by decide +kernel
theorem at_115_55 : j_at 115 55 = some (.ireturn, 0, 0, 0) := by decide +kernel
theorem at_116_0 : j_at 116 0 = some (.iload_n 1, 0, 0, 0) := by decide +kernel
theorem at_116_1 : j_at 116 1 = some (.iconst (-1), 0, 0, -1) := by decide +kernel
theorem at_116_2 : j_at 116 2 = some (.if_icmp .ne 13, 15, 0, 0) := by decide +kernel
theorem at_116_5 : j_at 116 5 = some (.aload_n 0, 0, 0, 0) := by decide +kernel
theorem at_116_6 : j_at 116 6 = some (.getfield 14, 12, 0, 0) := by decide +kernel
theorem at_116_9 : j_at 116 9 = some (.iconst 0, 0, 0, 0) := by decide +kernel
theorem at_116_10 : j_at 116 10 = some (.putfield 300, 6, 5, 0) := by decide +kernel
theorem at_116_13 : j_at 116 13 = some (.iconst 0, 0, 0, 0) := by decide +kernel
theorem at_116_14 : j_at 116 14 = some (.ireturn, 0, 0, 0) := by decide +kernel
theorem at_116_15 : j_at 116 15 = some (.aload_n 0, 0, 0, 0) := by decide +kernel
theorem at_116_16 : j_at 116 16 = some (.iload_n 1, 0, 0, 0) := by decide +kernel
theorem at_116_17 : j_at 116 17 = some (.invokevirtual 92, 135, 1, 0) := by decide +kernel
theorem at_116_20 : j_at 116 20 = some (.ifCond .ne 5, 25, 0, 0) := by decide +kernel
theorem at_116_23 : j_at 116 23 = some (.iconst (-1), 0, 0, -1) := by decide +kernel
theorem at_116_24 : j_at 116 24 = some (.ireturn, 0, 0, 0) := by decide +kernel
theorem at_116_25 : j_at 116 25 = some (.iload_n 2, 0, 0, 0) := by decide +kernel
theorem at_116_26 : j_at 116 26 = some (.ifCond .lt 10, 36, 0, 0) := by decide +kernel
theorem at_116_29 : j_at 116 29 = some (.iload_n 2, 0, 0, 0) := by decide +kernel
theorem at_116_30 : j_at 116 30 = some (.sipush 999, 0, 0, 999) := by decide +kernel
theorem at_116_33 : j_at 116 33 = some (.if_icmp .le 6, 39, 0, 0) := by decide +kernel
theorem at_116_36 : j_at 116 36 = some (.bipush (-2), 0, 0, -2) := by decide +kernel
theorem at_116_38 : j_at 116 38 = some (.ireturn, 0, 0, 0) := by decide +kernel
theorem at_116_39 : j_at 116 39 = some (.aload_n 0, 0, 0, 0) := by decide +kernel
theorem at_116_40 : j_at 116 40 = some (.getfield 14, 12, 0, 0) := by decide +kernel
theorem at_116_43 : j_at 116 43 = some (.getfield 300, 6, 5, 0) := by decide +kernel
theorem at_116_46 : j_at 116 46 = some (.iconst 5, 0, 0, 5) := by decide +kernel
theorem at_116_47 : j_at 116 47 = some (.if_icmp .lt 6, 53, 0, 0) := by decide +kernel
theorem at_116_50 : j_at 116 50 = some (.bipush (-4), 0, 0, -4) := by decide +kernel
theorem at_116_52 : j_at 116 52 = some (.ireturn, 0, 0, 0) := by decide +kernel
theorem at_116_53 : j_at 116 53 = some (.aload_n 0, 0, 0, 0) := by decide +kernel
theorem at_116_54 : j_at 116 54 = some (.getfield 14, 12, 0, 0) := by decide +kernel
theorem at_116_57 : j_at 116 57 = some (.iload_n 1, 0, 0, 0) := by decide +kernel
theorem at_116_58 : j_at 116 58 = some (.iload_n 2, 0, 0, 0) := by decide +kernel
theorem at_116_59 : j_at 116 59 = some (.invokevirtual 303, 34, 2, 0) := by decide +kernel
theorem at_116_62 : j_at 116 62 = some (.aload_n 0, 0, 0, 0) := by decide +kernel
theorem at_116_63 : j_at 116 63 = some (.getfield 14, 12, 0, 0) := by decide +kernel
theorem at_116_66 : j_at 116 66 = some (.getfield 300, 6, 5, 0) := by decide +kernel
theorem at_116_69 : j_at 116 69 = some (.ireturn, 0, 0, 0) := by decide +kernel
theorem at_117_0 : j_at 117 0 = some (.aload_n 0, 0, 0, 0) := by decide +kernel
theorem at_117_1 : j_at 117 1 = some (.iload_n 1, 0, 0, 0) := by decide +kernel
theorem at_117_2 : j_at 117 2 = some (.invokevirtual 116, 136, 1, 0) := by decide +kernel
theorem at_117_5 : j_at 117 5 = some (.ifCond .eq 12, 17, 0, 0) := by decide +kernel
theorem at_117_8 : j_at 117 8 = some (.iload_n 2, 0, 0, 0) := by decide +kernel
theorem at_117_9 : j_at 117 9 = some (.ifCond .lt 8, 17, 0, 0) := by decide +kernel
theorem at_117_12 : j_at 117 12 = some (.iload_n 2, 0, 0, 0) := by decide +kernel
theorem at_117_13 : j_at 117 13 = some (.iconst 1, 0, 0, 1) := by decide +kernel
theorem at_117_14 : j_at 117 14 = some (.if_icmp .le 5, 19, 0, 0) := by decide +kernel
theorem at_117_17 : j_at 117 17 = some (.iconst (-1), 0, 0, -1) := by decide +kernel
theorem at_117_18 : j_at 117 18 = some (.ireturn, 0, 0, 0) := by decide +kernel
theorem at_117_19 : j_at 117 19 = some (.iconst 0, 0, 0, 0) := by decide +kernel
theorem at_117_20 : j_at 117 20 = some (.istore_n 3, 0, 0, 0) := by decide +kernel
theorem at_117_21 : j_at 117 21 = some (.bipush (-5), 0, 0, -5) := by decide +kernel
theorem at_117_23 : j_at 117 23 = some (.istore 4, 0, 0, 0) := by decide +kernel
theorem at_117_25 : j_at 117 25 = some (.aload_n 0, 0, 0, 0) := by decide +kernel
theorem at_117_26 : j_at 117 26 = some (.getfield 24, 12, 2, 0) := by decide +kernel
theorem at_117_29 : j_at 117 29 = some (.aload_n 0, 0, 0, 0) := by decide +kernel
theorem at_117_30 : j_at 117 30 = some (.getfield 14, 12, 0, 0) := by decide +kernel
theorem at_117_33 : j_at 117 33 = some (.getfield 77, 6, 0, 0) := by decide +kernel
theorem at_117_36 : j_at 117 36 = some (.invokevirtual 294, 8, 1, 0) := by decide +kernel
theorem at_117_39 : j_at 117 39 = some (.iconst 0, 0, 0, 0) := by decide +kernel
theorem at_117_40 : j_at 117 40 = some (.istore 5, 0, 0, 0) := by decide +kernel
theorem at_117_42 : j_at 117 42 = some (.iload 5, 0, 0, 0) := by decide +kernel
theorem at_117_44 : j_at 117 44 = some (.bipush 45, 0, 0, 45) := by decide +kernel
theorem at_117_46 : j_at 117 46 = some (.if_icmp .gt 41, 87, 0, 0) := by decide +kernel
theorem at_117_49 : j_at 117 49 = some (.aload_n 0, 0, 0, 0) := by decide +kernel
theorem at_117_50 : j_at 117 50 = some (.getfield 24, 12, 2, 0) := by decide +kernel
theorem at_117_53 : j_at 117 53 = some (.getfield 130, 3, 4, 0) := by decide +kernel
theorem at_117_56 : j_at 117 56 = some (.iload_n 1, 0, 0, 0) := by decide +kernel
theorem at_117_57 : j_at 117 57 = some (.iload 5, 0, 0, 0) := by decide +kernel
theorem at_117_59 : j_at 117 59 = some (.iastore, 0, 0, 0) := by decide +kernel
theorem at_117_60 : j_at 117 60 = some (.aload_n 0, 0, 0, 0) := by decide +kernel
theorem at_117_61 : j_at 117 61 = some (.invokevirtual 306, 145, 0, 0) := by decide +kernel
theorem at_117_64 : j_at 117 64 = some (.ifCond .ne 6, 70, 0, 0) := by decide +kernel
theorem at_117_67 : j_at 117 67 = some (.goto 14, 81, 0, 0) := by decide +kernel
theorem at_117_70 : j_at 117 70 = some (.iload_n 3, 0, 0, 0) := by decide +kernel
theorem at_117_71 : j_at 117 71 = some (.ifCond .ne 7, 78, 0, 0) := by decide +kernel
theorem at_117_74 : j_at 117 74 = some (.iload 5, 0, 0, 0) := by decide +kernel
theorem at_117_76 : j_at 117 76 = some (.istore 4, 0, 0, 0) := by decide +kernel
theorem at_117_78 : j_at 117 78 = some (.iinc 3 1, 0, 0, 0) := by decide +kernel
theorem at_117_81 : j_at 117 81 = some (.iinc 5 5, 0, 0, 0) := by decide +kernel
theorem at_117_84 : j_at 117 84 = some (.goto (-42), 42, 0, 0) := by decide +kernel
theorem at_117_87 : j_at 117 87 = some (.iload_n 2, 0, 0, 0) := by decide +kernel
theorem at_117_88 : j_at 117 88 = some (.ifCond .ne 7, 95, 0, 0) := by decide +kernel
theorem at_117_91 : j_at 117 91 = some (.iload_n 3, 0, 0, 0) := by decide +kernel
theorem at_117_92 : j_at 117 92 = some (.goto 5, 97, 0, 0) := by decide +kernel
theorem at_117_95 : j_at 117 95 = some (.iload 4, 0, 0, 0) := by decide +kernel
theorem at_117_97 : j_at 117 97 = some (.ireturn, 0, 0, 0) := by decide +kernel
theorem at_119_0 : j_at 119 0 = some (.iload_n 1, 0, 0, 0) := by decide +kernel
theorem at_119_1 : j_at 119 1 = some (.invokestatic 183, 141, 1, 0) := by decide +kernel
theorem at_119_4 : j_at 119 4 = some (.ifCond .ne 7, 11, 0, 0) := by decide +kernel
theorem at_119_7 : j_at 119 7 = some (.ldc2_w 170, 0, 0, -9223372036854775808) := by decide +kernel
theorem at_119_10 : j_at 119 10 = some (.lreturn, 0, 0, 0) := by decide +kernel
theorem at_119_11 : j_at 119 11 = some (.iconst 0, 0, 0, 0) := by decide +kernel
theorem at_119_12 : j_at 119 12 = some (.istore_n 2, 0, 0, 0) := by decide +kernel
theorem at_119_13 : j_at 119 13 = some (.iconst 0, 0, 0, 0) := by decide +kernel
theorem at_119_14 : j_at 119 14 = some (.istore_n 3, 0, 0, 0) := by decide +kernel
theorem at_119_15 : j_at 119 15 = some (.iload_n 3, 0, 0, 0) := by decide +kernel
theorem at_119_16 : j_at 119 16 = some (.aload_n 0, 0, 0, 0) := by decide +kernel
theorem at_119_17 : j_at 119 17 = some (.getfield 14, 12, 0, 0) := by decide +kernel
theorem at_119_20 : j_at 119 20 = some (.getfield 77, 6, 0, 0) := by decide +kernel
theorem at_119_23 : j_at 119 23 = some (.getfield 80, 3, 0, 0) := by decide +kernel
theorem at_119_26 : j_at 119 26 = some (.if_icmp .ge 24, 50, 0, 0) := by decide +kernel
theorem at_119_29 : j_at 119 29 = some (.iload_n 2, 0, 0, 0) := by decide +kernel
theorem at_119_30 : j_at 119 30 = some (.aload_n 0, 0, 0, 0) := by decide +kernel
theorem at_119_31 : j_at 119 31 = some (.getfield 14, 12, 0, 0) := by decide +kernel
theorem at_119_34 : j_at 119 34 = some (.getfield 77, 6, 0, 0) := by decide +kernel
theorem at_119_37 : j_at 119 37 = some (.getfield 96, 3, 2, 0) := by decide +kernel
theorem at_119_40 : j_at 119 40 = some (.iload_n 3, 0, 0, 0) := by decide +kernel
theorem at_119_41 : j_at 119 41 = some (.iaload, 0, 0, 0) := by decide +kernel
theorem at_119_42 : j_at 119 42 = some (.iadd, 0, 0, 0) := by decide +kernel
theorem at_119_43 : j_at 119 43 = some (.istore_n 2, 0, 0, 0) := by decide +kernel
theorem at_119_44 : j_at 119 44 = some (.iinc 3 1, 0, 0, 0) := by decide +kernel
theorem at_119_47 : j_at 119 47 = some (.goto (-32), 15, 0, 0) := by decide +kernel
theorem at_119_50 : j_at 119 50 = some (.iload_n 2, 0, 0, 0) := by decide +kernel
theorem at_119_51 : j_at 119 51 = some (.i2l, 0, 0, 0) := by decide +kernel
theorem at_119_52 : j_at 119 52 = some (.aload_n 0, 0, 0, 0) := by decide +kernel
theorem at_119_53 : j_at 119 53 = some (.getfield 14, 12, 0, 0) := by decide +kernel
theorem at_119_56 : j_at 119 56 = some (.getfield 77, 6, 0, 0) := by decide +kernel
theorem at_119_59 : j_at 119 59 = some (.getfield 80, 3, 0, 0) := by decide +kernel
theorem at_119_62 : j_at 119 62 = some (.i2l, 0, 0, 0) := by decide +kernel
theorem at_119_63 : j_at 119 63 = some (.iload_n 1, 0, 0, 0) := by decide +kernel
theorem at_119_64 : j_at 119 64 = some (.invokestatic 193, 146, 3, 0) := by decide +kernel
theorem at_119_67 : j_at 119 67 = some (.lreturn, 0, 0, 0) := by decide +kernel
theorem at_120_0 : j_at 120 0 = some (.iload_n 2, 0, 0, 0) := by decide +kernel
theorem at_120_1 : j_at 120 1 = some (.iconst 1, 0, 0, 1) := by decide +kernel
theorem at_120_2 : j_at 120 2 = some (.if_icmp .lt 8, 10, 0, 0) := by decide +kernel
theorem at_120_5 : j_at 120 5 = some (.iload_n 2, 0, 0, 0) := by decide +kernel
theorem at_120_6 : j_at 120 6 = some (.iconst 4, 0, 0, 4) := by decide +kernel
theorem at_120_7 : j_at 120 7 = some (.if_icmp .le 6, 13, 0, 0) := by decide +kernel
theorem at_120_10 : j_at 120 10 = some (.bipush (-2), 0, 0, -2) := by decide +kernel
theorem at_120_12 : j_at 120 12 = some (.ireturn, 0, 0, 0) := by decide +kernel
theorem at_120_13 : j_at 120 13 = some (.aload_n 0, 0, 0, 0) := by decide +kernel
theorem at_120_14 : j_at 120 14 = some (.getfield 24, 12, 2, 0) := by decide +kernel
theorem at_120_17 : j_at 120 17 = some (.aload_n 0, 0, 0, 0) := by decide +kernel
theorem at_120_18 : j_at 120 18 = some (.getfield 14, 12, 0, 0) := by decide +kernel
theorem at_120_21 : j_at 120 21 = some (.getfield 77, 6, 0, 0) := by decide +kernel
theorem at_120_24 : j_at 120 24 = some (.invokevirtual 294, 8, 1, 0) := by decide +kernel
theorem at_120_27 : j_at 120 27 = some (.aload_n 0, 0, 0, 0) := by decide +kernel
theorem at_120_28 : j_at 120 28 = some (.getfield 24, 12, 2, 0) := by decide +kernel
theorem at_120_31 : j_at 120 31 = some (.iload_n 1, 0, 0, 0) := by decide +kernel
theorem at_120_32 : j_at 120 32 = some (.iload_n 2, 0, 0, 0) := by decide +kernel
theorem at_120_33 : j_at 120 33 = some (.invokevirtual 309, 18, 2, 0) := by decide +kernel
theorem at_120_36 : j_at 120 36 = some (.aload_n 0, 0, 0, 0) := by decide +kernel
theorem at_120_37 : j_at 120 37 = some (.getfield 35, 12, 4, 0) := by decide +kernel
theorem at_120_40 : j_at 120 40 = some (.aload_n 0, 0, 0, 0) := by decide +kernel
theorem at_120_41 : j_at 120 41 = some (.getfield 24, 12, 2, 0) := by decide +kernel
theorem at_120_44 : j_at 120 44 = some (.invokevirtual 297, 30, 1, 0) := by decide +kernel
theorem at_120_47 : j_at 120 47 = some (.ireturn, 0, 0, 0) := by decide +kernel
theorem at_121_0 : j_at 121 0 = some (.aload_n 0, 0, 0, 0) := by decide +kernel
theorem at_121_1 : j_at 121 1 = some (.iload_n 1, 0, 0, 0) := by decide +kernel
theorem at_121_2 : j_at 121 2 = some (.invokevirtual 265, 138, 1, 0) := by decide +kernel
theorem at_121_5 : j_at 121 5 = some (.ifCond .eq 14, 19, 0, 0) := by decide +kernel
theorem at_121_8 : j_at 121 8 = some (.iload_n 2, 0, 0, 0) := by decide +kernel
theorem at_121_9 : j_at 121 9 = some (.ifCond .lt 10, 19, 0, 0) := by decide +kernel
theorem at_121_12 : j_at 121 12 = some (.iload_n 2, 0, 0, 0) := by decide +kernel
theorem at_121_13 : j_at 121 13 = some (.sipush 999, 0, 0, 999) := by decide +kernel
theorem at_121_16 : j_at 121 16 = some (.if_icmp .le 6, 22, 0, 0) := by decide +kernel
theorem at_121_19 : j_at 121 19 = some (.bipush (-2), 0, 0, -2) := by decide +kernel
theorem at_121_21 : j_at 121 21 = some (.ireturn, 0, 0, 0) := by decide +kernel
theorem at_121_22 : j_at 121 22 = some (.aload_n 0, 0, 0, 0) := by decide +kernel
theorem at_121_23 : j_at 121 23 = some (.getfield 14, 12, 0, 0) := by decide +kernel
theorem at_121_26 : j_at 121 26 = some (.getfield 100, 6, 1, 0) := by decide +kernel
theorem at_121_29 : j_at 121 29 = some (.iload_n 1, 0, 0, 0) := by decide +kernel
theorem at_121_30 : j_at 121 30 = some (.invokevirtual 312, 23, 1, 0) := by decide +kernel
theorem at_121_33 : j_at 121 33 = some (.istore_n 3, 0, 0, 0) := by decide +kernel
theorem at_121_34 : j_at 121 34 = some (.iload_n 3, 0, 0, 0) := by decide +kernel
theorem at_121_35 : j_at 121 35 = some (.ifCond .lt 33, 68, 0, 0) := by decide +kernel
theorem at_121_38 : j_at 121 38 = some (.aload_n 0, 0, 0, 0) := by decide +kernel
theorem at_121_39 : j_at 121 39 = some (.getfield 14, 12, 0, 0) := by decide +kernel
theorem at_121_42 : j_at 121 42 = some (.getfield 100, 6, 1, 0) := by decide +kernel
theorem at_121_45 : j_at 121 45 = some (.getfield 315, 4, 3, 0) := by decide +kernel
theorem at_121_48 : j_at 121 48 = some (.iload_n 3, 0, 0, 0) := by decide +kernel
theorem at_121_49 : j_at 121 49 = some (.iaload, 0, 0, 0) := by decide +kernel
theorem at_121_50 : j_at 121 50 = some (.istore 4, 0, 0, 0) := by decide +kernel
theorem at_121_52 : j_at 121 52 = some (.aload_n 0, 0, 0, 0) := by decide +kernel
theorem at_121_53 : j_at 121 53 = some (.getfield 14, 12, 0, 0) := by decide +kernel
theorem at_121_56 : j_at 121 56 = some (.getfield 100, 6, 1, 0) := by decide +kernel
theorem at_121_59 : j_at 121 59 = some (.getfield 315, 4, 3, 0) := by decide +kernel
theorem at_121_62 : j_at 121 62 = some (.iload_n 3, 0, 0, 0) := by decide +kernel
theorem at_121_63 : j_at 121 63 = some (.iload_n 2, 0, 0, 0) := by decide +kernel
theorem at_121_64 : j_at 121 64 = some (.iastore, 0, 0, 0) := by decide +kernel
theorem at_121_65 : j_at 121 65 = some (.iload 4, 0, 0, 0) := by decide +kernel
theorem at_121_67 : j_at 121 67 = some (.ireturn, 0, 0, 0) := by decide +kernel
theorem at_121_68 : j_at 121 68 = some (.aload_n 0, 0, 0, 0) := by decide +kernel
theorem at_121_69 : j_at 121 69 = some (.getfield 14, 12, 0, 0) := by decide +kernel
theorem at_121_72 : j_at 121 72 = some (.getfield 100, 6, 1, 0) := by decide +kernel
theorem at_121_75 : j_at 121 75 = some (.getfield 257, 4, 0, 0) := by decide +kernel
theorem at_121_78 : j_at 121 78 = some (.bipush 20, 0, 0, 20) := by decide +kernel
theorem at_121_80 : j_at 121 80 = some (.if_icmp .lt 6, 86, 0, 0) := by decide +kernel
theorem at_121_83 : j_at 121 83 = some (.bipush (-4), 0, 0, -4) := by decide +kernel
theorem at_121_85 : j_at 121 85 = some (.ireturn, 0, 0, 0) := by decide +kernel
theorem at_121_86 : j_at 121 86 = some (.aload_n 0, 0, 0, 0) := by decide +kernel
theorem at_121_87 : j_at 121 87 = some (.getfield 14, 12, 0, 0) := by decide +kernel
theorem at_121_90 : j_at 121 90 = some (.getfield 100, 6, 1, 0) := by decide +kernel
theorem at_121_93 : j_at 121 93 = some (.iload_n 1, 0, 0, 0) := by decide +kernel
theorem at_121_94 : j_at 121 94 = some (.aload_n 0, 0, 0, 0) := by decide +kernel
theorem at_121_95 : j_at 121 95 = some (.getfield 14, 12, 0, 0) := by decide +kernel
theorem at_121_98 : j_at 121 98 = some (.getfield 77, 6, 0, 0) := by decide +kernel
theorem at_121_101 : j_at 121 101 = some (.iload_n 1, 0, 0, 0) := by decide +kernel
theorem at_121_102 : j_at 121 102 = some (.invokevirtual 318, 14, 1, 0) := by decide +kernel
theorem at_121_105 : j_at 121 105 = some (.iload_n 2, 0, 0, 0) := by decide +kernel
theorem at_121_106 : j_at 121 106 = some (.invokevirtual 321, 25, 3, 0) := by decide +kernel
theorem at_121_109 : j_at 121 109 = some (.bipush (-5), 0, 0, -5) := by decide +kernel
theorem at_121_111 : j_at 121 111 = some (.ireturn, 0, 0, 0) := by decide +kernel
theorem at_122_0 : j_at 122 0 = some (.iload_n 2, 0, 0, 0) := by decide +kernel
theorem at_122_1 : j_at 122 1 = some (.ifCond .lt 8, 9, 0, 0) := by decide +kernel
theorem at_122_4 : j_at 122 4 = some (.iload_n 2, 0, 0, 0) := by decide +kernel
theorem at_122_5 : j_at 122 5 = some (.iconst 2, 0, 0, 2) := by decide +kernel
theorem at_122_6 : j_at 122 6 = some (.if_icmp .le 5, 11, 0, 0) := by decide +kernel
theorem at_122_9 : j_at 122 9 = some (.iconst (-1), 0, 0, -1) := by decide +kernel
theorem at_122_10 : j_at 122 10 = some (.ireturn, 0, 0, 0) := by decide +kernel
theorem at_122_11 : j_at 122 11 = some (.iload_n 1, 0, 0, 0) := by decide +kernel
theorem at_122_12 : j_at 122 12 = some (.ifCond .lt 17, 29, 0, 0) := by decide +kernel
theorem at_122_15 : j_at 122 15 = some (.iload_n 1, 0, 0, 0) := by decide +kernel
theorem at_122_16 : j_at 122 16 = some (.aload_n 0, 0, 0, 0) := by decide +kernel
theorem at_122_17 : j_at 122 17 = some (.getfield 14, 12, 0, 0) := by decide +kernel
theorem at_122_20 : j_at 122 20 = some (.getfield 100, 6, 1, 0) := by decide +kernel
theorem at_122_23 : j_at 122 23 = some (.getfield 257, 4, 0, 0) := by decide +kernel
theorem at_122_26 : j_at 122 26 = some (.if_icmp .lt 6, 32, 0, 0) := by decide +kernel
theorem at_122_29 : j_at 122 29 = some (.bipush (-2), 0, 0, -2) := by decide +kernel
theorem at_122_31 : j_at 122 31 = some (.ireturn, 0, 0, 0) := by decide +kernel
theorem at_122_32 : j_at 122 32 = some (.iload_n 2, 0, 0, 0) := by decide +kernel
theorem at_122_33 : j_at 122 33 = some (.ifCond .ne 16, 49, 0, 0) := by decide +kernel
theorem at_122_36 : j_at 122 36 = some (.aload_n 0, 0, 0, 0) := by decide +kernel
theorem at_122_37 : j_at 122 37 = some (.getfield 14, 12, 0, 0) := by decide +kernel
theorem at_122_40 : j_at 122 40 = some (.getfield 100, 6, 1, 0) := by decide +kernel
theorem at_122_43 : j_at 122 43 = some (.getfield 258, 4, 1, 0) := by decide +kernel
theorem at_122_46 : j_at 122 46 = some (.iload_n 1, 0, 0, 0) := by decide +kernel
theorem at_122_47 : j_at 122 47 = some (.iaload, 0, 0, 0) := by decide +kernel
theorem at_122_48 : j_at 122 48 = some (.ireturn, 0, 0, 0) := by decide +kernel
theorem at_122_49 : j_at 122 49 = some (.iload_n 2, 0, 0, 0) := by decide +kernel
theorem at_122_50 : j_at 122 50 = some (.iconst 1, 0, 0, 1) := by decide +kernel
theorem at_122_51 : j_at 122 51 = some (.if_icmp .ne 18, 69, 0, 0) := by decide +kernel
theorem at_122_54 : j_at 122 54 = some (.aload_n 0, 0, 0, 0) := by decide +kernel
theorem at_122_55 : j_at 122 55 = some (.getfield 14, 12, 0, 0) := by decide +kernel
theorem at_122_58 : j_at 122 58 = some (.getfield 100, 6, 1, 0) := by decide +kernel
theorem at_122_61 : j_at 122 61 = some (.getfield 315, 4, 3, 0) := by decide +kernel
theorem at_122_64 : j_at 122 64 = some (.iload_n 1, 0, 0, 0) := by decide +kernel
theorem at_122_65 : j_at 122 65 = some (.iaload, 0, 0, 0) := by decide +kernel
theorem at_122_66 : j_at 122 66 = some (.goto 15, 81, 0, 0) := by decide +kernel
theorem at_122_69 : j_at 122 69 = some (.aload_n 0, 0, 0, 0) := by decide +kernel
theorem at_122_70 : j_at 122 70 = some (.getfield 14, 12, 0, 0) := by decide +kernel
theorem at_122_73 : j_at 122 73 = some (.getfield 100, 6, 1, 0) := by decide +kernel
theorem at_122_76 : j_at 122 76 = some (.getfield 324, 4, 2, 0) := by decide +kernel
theorem at_122_79 : j_at 122 79 = some (.iload_n 1, 0, 0, 0) := by decide +kernel
theorem at_122_80 : j_at 122 80 = some (.iaload, 0, 0, 0) := by decide +kernel
theorem at_122_81 : j_at 122 81 = some (.ireturn, 0, 0, 0) := by decide +kernel
theorem at_123_0 : j_at 123 0 = some (.bipush (-5), 0, 0, -5) := by decide +kernel
theorem at_123_2 : j_at 123 2 = some (.istore_n 2, 0, 0, 0) := by decide +kernel
theorem at_123_3 : j_at 123 3 = some (.iconst 0, 0, 0, 0) := by decide +kernel
theorem at_123_4 : j_at 123 4 = some (.istore_n 3, 0, 0, 0) := by decide +kernel
theorem at_123_5 : j_at 123 5 = some (.iload_n 3, 0, 0, 0) := by decide +kernel
theorem at_123_6 : j_at 123 6 = some (.aload_n 0, 0, 0, 0) := by decide +kernel
theorem at_123_7 : j_at 123 7 = some (.getfield 14, 12, 0, 0) := by decide +kernel
theorem at_123_10 : j_at 123 10 = some (.getfield 100, 6, 1, 0) := by decide +kernel
theorem at_123_13 : j_at 123 13 = some (.getfield 257, 4, 0, 0) := by decide +kernel
theorem at_123_16 : j_at 123 16 = some (.if_icmp .ge 38, 54, 0, 0) := by decide +kernel
theorem at_123_19 : j_at 123 19 = some (.aload_n 0, 0, 0, 0) := by decide +kernel
theorem at_123_20 : j_at 123 20 = some (.getfield 14, 12, 0, 0) := by decide +kernel
theorem at_123_23 : j_at 123 23 = some (.getfield 100, 6, 1, 0) := by decide +kernel
theorem at_123_26 : j_at 123 26 = some (.getfield 324, 4, 2, 0) := by decide +kernel
theorem at_123_29 : j_at 123 29 = some (.iload_n 3, 0, 0, 0) := by decide +kernel
theorem at_123_30 : j_at 123 30 = some (.iaload, 0, 0, 0) := by decide +kernel
theorem at_123_31 : j_at 123 31 = some (.iload_n 1, 0, 0, 0) := by decide +kernel
theorem at_123_32 : j_at 123 32 = some (.if_icmp .gt 16, 48, 0, 0) := by decide +kernel
theorem at_123_35 : j_at 123 35 = some (.aload_n 0, 0, 0, 0) := by decide +kernel
theorem at_123_36 : j_at 123 36 = some (.getfield 14, 12, 0, 0) := by decide +kernel
theorem at_123_39 : j_at 123 39 = some (.getfield 100, 6, 1, 0) := by decide +kernel
theorem at_123_42 : j_at 123 42 = some (.getfield 258, 4, 1, 0) := by decide +kernel
theorem at_123_45 : j_at 123 45 = some (.iload_n 3, 0, 0, 0) := by decide +kernel
theorem at_123_46 : j_at 123 46 = some (.iaload, 0, 0, 0) := by decide +kernel
theorem at_123_47 : j_at 123 47 = some (.istore_n 2, 0, 0, 0) := by decide +kernel
theorem at_123_48 : j_at 123 48 = some (.iinc 3 1, 0, 0, 0) := by decide +kernel
theorem at_123_51 : j_at 123 51 = some (.goto (-46), 5, 0, 0) := by decide +kernel
theorem at_123_54 : j_at 123 54 = some (.iload_n 2, 0, 0, 0) := by decide +kernel
theorem at_123_55 : j_at 123 55 = some (.ireturn, 0, 0, 0) := by decide +kernel
theorem at_124_0 : j_at 124 0 = some (.iconst (-1), 0, 0, -1) := by decide +kernel
theorem at_124_1 : j_at 124 1 = some (.istore_n 1, 0, 0, 0) := by decide +kernel
theorem at_124_2 : j_at 124 2 = some (.iconst 0, 0, 0, 0) := by decide +kernel
theorem at_124_3 : j_at 124 3 = some (.istore_n 2, 0, 0, 0) := by decide +kernel
theorem at_124_4 : j_at 124 4 = some (.iload_n 2, 0, 0, 0) := by decide +kernel
theorem at_124_5 : j_at 124 5 = some (.aload_n 0, 0, 0, 0) := by decide +kernel
theorem at_124_6 : j_at 124 6 = some (.getfield 14, 12, 0, 0) := by decide +kernel
theorem at_124_9 : j_at 124 9 = some (.getfield 100, 6, 1, 0) := by decide +kernel
theorem at_124_12 : j_at 124 12 = some (.getfield 257, 4, 0, 0) := by decide +kernel
theorem at_124_15 : j_at 124 15 = some (.if_icmp .ge 40, 55, 0, 0) := by decide +kernel
theorem at_124_18 : j_at 124 18 = some (.iload_n 1, 0, 0, 0) := by decide +kernel
theorem at_124_19 : j_at 124 19 = some (.ifCond .lt 28, 47, 0, 0) := by decide +kernel
theorem at_124_22 : j_at 124 22 = some (.aload_n 0, 0, 0, 0) := by decide +kernel
theorem at_124_23 : j_at 124 23 = some (.getfield 14, 12, 0, 0) := by decide +kernel
theorem at_124_26 : j_at 124 26 = some (.getfield 100, 6, 1, 0) := by decide +kernel
theorem at_124_29 : j_at 124 29 = some (.iload_n 2, 0, 0, 0) := by decide +kernel
theorem at_124_30 : j_at 124 30 = some (.invokevirtual 325, 24, 1, 0) := by decide +kernel
theorem at_124_33 : j_at 124 33 = some (.aload_n 0, 0, 0, 0) := by decide +kernel
theorem at_124_34 : j_at 124 34 = some (.getfield 14, 12, 0, 0) := by decide +kernel
theorem at_124_37 : j_at 124 37 = some (.getfield 100, 6, 1, 0) := by decide +kernel
theorem at_124_40 : j_at 124 40 = some (.iload_n 1, 0, 0, 0) := by decide +kernel
theorem at_124_41 : j_at 124 41 = some (.invokevirtual 325, 24, 1, 0) := by decide +kernel
theorem at_124_44 : j_at 124 44 = some (.if_icmp .le 5, 49, 0, 0) := by decide +kernel
theorem at_124_47 : j_at 124 47 = some (.iload_n 2, 0, 0, 0) := by decide +kernel
theorem at_124_48 : j_at 124 48 = some (.istore_n 1, 0, 0, 0) := by decide +kernel
theorem at_124_49 : j_at 124 49 = some (.iinc 2 1, 0, 0, 0) := by decide +kernel
theorem at_124_52 : j_at 124 52 = some (.goto (-48), 4, 0, 0) := by decide +kernel
theorem at_124_55 : j_at 124 55 = some (.iload_n 1, 0, 0, 0) := by decide +kernel
theorem at_124_56 : j_at 124 56 = some (.ifCond .ge 8, 64, 0, 0) := by decide +kernel
theorem at_124_59 : j_at 124 59 = some (.bipush (-5), 0, 0, -5) := by decide +kernel
theorem at_124_61 : j_at 124 61 = some (.goto 15, 76, 0, 0) := by decide +kernel
theorem at_124_64 : j_at 124 64 = some (.aload_n 0, 0, 0, 0) := by decide +kernel
theorem at_124_65 : j_at 124 65 = some (.getfield 14, 12, 0, 0) := by decide +kernel
theorem at_124_68 : j_at 124 68 = some (.getfield 100, 6, 1, 0) := by decide +kernel
theorem at_124_71 : j_at 124 71 = some (.getfield 258, 4, 1, 0) := by decide +kernel
theorem at_124_74 : j_at 124 74 = some (.iload_n 1, 0, 0, 0) := by decide +kernel
theorem at_124_75 : j_at 124 75 = some (.iaload, 0, 0, 0) := by decide +kernel
theorem at_124_76 : j_at 124 76 = some (.ireturn, 0, 0, 0) := by decide +kernel
theorem at_125_0 : j_at 125 0 = some (.iload_n 1, 0, 0, 0) := by decide +kernel
theorem at_125_1 : j_at 125 1 = some (.iconst (-1), 0, 0, -1) := by decide +kernel
theorem at_125_2 : j_at 125 2 = some (.if_icmp .ne 13, 15, 0, 0) := by decide +kernel
theorem at_125_5 : j_at 125 5 = some (.aload_n 0, 0, 0, 0) := by decide +kernel
theorem at_125_6 : j_at 125 6 = some (.getfield 14, 12, 0, 0) := by decide +kernel
theorem at_125_9 : j_at 125 9 = some (.iconst 0, 0, 0, 0) := by decide +kernel
theorem at_125_10 : j_at 125 10 = some (.putfield 328, 6, 8, 0) := by decide +kernel
theorem at_125_13 : j_at 125 13 = some (.iconst 0, 0, 0, 0) := by decide +kernel
theorem at_125_14 : j_at 125 14 = some (.ireturn, 0, 0, 0) := by decide +kernel
theorem at_125_15 : j_at 125 15 = some (.iload_n 1, 0, 0, 0) := by decide +kernel
theorem at_125_16 : j_at 125 16 = some (.ifCond .lt 8, 24, 0, 0) := by decide +kernel
theorem at_125_19 : j_at 125 19 = some (.iload_n 1, 0, 0, 0) := by decide +kernel
theorem at_125_20 : j_at 125 20 = some (.iconst 2, 0, 0, 2) := by decide +kernel
theorem at_125_21 : j_at 125 21 = some (.if_icmp .le 5, 26, 0, 0) := by decide +kernel
theorem at_125_24 : j_at 125 24 = some (.iconst (-1), 0, 0, -1) := by decide +kernel
theorem at_125_25 : j_at 125 25 = some (.ireturn, 0, 0, 0) := by decide +kernel
theorem at_125_26 : j_at 125 26 = some (.iload_n 1, 0, 0, 0) := by decide +kernel
theorem at_125_27 : j_at 125 27 = some (.iconst 1, 0, 0, 1) := by decide +kernel
theorem at_125_28 : j_at 125 28 = some (.if_icmp .ne 14, 42, 0, 0) := by decide +kernel
theorem at_125_31 : j_at 125 31 = some (.aload_n 0, 0, 0, 0) := by decide +kernel
theorem at_125_32 : j_at 125 32 = some (.iload_n 2, 0, 0, 0) := by decide +kernel
theorem at_125_33 : j_at 125 33 = some (.invokevirtual 92, 135, 1, 0) := by decide +kernel
theorem at_125_36 : j_at 125 36 = some (.ifCond .ne 16, 52, 0, 0) := by decide +kernel
theorem at_125_39 : j_at 125 39 = some (.goto 11, 50, 0, 0) := by decide +kernel
theorem at_125_42 : j_at 125 42 = some (.aload_n 0, 0, 0, 0) := by decide +kernel
theorem at_125_43 : j_at 125 43 = some (.iload_n 2, 0, 0, 0) := by decide +kernel
theorem at_125_44 : j_at 125 44 = some (.invokevirtual 116, 136, 1, 0) := by decide +kernel
theorem at_125_47 : j_at 125 47 = some (.ifCond .ne 5, 52, 0, 0) := by decide +kernel
theorem at_125_50 : j_at 125 50 = some (.iconst (-1), 0, 0, -1) := by decide +kernel
theorem at_125_51 : j_at 125 51 = some (.ireturn, 0, 0, 0) := by decide +kernel
theorem at_125_52 : j_at 125 52 = some (.iload_n 1, 0, 0, 0) := by decide +kernel
theorem at_125_53 : j_at 125 53 = some (.iload_n 3, 0, 0, 0) := by decide +kernel
theorem at_125_54 : j_at 125 54 = some (.invokestatic 331, 143, 2, 0) := by decide +kernel
theorem at_125_57 : j_at 125 57 = some (.ifCond .ne 6, 63, 0, 0) := by decide +kernel
theorem at_125_60 : j_at 125 60 = some (.bipush (-2), 0, 0, -2) := by decide +kernel
theorem at_125_62 : j_at 125 62 = some (.ireturn, 0, 0, 0) := by decide +kernel
theorem at_125_63 : j_at 125 63 = some (.aload_n 0, 0, 0, 0) := by decide +kernel
theorem at_125_64 : j_at 125 64 = some (.getfield 14, 12, 0, 0) := by decide +kernel
theorem at_125_67 : j_at 125 67 = some (.getfield 328, 6, 8, 0) := by decide +kernel
theorem at_125_70 : j_at 125 70 = some (.bipush 8, 0, 0, 8) := by decide +kernel
theorem at_125_72 : j_at 125 72 = some (.if_icmp .lt 6, 78, 0, 0) := by decide +kernel
theorem at_125_75 : j_at 125 75 = some (.bipush (-4), 0, 0, -4) := by decide +kernel
theorem at_125_77 : j_at 125 77 = some (.ireturn, 0, 0, 0) := by decide +kernel
theorem at_125_78 : j_at 125 78 = some (.aload_n 0, 0, 0, 0) := by decide +kernel
theorem at_125_79 : j_at 125 79 = some (.getfield 14, 12, 0, 0) := by decide +kernel
theorem at_125_82 : j_at 125 82 = some (.iload_n 1, 0, 0, 0) := by decide +kernel
theorem at_125_83 : j_at 125 83 = some (.iload_n 2, 0, 0, 0) := by decide +kernel
theorem at_125_84 : j_at 125 84 = some (.iload_n 3, 0, 0, 0) := by decide +kernel
theorem at_125_85 : j_at 125 85 = some (.invokevirtual 335, 35, 3, 0) := by decide +kernel
theorem at_125_88 : j_at 125 88 = some (.aload_n 0, 0, 0, 0) := by decide +kernel
theorem at_125_89 : j_at 125 89 = some (.getfield 14, 12, 0, 0) := by decide +kernel
theorem at_125_92 : j_at 125 92 = some (.getfield 328, 6, 8, 0) := by decide +kernel
theorem at_125_95 : j_at 125 95 = some (.ireturn, 0, 0, 0) := by decide +kernel
theorem at_126_0 : j_at 126 0 = some (.aload_n 0, 0, 0, 0) := by decide +kernel
theorem at_126_1 : j_at 126 1 = some (.getfield 24, 12, 2, 0) := by decide +kernel
theorem at_126_4 : j_at 126 4 = some (.aload_n 0, 0, 0, 0) := by decide +kernel
theorem at_126_5 : j_at 126 5 = some (.getfield 14, 12, 0, 0) := by decide +kernel
theorem at_126_8 : j_at 126 8 = some (.getfield 77, 6, 0, 0) := by decide +kernel
theorem at_126_11 : j_at 126 11 = some (.invokevirtual 294, 8, 1, 0) := by decide +kernel
theorem at_126_14 : j_at 126 14 = some (.iconst 0, 0, 0, 0) := by decide +kernel
theorem at_126_15 : j_at 126 15 = some (.istore_n 1, 0, 0, 0) := by decide +kernel
theorem at_126_16 : j_at 126 16 = some (.iload_n 1, 0, 0, 0) := by decide +kernel
theorem at_126_17 : j_at 126 17 = some (.aload_n 0, 0, 0, 0) := by decide +kernel
theorem at_126_18 : j_at 126 18 = some (.getfield 14, 12, 0, 0) := by decide +kernel
theorem at_126_21 : j_at 126 21 = some (.getfield 328, 6, 8, 0) := by decide +kernel
theorem at_126_24 : j_at 126 24 = some (.if_icmp .ge 43, 67, 0, 0) := by decide +kernel
theorem at_126_27 : j_at 126 27 = some (.aload_n 0, 0, 0, 0) := by decide +kernel
theorem at_126_28 : j_at 126 28 = some (.getfield 24, 12, 2, 0) := by decide +kernel
theorem at_126_31 : j_at 126 31 = some (.aload_n 0, 0, 0, 0) := by decide +kernel
theorem at_126_32 : j_at 126 32 = some (.getfield 14, 12, 0, 0) := by decide +kernel
theorem at_126_35 : j_at 126 35 = some (.getfield 338, 6, 9, 0) := by decide +kernel
theorem at_126_38 : j_at 126 38 = some (.iload_n 1, 0, 0, 0) := by decide +kernel
theorem at_126_39 : j_at 126 39 = some (.iaload, 0, 0, 0) := by decide +kernel
theorem at_126_40 : j_at 126 40 = some (.aload_n 0, 0, 0, 0) := by decide +kernel
theorem at_126_41 : j_at 126 41 = some (.getfield 14, 12, 0, 0) := by decide +kernel
theorem at_126_44 : j_at 126 44 = some (.getfield 341, 6, 10, 0) := by decide +kernel
theorem at_126_47 : j_at 126 47 = some (.iload_n 1, 0, 0, 0) := by decide +kernel
theorem at_126_48 : j_at 126 48 = some (.iaload, 0, 0, 0) := by decide +kernel
theorem at_126_49 : j_at 126 49 = some (.aload_n 0, 0, 0, 0) := by decide +kernel
theorem at_126_50 : j_at 126 50 = some (.getfield 14, 12, 0, 0) := by decide +kernel
theorem at_126_53 : j_at 126 53 = some (.getfield 344, 6, 11, 0) := by decide +kernel
theorem at_126_56 : j_at 126 56 = some (.iload_n 1, 0, 0, 0) := by decide +kernel
theorem at_126_57 : j_at 126 57 = some (.iaload, 0, 0, 0) := by decide +kernel
theorem at_126_58 : j_at 126 58 = some (.invokevirtual 347, 17, 3, 0) := by decide +kernel
theorem at_126_61 : j_at 126 61 = some (.iinc 1 1, 0, 0, 0) := by decide +kernel
theorem at_126_64 : j_at 126 64 = some (.goto (-48), 16, 0, 0) := by decide +kernel
theorem at_126_67 : j_at 126 67 = some (.aload_n 0, 0, 0, 0) := by decide +kernel
theorem at_126_68 : j_at 126 68 = some (.getfield 35, 12, 4, 0) := by decide +kernel
theorem at_126_71 : j_at 126 71 = some (.aload_n 0, 0, 0, 0) := by decide +kernel
theorem at_126_72 : j_at 126 72 = some (.getfield 24, 12, 2, 0) := by decide +kernel
theorem at_126_75 : j_at 126 75 = some (.invokevirtual 297, 30, 1, 0) := by decide +kernel
theorem at_126_78 : j_at 126 78 = some (.ireturn, 0, 0, 0) := by decide +kernel
theorem at_128_0 : j_at 128 0 = some (.aload_n 0, 0, 0, 0) := by decide +kernel
theorem at_128_1 : j_at 128 1 = some (.getfield 18, 12, 1, 0) := by decide +kernel
theorem at_128_4 : j_at 128 4 = some (.aload_n 0, 0, 0, 0) := by decide +kernel
theorem at_128_5 : j_at 128 5 = some (.getfield 14, 12, 0, 0) := by decide +kernel
theorem at_128_8 : j_at 128 8 = some (.invokevirtual 367, 32, 1, 0) := by decide +kernel
theorem at_128_11 : j_at 128 11 = some (.aload_n 0, 0, 0, 0) := by decide +kernel
theorem at_128_12 : j_at 128 12 = some (.iconst 1, 0, 0, 1) := by decide +kernel
theorem at_128_13 : j_at 128 13 = some (.putfield 370, 12, 12, 0) := by decide +kernel
theorem at_128_16 : j_at 128 16 = some (.aload_n 0, 0, 0, 0) := by decide +kernel
theorem at_128_17 : j_at 128 17 = some (.getfield 14, 12, 0, 0) := by decide +kernel
theorem at_128_20 : j_at 128 20 = some (.getfield 77, 6, 0, 0) := by decide +kernel
theorem at_128_23 : j_at 128 23 = some (.getfield 109, 3, 1, 0) := by decide +kernel
theorem at_128_26 : j_at 128 26 = some (.ireturn, 0, 0, 0) := by decide +kernel
theorem at_129_0 : j_at 129 0 = some (.aload_n 0, 0, 0, 0) := by decide +kernel
theorem at_129_1 : j_at 129 1 = some (.getfield 370, 12, 12, 0) := by decide +kernel
theorem at_129_4 : j_at 129 4 = some (.ifCond .ne 6, 10, 0, 0) := by decide +kernel
theorem at_129_7 : j_at 129 7 = some (.bipush (-3), 0, 0, -3) := by decide +kernel
theorem at_129_9 : j_at 129 9 = some (.ireturn, 0, 0, 0) := by decide +kernel
theorem at_129_10 : j_at 129 10 = some (.aload_n 0, 0, 0, 0) := by decide +kernel
theorem at_129_11 : j_at 129 11 = some (.getfield 14, 12, 0, 0) := by decide +kernel
theorem at_129_14 : j_at 129 14 = some (.aload_n 0, 0, 0, 0) := by decide +kernel
theorem at_129_15 : j_at 129 15 = some (.getfield 18, 12, 1, 0) := by decide +kernel
theorem at_129_18 : j_at 129 18 = some (.invokevirtual 367, 32, 1, 0) := by decide +kernel
theorem at_129_21 : j_at 129 21 = some (.aload_n 0, 0, 0, 0) := by decide +kernel
theorem at_129_22 : j_at 129 22 = some (.iconst 0, 0, 0, 0) := by decide +kernel
theorem at_129_23 : j_at 129 23 = some (.putfield 88, 12, 11, 0) := by decide +kernel
theorem at_129_26 : j_at 129 26 = some (.aload_n 0, 0, 0, 0) := by decide +kernel
theorem at_129_27 : j_at 129 27 = some (.getfield 14, 12, 0, 0) := by decide +kernel
theorem at_129_30 : j_at 129 30 = some (.getfield 77, 6, 0, 0) := by decide +kernel
theorem at_129_33 : j_at 129 33 = some (.getfield 109, 3, 1, 0) := by decide +kernel
theorem at_129_36 : j_at 129 36 = some (.ireturn, 0, 0, 0) := by decide +kernel
theorem at_130_0 : j_at 130 0 = some (.iload_n 1, 0, 0, 0) := by decide +kernel
theorem at_130_1 : j_at 130 1 = some (.tableswitch 186 0 9 #[55, 66, 77, 99, 121, 143, 151, 159, 170, 178], 0, 0, 0) := by decide +kernel
theorem at_130_56 : j_at 130 56 = some (.aload_n 0, 0, 0, 0) := by decide +kernel
theorem at_130_57 : j_at 130 57 = some (.getfield 14, 12, 0, 0) := by decide +kernel
theorem at_130_60 : j_at 130 60 = some (.getfield 77, 6, 0, 0) := by decide +kernel
theorem at_130_63 : j_at 130 63 = some (.getfield 80, 3, 0, 0) := by decide +kernel
theorem at_130_66 : j_at 130 66 = some (.ireturn, 0, 0, 0) := by decide +kernel
theorem at_130_67 : j_at 130 67 = some (.aload_n 0, 0, 0, 0) := by decide +kernel
theorem at_130_68 : j_at 130 68 = some (.getfield 14, 12, 0, 0) := by decide +kernel
theorem at_130_71 : j_at 130 71 = some (.getfield 77, 6, 0, 0) := by decide +kernel
theorem at_130_74 : j_at 130 74 = some (.getfield 109, 3, 1, 0) := by decide +kernel
theorem at_130_77 : j_at 130 77 = some (.ireturn, 0, 0, 0) := by decide +kernel
theorem at_130_78 : j_at 130 78 = some (.aload_n 0, 0, 0, 0) := by decide +kernel
theorem at_130_79 : j_at 130 79 = some (.getfield 88, 12, 11, 0) := by decide +kernel
theorem at_130_82 : j_at 130 82 = some (.ifCond .eq 16, 98, 0, 0) := by decide +kernel
theorem at_130_85 : j_at 130 85 = some (.aload_n 0, 0, 0, 0) := by decide +kernel
theorem at_130_86 : j_at 130 86 = some (.getfield 31, 12, 3, 0) := by decide +kernel
theorem at_130_89 : j_at 130 89 = some (.getfield 161, 5, 0, 0) := by decide +kernel
theorem at_130_92 : j_at 130 92 = some (.getfield 165, 7, 0, 0) := by decide +kernel
theorem at_130_95 : j_at 130 95 = some (.goto 4, 99, 0, 0) := by decide +kernel
theorem at_130_98 : j_at 130 98 = some (.iconst 0, 0, 0, 0) := by decide +kernel
theorem at_130_99 : j_at 130 99 = some (.ireturn, 0, 0, 0) := by decide +kernel
theorem at_130_100 : j_at 130 100 = some (.aload_n 0, 0, 0, 0) := by decide +kernel
theorem at_130_101 : j_at 130 101 = some (.getfield 88, 12, 11, 0) := by decide +kernel
theorem at_130_104 : j_at 130 104 = some (.ifCond .eq 16, 120, 0, 0) := by decide +kernel
theorem at_130_107 : j_at 130 107 = some (.aload_n 0, 0, 0, 0) := by decide +kernel
theorem at_130_108 : j_at 130 108 = some (.getfield 31, 12, 3, 0) := by decide +kernel
theorem at_130_111 : j_at 130 111 = some (.getfield 206, 5, 1, 0) := by decide +kernel
theorem at_130_114 : j_at 130 114 = some (.getfield 373, 2, 0, 0) := by decide +kernel
theorem at_130_117 : j_at 130 117 = some (.goto 4, 121, 0, 0) := by decide +kernel
theorem at_130_120 : j_at 130 120 = some (.iconst 0, 0, 0, 0) := by decide +kernel
theorem at_130_121 : j_at 130 121 = some (.ireturn, 0, 0, 0) := by decide +kernel
theorem at_130_122 : j_at 130 122 = some (.aload_n 0, 0, 0, 0) := by decide +kernel
theorem at_130_123 : j_at 130 123 = some (.getfield 88, 12, 11, 0) := by decide +kernel
theorem at_130_126 : j_at 130 126 = some (.ifCond .eq 16, 142, 0, 0) := by decide +kernel
theorem at_130_129 : j_at 130 129 = some (.aload_n 0, 0, 0, 0) := by decide +kernel
theorem at_130_130 : j_at 130 130 = some (.getfield 31, 12, 3, 0) := by decide +kernel
theorem at_130_133 : j_at 130 133 = some (.getfield 161, 5, 0, 0) := by decide +kernel
theorem at_130_136 : j_at 130 136 = some (.getfield 374, 7, 2, 0) := by decide +kernel
theorem at_130_139 : j_at 130 139 = some (.goto 4, 143, 0, 0) := by decide +kernel
theorem at_130_142 : j_at 130 142 = some (.iconst 0, 0, 0, 0) := by decide +kernel
theorem at_130_143 : j_at 130 143 = some (.ireturn, 0, 0, 0) := by decide +kernel
theorem at_130_144 : j_at 130 144 = some (.aload_n 0, 0, 0, 0) := by decide +kernel
theorem at_130_145 : j_at 130 145 = some (.getfield 14, 12, 0, 0) := by decide +kernel
theorem at_130_148 : j_at 130 148 = some (.getfield 300, 6, 5, 0) := by decide +kernel
theorem at_130_151 : j_at 130 151 = some (.ireturn, 0, 0, 0) := by decide +kernel
theorem at_130_152 : j_at 130 152 = some (.aload_n 0, 0, 0, 0) := by decide +kernel
theorem at_130_153 : j_at 130 153 = some (.getfield 14, 12, 0, 0) := by decide +kernel
theorem at_130_156 : j_at 130 156 = some (.getfield 328, 6, 8, 0) := by decide +kernel
theorem at_130_159 : j_at 130 159 = some (.ireturn, 0, 0, 0) := by decide +kernel
theorem at_130_160 : j_at 130 160 = some (.aload_n 0, 0, 0, 0) := by decide +kernel
theorem at_130_161 : j_at 130 161 = some (.getfield 14, 12, 0, 0) := by decide +kernel
theorem at_130_164 : j_at 130 164 = some (.getfield 100, 6, 1, 0) := by decide +kernel
theorem at_130_167 : j_at 130 167 = some (.getfield 257, 4, 0, 0) := by decide +kernel
theorem at_130_170 : j_at 130 170 = some (.ireturn, 0, 0, 0) := by decide +kernel
theorem at_130_171 : j_at 130 171 = some (.aload_n 0, 0, 0, 0) := by decide +kernel
theorem at_130_172 : j_at 130 172 = some (.getfield 62, 12, 8, 0) := by decide +kernel
theorem at_130_175 : j_at 130 175 = some (.getfield 136, 9, 0, 0) := by decide +kernel
theorem at_130_178 : j_at 130 178 = some (.ireturn, 0, 0, 0) := by decide +kernel
theorem at_130_179 : j_at 130 179 = some (.aload_n 0, 0, 0, 0) := by decide +kernel
theorem at_130_180 : j_at 130 180 = some (.getfield 14, 12, 0, 0) := by decide +kernel
theorem at_130_183 : j_at 130 183 = some (.getfield 231, 6, 4, 0) := by decide +kernel
theorem at_130_186 : j_at 130 186 = some (.ireturn, 0, 0, 0) := by decide +kernel
theorem at_130_187 : j_at 130 187 = some (.bipush (-2), 0, 0, -2) := by decide +kernel
theorem at_130_189 : j_at 130 189 = some (.ireturn, 0, 0, 0) := by decide +kernel
theorem at_131_0 : j_at 131 0 = some (.iload_n 1, 0, 0, 0) := by decide +kernel
theorem at_131_1 : j_at 131 1 = some (.invokestatic 350, 142, 1, 0) := by decide +kernel
theorem at_131_4 : j_at 131 4 = some (.ifCond .ne 5, 9, 0, 0) := by decide +kernel
theorem at_131_7 : j_at 131 7 = some (.iconst (-1), 0, 0, -1) := by decide +kernel
theorem at_131_8 : j_at 131 8 = some (.ireturn, 0, 0, 0) := by decide +kernel
theorem at_131_9 : j_at 131 9 = some (.iload_n 2, 0, 0, 0) := by decide +kernel
theorem at_131_10 : j_at 131 10 = some (.iconst (-1), 0, 0, -1) := by decide +kernel
theorem at_131_11 : j_at 131 11 = some (.if_icmp .lt 8, 19, 0, 0) := by decide +kernel
theorem at_131_14 : j_at 131 14 = some (.iload_n 2, 0, 0, 0) := by decide +kernel
theorem at_131_15 : j_at 131 15 = some (.iconst 4, 0, 0, 4) := by decide +kernel
theorem at_131_16 : j_at 131 16 = some (.if_icmp .le 6, 22, 0, 0) := by decide +kernel
theorem at_131_19 : j_at 131 19 = some (.bipush (-2), 0, 0, -2) := by decide +kernel
theorem at_131_21 : j_at 131 21 = some (.ireturn, 0, 0, 0) := by decide +kernel
theorem at_131_22 : j_at 131 22 = some (.iload_n 2, 0, 0, 0) := by decide +kernel
theorem at_131_23 : j_at 131 23 = some (.iconst (-1), 0, 0, -1) := by decide +kernel
theorem at_131_24 : j_at 131 24 = some (.if_icmp .eq 12, 36, 0, 0) := by decide +kernel
theorem at_131_27 : j_at 131 27 = some (.iload_n 3, 0, 0, 0) := by decide +kernel
theorem at_131_28 : j_at 131 28 = some (.bipush 60, 0, 0, 60) := by decide +kernel
theorem at_131_30 : j_at 131 30 = some (.if_icmp .le 6, 36, 0, 0) := by decide +kernel
theorem at_131_33 : j_at 131 33 = some (.bipush (-2), 0, 0, -2) := by decide +kernel
theorem at_131_35 : j_at 131 35 = some (.ireturn, 0, 0, 0) := by decide +kernel
theorem at_131_36 : j_at 131 36 = some (.iload_n 2, 0, 0, 0) := by decide +kernel
theorem at_131_37 : j_at 131 37 = some (.iconst (-1), 0, 0, -1) := by decide +kernel
theorem at_131_38 : j_at 131 38 = some (.if_icmp .eq 10, 48, 0, 0) := by decide +kernel
theorem at_131_41 : j_at 131 41 = some (.iload_n 3, 0, 0, 0) := by decide +kernel
theorem at_131_42 : j_at 131 42 = some (.ifCond .ge 6, 48, 0, 0) := by decide +kernel
theorem at_131_45 : j_at 131 45 = some (.bipush (-14), 0, 0, -14) := by decide +kernel
theorem at_131_47 : j_at 131 47 = some (.ireturn, 0, 0, 0) := by decide +kernel
theorem at_131_48 : j_at 131 48 = some (.aload_n 0, 0, 0, 0) := by decide +kernel
theorem at_131_49 : j_at 131 49 = some (.getfield 69, 12, 9, 0) := by decide +kernel
theorem at_131_52 : j_at 131 52 = some (.iload_n 1, 0, 0, 0) := by decide +kernel
theorem at_131_53 : j_at 131 53 = some (.iload_n 2, 0, 0, 0) := by decide +kernel
theorem at_131_54 : j_at 131 54 = some (.iload_n 2, 0, 0, 0) := by decide +kernel
theorem at_131_55 : j_at 131 55 = some (.iconst (-1), 0, 0, -1) := by decide +kernel
theorem at_131_56 : j_at 131 56 = some (.if_icmp .ne 7, 63, 0, 0) := by decide +kernel
theorem at_131_59 : j_at 131 59 = some (.iconst 0, 0, 0, 0) := by decide +kernel
theorem at_131_60 : j_at 131 60 = some (.goto 4, 64, 0, 0) := by decide +kernel
theorem at_131_63 : j_at 131 63 = some (.iload_n 3, 0, 0, 0) := by decide +kernel
theorem at_131_64 : j_at 131 64 = some (.invokevirtual 375, 61, 3, 0) := by decide +kernel
theorem at_131_67 : j_at 131 67 = some (.iconst 1, 0, 0, 1) := by decide +kernel
theorem at_131_68 : j_at 131 68 = some (.ireturn, 0, 0, 0) := by decide +kernel
theorem at_132_0 : j_at 132 0 = some (.iload_n 1, 0, 0, 0) := by decide +kernel
theorem at_132_1 : j_at 132 1 = some (.invokestatic 350, 142, 1, 0) := by decide +kernel
theorem at_132_4 : j_at 132 4 = some (.ifCond .ne 5, 9, 0, 0) := by decide +kernel
theorem at_132_7 : j_at 132 7 = some (.iconst (-1), 0, 0, -1) := by decide +kernel
theorem at_132_8 : j_at 132 8 = some (.ireturn, 0, 0, 0) := by decide +kernel
theorem at_132_9 : j_at 132 9 = some (.aload_n 0, 0, 0, 0) := by decide +kernel
theorem at_132_10 : j_at 132 10 = some (.getfield 69, 12, 9, 0) := by decide +kernel
theorem at_132_13 : j_at 132 13 = some (.getfield 353, 8, 0, 0) := by decide +kernel
theorem at_132_16 : j_at 132 16 = some (.iload_n 1, 0, 0, 0) := by decide +kernel
theorem at_132_17 : j_at 132 17 = some (.iaload, 0, 0, 0) := by decide +kernel
theorem at_132_18 : j_at 132 18 = some (.iconst (-1), 0, 0, -1) := by decide +kernel
theorem at_132_19 : j_at 132 19 = some (.if_icmp .ne 6, 25, 0, 0) := by decide +kernel
theorem at_132_22 : j_at 132 22 = some (.bipush (-11), 0, 0, -11) := by decide +kernel
theorem at_132_24 : j_at 132 24 = some (.ireturn, 0, 0, 0) := by decide +kernel
theorem at_132_25 : j_at 132 25 = some (.iload_n 2, 0, 0, 0) := by decide +kernel
theorem at_132_26 : j_at 132 26 = some (.ifCond .lt 16, 42, 0, 0) := by decide +kernel
theorem at_132_29 : j_at 132 29 = some (.iload_n 2, 0, 0, 0) := by decide +kernel
theorem at_132_30 : j_at 132 30 = some (.aload_n 0, 0, 0, 0) := by decide +kernel
theorem at_132_31 : j_at 132 31 = some (.getfield 69, 12, 9, 0) := by decide +kernel
theorem at_132_34 : j_at 132 34 = some (.getfield 357, 8, 1, 0) := by decide +kernel
theorem at_132_37 : j_at 132 37 = some (.iload_n 1, 0, 0, 0) := by decide +kernel
theorem at_132_38 : j_at 132 38 = some (.iaload, 0, 0, 0) := by decide +kernel
theorem at_132_39 : j_at 132 39 = some (.if_icmp .lt 6, 45, 0, 0) := by decide +kernel
theorem at_132_42 : j_at 132 42 = some (.bipush (-13), 0, 0, -13) := by decide +kernel
theorem at_132_44 : j_at 132 44 = some (.ireturn, 0, 0, 0) := by decide +kernel
theorem at_132_45 : j_at 132 45 = some (.aload_n 0, 0, 0, 0) := by decide +kernel
theorem at_132_46 : j_at 132 46 = some (.getfield 69, 12, 9, 0) := by decide +kernel
theorem at_132_49 : j_at 132 49 = some (.getfield 360, 8, 2, 0) := by decide +kernel
theorem at_132_52 : j_at 132 52 = some (.iload_n 1, 0, 0, 0) := by decide +kernel
theorem at_132_53 : j_at 132 53 = some (.aaload, 0, 0, 0) := by decide +kernel
theorem at_132_54 : j_at 132 54 = some (.iload_n 2, 0, 0, 0) := by decide +kernel
theorem at_132_55 : j_at 132 55 = some (.aload_n 0, 0, 0, 0) := by decide +kernel
theorem at_132_56 : j_at 132 56 = some (.getfield 69, 12, 9, 0) := by decide +kernel
theorem at_132_59 : j_at 132 59 = some (.aload_n 0, 0, 0, 0) := by decide +kernel
theorem at_132_60 : j_at 132 60 = some (.getfield 69, 12, 9, 0) := by decide +kernel
theorem at_132_63 : j_at 132 63 = some (.getfield 353, 8, 0, 0) := by decide +kernel
theorem at_132_66 : j_at 132 66 = some (.iload_n 1, 0, 0, 0) := by decide +kernel
theorem at_132_67 : j_at 132 67 = some (.iaload, 0, 0, 0) := by decide +kernel
theorem at_132_68 : j_at 132 68 = some (.lload_n 3, 0, 0, 0) := by decide +kernel
theorem at_132_69 : j_at 132 69 = some (.invokevirtual 378, 62, 2, 0) := by decide +kernel
theorem at_132_72 : j_at 132 72 = some (.lastore, 0, 0, 0) := by decide +kernel
theorem at_132_73 : j_at 132 73 = some (.iconst 1, 0, 0, 1) := by decide +kernel
theorem at_132_74 : j_at 132 74 = some (.ireturn, 0, 0, 0) := by decide +kernel
theorem at_135_0 : j_at 135 0 = some (.iload_n 1, 0, 0, 0) := by decide +kernel
theorem at_135_1 : j_at 135 1 = some (.ifCond .lt 21, 22, 0, 0) := by decide +kernel
theorem at_135_4 : j_at 135 4 = some (.iload_n 1, 0, 0, 0) := by decide +kernel
theorem at_135_5 : j_at 135 5 = some (.aload_n 0, 0, 0, 0) := by decide +kernel
theorem at_135_6 : j_at 135 6 = some (.getfield 14, 12, 0, 0) := by decide +kernel
theorem at_135_9 : j_at 135 9 = some (.getfield 77, 6, 0, 0) := by decide +kernel
theorem at_135_12 : j_at 135 12 = some (.getfield 80, 3, 0, 0) := by decide +kernel
theorem at_135_15 : j_at 135 15 = some (.if_icmp .ge 7, 22, 0, 0) := by decide +kernel
theorem at_135_18 : j_at 135 18 = some (.iconst 1, 0, 0, 1) := by decide +kernel
theorem at_135_19 : j_at 135 19 = some (.goto 4, 23, 0, 0) := by decide +kernel
theorem at_135_22 : j_at 135 22 = some (.iconst 0, 0, 0, 0) := by decide +kernel
theorem at_135_23 : j_at 135 23 = some (.ireturn, 0, 0, 0) := by decide +kernel
theorem at_136_0 : j_at 136 0 = some (.iload_n 1, 0, 0, 0) := by decide +kernel
theorem at_136_1 : j_at 136 1 = some (.ifCond .lt 21, 22, 0, 0) := by decide +kernel
theorem at_136_4 : j_at 136 4 = some (.iload_n 1, 0, 0, 0) := by decide +kernel
theorem at_136_5 : j_at 136 5 = some (.aload_n 0, 0, 0, 0) := by decide +kernel
theorem at_136_6 : j_at 136 6 = some (.getfield 14, 12, 0, 0) := by decide +kernel
theorem at_136_9 : j_at 136 9 = some (.getfield 77, 6, 0, 0) := by decide +kernel
theorem at_136_12 : j_at 136 12 = some (.getfield 109, 3, 1, 0) := by decide +kernel
theorem at_136_15 : j_at 136 15 = some (.if_icmp .ge 7, 22, 0, 0) := by decide +kernel
theorem at_136_18 : j_at 136 18 = some (.iconst 1, 0, 0, 1) := by decide +kernel
theorem at_136_19 : j_at 136 19 = some (.goto 4, 23, 0, 0) := by decide +kernel
theorem at_136_22 : j_at 136 22 = some (.iconst 0, 0, 0, 0) := by decide +kernel
theorem at_136_23 : j_at 136 23 = some (.ireturn, 0, 0, 0) := by decide +kernel
theorem at_138_0 : j_at 138 0 = some (.iload_n 1, 0, 0, 0) := by decide +kernel
theorem at_138_1 : j_at 138 1 = some (.ifCond .lt 25, 26, 0, 0) := by decide +kernel
theorem at_138_4 : j_at 138 4 = some (.iload_n 1, 0, 0, 0) := by decide +kernel
theorem at_138_5 : j_at 138 5 = some (.getstatic 392, 99, 0, 0) := by decide +kernel
theorem at_138_8 : j_at 138 8 = some (.aload_n 0, 0, 0, 0) := by decide +kernel
theorem at_138_9 : j_at 138 9 = some (.getfield 14, 12, 0, 0) := by decide +kernel
theorem at_138_12 : j_at 138 12 = some (.getfield 77, 6, 0, 0) := by decide +kernel
theorem at_138_15 : j_at 138 15 = some (.getfield 80, 3, 0, 0) := by decide +kernel
theorem at_138_18 : j_at 138 18 = some (.iaload, 0, 0, 0) := by decide +kernel
theorem at_138_19 : j_at 138 19 = some (.if_icmp .ge 7, 26, 0, 0) := by decide +kernel
theorem at_138_22 : j_at 138 22 = some (.iconst 1, 0, 0, 1) := by decide +kernel
theorem at_138_23 : j_at 138 23 = some (.goto 4, 27, 0, 0) := by decide +kernel
theorem at_138_26 : j_at 138 26 = some (.iconst 0, 0, 0, 0) := by decide +kernel
theorem at_138_27 : j_at 138 27 = some (.ireturn, 0, 0, 0) := by decide +kernel
theorem at_139_0 : j_at 139 0 = some (.iload_n 0, 0, 0, 0) := by decide +kernel
theorem at_139_1 : j_at 139 1 = some (.bipush (-99), 0, 0, -99) := by decide +kernel
theorem at_139_3 : j_at 139 3 = some (.if_icmp .lt 14, 17, 0, 0) := by decide +kernel
theorem at_139_6 : j_at 139 6 = some (.iload_n 0, 0, 0, 0) := by decide +kernel
theorem at_139_7 : j_at 139 7 = some (.sipush 999, 0, 0, 999) := by decide +kernel
theorem at_139_10 : j_at 139 10 = some (.if_icmp .gt 7, 17, 0, 0) := by decide +kernel
theorem at_139_13 : j_at 139 13 = some (.iconst 1, 0, 0, 1) := by decide +kernel
theorem at_139_14 : j_at 139 14 = some (.goto 4, 18, 0, 0) := by decide +kernel
theorem at_139_17 : j_at 139 17 = some (.iconst 0, 0, 0, 0) := by decide +kernel
theorem at_139_18 : j_at 139 18 = some (.ireturn, 0, 0, 0) := by decide +kernel
theorem at_140_0 : j_at 140 0 = some (.iload_n 0, 0, 0, 0) := by decide +kernel
theorem at_140_1 : j_at 140 1 = some (.bipush (-9), 0, 0, -9) := by decide +kernel
theorem at_140_3 : j_at 140 3 = some (.if_icmp .lt 13, 16, 0, 0) := by decide +kernel
theorem at_140_6 : j_at 140 6 = some (.iload_n 0, 0, 0, 0) := by decide +kernel
theorem at_140_7 : j_at 140 7 = some (.bipush 9, 0, 0, 9) := by decide +kernel
theorem at_140_9 : j_at 140 9 = some (.if_icmp .gt 7, 16, 0, 0) := by decide +kernel
theorem at_140_12 : j_at 140 12 = some (.iconst 1, 0, 0, 1) := by decide +kernel
theorem at_140_13 : j_at 140 13 = some (.goto 4, 17, 0, 0) := by decide +kernel
theorem at_140_16 : j_at 140 16 = some (.iconst 0, 0, 0, 0) := by decide +kernel
theorem at_140_17 : j_at 140 17 = some (.ireturn, 0, 0, 0) := by decide +kernel
theorem at_141_0 : j_at 141 0 = some (.iload_n 0, 0, 0, 0) := by decide +kernel
theorem at_141_1 : j_at 141 1 = some (.ifCond .eq 8, 9, 0, 0) := by decide +kernel
theorem at_141_4 : j_at 141 4 = some (.iload_n 0, 0, 0, 0) := by decide +kernel
theorem at_141_5 : j_at 141 5 = some (.iconst 1, 0, 0, 1) := by decide +kernel
theorem at_141_6 : j_at 141 6 = some (.if_icmp .ne 7, 13, 0, 0) := by decide +kernel
theorem at_141_9 : j_at 141 9 = some (.iconst 1, 0, 0, 1) := by decide +kernel
theorem at_141_10 : j_at 141 10 = some (.goto 4, 14, 0, 0) := by decide +kernel
theorem at_141_13 : j_at 141 13 = some (.iconst 0, 0, 0, 0) := by decide +kernel
theorem at_141_14 : j_at 141 14 = some (.ireturn, 0, 0, 0) := by decide +kernel
theorem at_142_0 : j_at 142 0 = some (.iload_n 0, 0, 0, 0) := by decide +kernel
theorem at_142_1 : j_at 142 1 = some (.ifCond .lt 13, 14, 0, 0) := by decide +kernel
theorem at_142_4 : j_at 142 4 = some (.iload_n 0, 0, 0, 0) := by decide +kernel
theorem at_142_5 : j_at 142 5 = some (.bipush 6, 0, 0, 6) := by decide +kernel
theorem at_142_7 : j_at 142 7 = some (.if_icmp .ge 7, 14, 0, 0) := by decide +kernel
theorem at_142_10 : j_at 142 10 = some (.iconst 1, 0, 0, 1) := by decide +kernel
theorem at_142_11 : j_at 142 11 = some (.goto 4, 15, 0, 0) := by decide +kernel
theorem at_142_14 : j_at 142 14 = some (.iconst 0, 0, 0, 0) := by decide +kernel
theorem at_142_15 : j_at 142 15 = some (.ireturn, 0, 0, 0) := by decide +kernel
theorem at_143_0 : j_at 143 0 = some (.iload_n 0, 0, 0, 0) := by decide +kernel
theorem at_143_1 : j_at 143 1 = some (.ifCond .ne 8, 9, 0, 0) := by decide +kernel
theorem at_143_4 : j_at 143 4 = some (.iload_n 1, 0, 0, 0) := by decide +kernel
theorem at_143_5 : j_at 143 5 = some (.invokestatic 106, 139, 1, 0) := by decide +kernel
theorem at_143_8 : j_at 143 8 = some (.ireturn, 0, 0, 0) := by decide +kernel
theorem at_143_9 : j_at 143 9 = some (.iload_n 0, 0, 0, 0) := by decide +kernel
theorem at_143_10 : j_at 143 10 = some (.iconst 1, 0, 0, 1) := by decide +kernel
theorem at_143_11 : j_at 143 11 = some (.if_icmp .ne 21, 32, 0, 0) := by decide +kernel
theorem at_143_14 : j_at 143 14 = some (.iload_n 1, 0, 0, 0) := by decide +kernel
theorem at_143_15 : j_at 143 15 = some (.ifCond .lt 13, 28, 0, 0) := by decide +kernel
theorem at_143_18 : j_at 143 18 = some (.iload_n 1, 0, 0, 0) := by decide +kernel
theorem at_143_19 : j_at 143 19 = some (.bipush 99, 0, 0, 99) := by decide +kernel
theorem at_143_21 : j_at 143 21 = some (.if_icmp .gt 7, 28, 0, 0) := by decide +kernel
theorem at_143_24 : j_at 143 24 = some (.iconst 1, 0, 0, 1) := by decide +kernel
theorem at_143_25 : j_at 143 25 = some (.goto 11, 36, 0, 0) := by decide +kernel
theorem at_143_28 : j_at 143 28 = some (.iconst 0, 0, 0, 0) := by decide +kernel
theorem at_143_29 : j_at 143 29 = some (.goto 7, 36, 0, 0) := by decide +kernel
theorem at_143_32 : j_at 143 32 = some (.iload_n 1, 0, 0, 0) := by decide +kernel
theorem at_143_33 : j_at 143 33 = some (.invokestatic 119, 140, 1, 0) := by decide +kernel
theorem at_143_36 : j_at 143 36 = some (.ireturn, 0, 0, 0) := by decide +kernel
theorem at_144_0 : j_at 144 0 = some (.lload_n 0, 0, 0, 0) := by decide +kernel
theorem at_144_1 : j_at 144 1 = some (.ldc2_w 395, 0, 0, 1000000000) := by decide +kernel
theorem at_144_4 : j_at 144 4 = some (.lcmp, 0, 0, 0) := by decide +kernel
theorem at_144_5 : j_at 144 5 = some (.ifCond .gt 15, 20, 0, 0) := by decide +kernel
theorem at_144_8 : j_at 144 8 = some (.lload_n 0, 0, 0, 0) := by decide +kernel
theorem at_144_9 : j_at 144 9 = some (.ldc2_w 397, 0, 0, -1000000000) := by decide +kernel
theorem at_144_12 : j_at 144 12 = some (.lcmp, 0, 0, 0) := by decide +kernel
theorem at_144_13 : j_at 144 13 = some (.ifCond .lt 7, 20, 0, 0) := by decide +kernel
theorem at_144_16 : j_at 144 16 = some (.iconst 1, 0, 0, 1) := by decide +kernel
theorem at_144_17 : j_at 144 17 = some (.goto 4, 21, 0, 0) := by decide +kernel
theorem at_144_20 : j_at 144 20 = some (.iconst 0, 0, 0, 0) := by decide +kernel
theorem at_144_21 : j_at 144 21 = some (.ireturn, 0, 0, 0) := by decide +kernel
theorem at_145_0 : j_at 145 0 = some (.aload_n 0, 0, 0, 0) := by decide +kernel
theorem at_145_1 : j_at 145 1 = some (.getfield 35, 12, 4, 0) := by decide +kernel
theorem at_145_4 : j_at 145 4 = some (.aload_n 0, 0, 0, 0) := by decide +kernel
theorem at_145_5 : j_at 145 5 = some (.getfield 24, 12, 2, 0) := by decide +kernel
theorem at_145_8 : j_at 145 8 = some (.bipush 12, 0, 0, 12) := by decide +kernel
theorem at_145_10 : j_at 145 10 = some (.invokevirtual 157, 29, 2, 0) := by decide +kernel
theorem at_145_13 : j_at 145 13 = some (.iconst 1, 0, 0, 1) := by decide +kernel
theorem at_145_14 : j_at 145 14 = some (.if_icmp .eq 5, 19, 0, 0) := by decide +kernel
theorem at_145_17 : j_at 145 17 = some (.iconst 0, 0, 0, 0) := by decide +kernel
theorem at_145_18 : j_at 145 18 = some (.ireturn, 0, 0, 0) := by decide +kernel
theorem at_145_19 : j_at 145 19 = some (.iconst 0, 0, 0, 0) := by decide +kernel
theorem at_145_20 : j_at 145 20 = some (.istore_n 1, 0, 0, 0) := by decide +kernel
theorem at_145_21 : j_at 145 21 = some (.iload_n 1, 0, 0, 0) := by decide +kernel
theorem at_145_22 : j_at 145 22 = some (.aload_n 0, 0, 0, 0) := by decide +kernel
theorem at_145_23 : j_at 145 23 = some (.getfield 14, 12, 0, 0) := by decide +kernel
theorem at_145_26 : j_at 145 26 = some (.getfield 300, 6, 5, 0) := by decide +kernel
theorem at_145_29 : j_at 145 29 = some (.if_icmp .ge 44, 73, 0, 0) := by decide +kernel
theorem at_145_32 : j_at 145 32 = some (.aload_n 0, 0, 0, 0) := by decide +kernel
theorem at_145_33 : j_at 145 33 = some (.getfield 35, 12, 4, 0) := by decide +kernel
theorem at_145_36 : j_at 145 36 = some (.getfield 161, 5, 0, 0) := by decide +kernel
theorem at_145_39 : j_at 145 39 = some (.aload_n 0, 0, 0, 0) := by decide +kernel
theorem at_145_40 : j_at 145 40 = some (.getfield 14, 12, 0, 0) := by decide +kernel
theorem at_145_43 : j_at 145 43 = some (.getfield 399, 6, 6, 0) := by decide +kernel
theorem at_145_46 : j_at 145 46 = some (.iload_n 1, 0, 0, 0) := by decide +kernel
theorem at_145_47 : j_at 145 47 = some (.iaload, 0, 0, 0) := by decide +kernel
theorem at_145_48 : j_at 145 48 = some (.invokevirtual 364, 54, 1, 0) := by decide +kernel
theorem at_145_51 : j_at 145 51 = some (.aload_n 0, 0, 0, 0) := by decide +kernel
theorem at_145_52 : j_at 145 52 = some (.getfield 14, 12, 0, 0) := by decide +kernel
theorem at_145_55 : j_at 145 55 = some (.getfield 402, 6, 7, 0) := by decide +kernel
theorem at_145_58 : j_at 145 58 = some (.iload_n 1, 0, 0, 0) := by decide +kernel
theorem at_145_59 : j_at 145 59 = some (.iaload, 0, 0, 0) := by decide +kernel
theorem at_145_60 : j_at 145 60 = some (.i2l, 0, 0, 0) := by decide +kernel
theorem at_145_61 : j_at 145 61 = some (.lcmp, 0, 0, 0) := by decide +kernel
theorem at_145_62 : j_at 145 62 = some (.ifCond .eq 5, 67, 0, 0) := by decide +kernel
theorem at_145_65 : j_at 145 65 = some (.iconst 0, 0, 0, 0) := by decide +kernel
theorem at_145_66 : j_at 145 66 = some (.ireturn, 0, 0, 0) := by decide +kernel
theorem at_145_67 : j_at 145 67 = some (.iinc 1 1, 0, 0, 0) := by decide +kernel
theorem at_145_70 : j_at 145 70 = some (.goto (-49), 21, 0, 0) := by decide +kernel
theorem at_145_73 : j_at 145 73 = some (.iconst 1, 0, 0, 1) := by decide +kernel
theorem at_145_74 : j_at 145 74 = some (.ireturn, 0, 0, 0) := by decide +kernel
theorem at_146_0 : j_at 146 0 = some (.lload_n 2, 0, 0, 0) := by decide +kernel
theorem at_146_1 : j_at 146 1 = some (.lstore 5, 0, 0, 0) := by decide +kernel
theorem at_146_3 : j_at 146 3 = some (.lload_n 0, 0, 0, 0) := by decide +kernel
theorem at_146_4 : j_at 146 4 = some (.invokestatic 405, 267, 1, 0) := by decide +kernel
theorem at_146_7 : j_at 146 7 = some (.lstore 7, 0, 0, 0) := by decide +kernel
theorem at_146_9 : j_at 146 9 = some (.iconst 0, 0, 0, 0) := by decide +kernel
theorem at_146_10 : j_at 146 10 = some (.istore 9, 0, 0, 0) := by decide +kernel
theorem at_146_12 : j_at 146 12 = some (.iload 9, 0, 0, 0) := by decide +kernel
theorem at_146_14 : j_at 146 14 = some (.sipush 200, 0, 0, 200) := by decide +kernel
theorem at_146_17 : j_at 146 17 = some (.if_icmp .ge 31, 48, 0, 0) := by decide +kernel
theorem at_146_20 : j_at 146 20 = some (.lload 7, 0, 0, 0) := by decide +kernel
theorem at_146_22 : j_at 146 22 = some (.lconst 0, 0, 0, 0) := by decide +kernel
theorem at_146_23 : j_at 146 23 = some (.lcmp, 0, 0, 0) := by decide +kernel
theorem at_146_24 : j_at 146 24 = some (.ifCond .eq 24, 48, 0, 0) := by decide +kernel
theorem at_146_27 : j_at 146 27 = some (.lload 5, 0, 0, 0) := by decide +kernel
theorem at_146_29 : j_at 146 29 = some (.lload 7, 0, 0, 0) := by decide +kernel
theorem at_146_31 : j_at 146 31 = some (.lrem, 0, 0, 0) := by decide +kernel
theorem at_146_32 : j_at 146 32 = some (.lstore 10, 0, 0, 0) := by decide +kernel
theorem at_146_34 : j_at 146 34 = some (.lload 7, 0, 0, 0) := by decide +kernel
theorem at_146_36 : j_at 146 36 = some (.lstore 5, 0, 0, 0) := by decide +kernel
theorem at_146_38 : j_at 146 38 = some (.lload 10, 0, 0, 0) := by decide +kernel
theorem at_146_40 : j_at 146 40 = some (.lstore 7, 0, 0, 0) := by decide +kernel
theorem at_146_42 : j_at 146 42 = some (.iinc 9 1, 0, 0, 0) := by decide +kernel
theorem at_146_45 : j_at 146 45 = some (.goto (-33), 12, 0, 0) := by decide +kernel
theorem at_146_48 : j_at 146 48 = some (.lload 5, 0, 0, 0) := by decide +kernel
theorem at_146_50 : j_at 146 50 = some (.lconst 0, 0, 0, 0) := by decide +kernel
theorem at_146_51 : j_at 146 51 = some (.lcmp, 0, 0, 0) := by decide +kernel
theorem at_146_52 : j_at 146 52 = some (.ifCond .gt 7, 59, 0, 0) := by decide +kernel
theorem at_146_55 : j_at 146 55 = some (.ldc2_w 170, 0, 0, -9223372036854775808) := by decide +kernel
theorem at_146_58 : j_at 146 58 = some (.lreturn, 0, 0, 0) := by decide +kernel
theorem at_146_59 : j_at 146 59 = some (.iload 4, 0, 0, 0) := by decide +kernel
theorem at_146_61 : j_at 146 61 = some (.ifCond .ne 7, 68, 0, 0) := by decide +kernel
theorem at_146_64 : j_at 146 64 = some (.lload_n 0, 0, 0, 0) := by decide +kernel
theorem at_146_65 : j_at 146 65 = some (.goto 4, 69, 0, 0) := by decide +kernel
theorem at_146_68 : j_at 146 68 = some (.lload_n 2, 0, 0, 0) := by decide +kernel
theorem at_146_69 : j_at 146 69 = some (.lload 5, 0, 0, 0) := by decide +kernel
theorem at_146_71 : j_at 146 71 = some (.ldiv, 0, 0, 0) := by decide +kernel
theorem at_146_72 : j_at 146 72 = some (.lreturn, 0, 0, 0) := by decide +kernel
theorem at_265_0 : j_at 265 0 = some (.lload_n 0, 0, 0, 0) := by decide +kernel
theorem at_265_1 : j_at 265 1 = some (.lload_n 2, 0, 0, 0) := by decide +kernel
theorem at_265_2 : j_at 265 2 = some (.ldiv, 0, 0, 0) := by decide +kernel
theorem at_265_3 : j_at 265 3 = some (.lstore 4, 0, 0, 0) := by decide +kernel
theorem at_265_5 : j_at 265 5 = some (.lload_n 0, 0, 0, 0) := by decide +kernel
theorem at_265_6 : j_at 265 6 = some (.lload_n 2, 0, 0, 0) := by decide +kernel
theorem at_265_7 : j_at 265 7 = some (.lxor, 0, 0, 0) := by decide +kernel
theorem at_265_8 : j_at 265 8 = some (.lconst 0, 0, 0, 0) := by decide +kernel
theorem at_265_9 : j_at 265 9 = some (.lcmp, 0, 0, 0) := by decide +kernel
theorem at_265_10 : j_at 265 10 = some (.ifCond .ge 17, 27, 0, 0) := by decide +kernel
theorem at_265_13 : j_at 265 13 = some (.lload 4, 0, 0, 0) := by decide +kernel
theorem at_265_15 : j_at 265 15 = some (.lload_n 2, 0, 0, 0) := by decide +kernel
theorem at_265_16 : j_at 265 16 = some (.lmul, 0, 0, 0) := by decide +kernel
theorem at_265_17 : j_at 265 17 = some (.lload_n 0, 0, 0, 0) := by decide +kernel
theorem at_265_18 : j_at 265 18 = some (.lcmp, 0, 0, 0) := by decide +kernel
theorem at_265_19 : j_at 265 19 = some (.ifCond .eq 8, 27, 0, 0) := by decide +kernel
theorem at_265_22 : j_at 265 22 = some (.lload 4, 0, 0, 0) := by decide +kernel
theorem at_265_24 : j_at 265 24 = some (.lconst 1, 0, 0, 1) := by decide +kernel
theorem at_265_25 : j_at 265 25 = some (.lsub, 0, 0, 0) := by decide +kernel
theorem at_265_26 : j_at 265 26 = some (.lreturn, 0, 0, 0) := by decide +kernel
theorem at_265_27 : j_at 265 27 = some (.lload 4, 0, 0, 0) := by decide +kernel
theorem at_265_29 : j_at 265 29 = some (.lreturn, 0, 0, 0) := by decide +kernel
theorem at_266_0 : j_at 266 0 = some (.lload_n 0, 0, 0, 0) := by decide +kernel
theorem at_266_1 : j_at 266 1 = some (.lload_n 2, 0, 0, 0) := by decide +kernel
theorem at_266_2 : j_at 266 2 = some (.lrem, 0, 0, 0) := by decide +kernel
theorem at_266_3 : j_at 266 3 = some (.lstore 4, 0, 0, 0) := by decide +kernel
theorem at_266_5 : j_at 266 5 = some (.lload_n 0, 0, 0, 0) := by decide +kernel
theorem at_266_6 : j_at 266 6 = some (.lload_n 2, 0, 0, 0) := by decide +kernel
theorem at_266_7 : j_at 266 7 = some (.lxor, 0, 0, 0) := by decide +kernel
theorem at_266_8 : j_at 266 8 = some (.lconst 0, 0, 0, 0) := by decide +kernel
theorem at_266_9 : j_at 266 9 = some (.lcmp, 0, 0, 0) := by decide +kernel
theorem at_266_10 : j_at 266 10 = some (.ifCond .ge 15, 25, 0, 0) := by decide +kernel
theorem at_266_13 : j_at 266 13 = some (.lload 4, 0, 0, 0) := by decide +kernel
theorem at_266_15 : j_at 266 15 = some (.lconst 0, 0, 0, 0) := by decide +kernel
theorem at_266_16 : j_at 266 16 = some (.lcmp, 0, 0, 0) := by decide +kernel
theorem at_266_17 : j_at 266 17 = some (.ifCond .eq 8, 25, 0, 0) := by decide +kernel
theorem at_266_20 : j_at 266 20 = some (.lload 4, 0, 0, 0) := by decide +kernel
theorem at_266_22 : j_at 266 22 = some (.lload_n 2, 0, 0, 0) := by decide +kernel
theorem at_266_23 : j_at 266 23 = some (.ladd, 0, 0, 0) := by decide +kernel
theorem at_266_24 : j_at 266 24 = some (.lreturn, 0, 0, 0) := by decide +kernel
theorem at_266_25 : j_at 266 25 = some (.lload 4, 0, 0, 0) := by decide +kernel
theorem at_266_27 : j_at 266 27 = some (.lreturn, 0, 0, 0) := by decide +kernel
theorem at_267_0 : j_at 267 0 = some (.lload_n 0, 0, 0, 0) := by decide +kernel
theorem at_267_1 : j_at 267 1 = some (.lconst 0, 0, 0, 0) := by decide +kernel
theorem at_267_2 : j_at 267 2 = some (.lcmp, 0, 0, 0) := by decide +kernel
theorem at_267_3 : j_at 267 3 = some (.ifCond .ge 8, 11, 0, 0) := by decide +kernel
theorem at_267_6 : j_at 267 6 = some (.lload_n 0, 0, 0, 0) := by decide +kernel
theorem at_267_7 : j_at 267 7 = some (.lneg, 0, 0, 0) := by decide +kernel
theorem at_267_8 : j_at 267 8 = some (.goto 4, 12, 0, 0) := by decide +kernel
theorem at_267_11 : j_at 267 11 = some (.lload_n 0, 0, 0, 0) := by decide +kernel
theorem at_267_12 : j_at 267 12 = some (.lreturn, 0, 0, 0) := by decide +kernel
theorem at_269_0 : j_at 269 0 = some (.iconst 0, 0, 0, 0) := by decide +kernel
theorem at_269_1 : j_at 269 1 = some (.istore_n 3, 0, 0, 0) := by decide +kernel
theorem at_269_2 : j_at 269 2 = some (.aload_n 0, 0, 0, 0) := by decide +kernel
theorem at_269_3 : j_at 269 3 = some (.arraylength, 0, 0, 0) := by decide +kernel
theorem at_269_4 : j_at 269 4 = some (.istore 4, 0, 0, 0) := by decide +kernel
theorem at_269_6 : j_at 269 6 = some (.iload_n 3, 0, 0, 0) := by decide +kernel
theorem at_269_7 : j_at 269 7 = some (.iload 4, 0, 0, 0) := by decide +kernel
theorem at_269_9 : j_at 269 9 = some (.if_icmp .ge 13, 22, 0, 0) := by decide +kernel
theorem at_269_12 : j_at 269 12 = some (.aload_n 0, 0, 0, 0) := by decide +kernel
theorem at_269_13 : j_at 269 13 = some (.iload_n 3, 0, 0, 0) := by decide +kernel
theorem at_269_14 : j_at 269 14 = some (.lload_n 1, 0, 0, 0) := by decide +kernel
theorem at_269_15 : j_at 269 15 = some (.lastore, 0, 0, 0) := by decide +kernel
theorem at_269_16 : j_at 269 16 = some (.iinc 3 1, 0, 0, 0) := by decide +kernel
theorem at_269_19 : j_at 269 19 = some (.goto (-13), 6, 0, 0) := by decide +kernel
theorem at_269_22 : j_at 269 22 = some (.return_, 0, 0, 0) := by decide +kernel
theorem at_270_0 : j_at 270 0 = some (.iconst 0, 0, 0, 0) := by decide +kernel
theorem at_270_1 : j_at 270 1 = some (.istore_n 2, 0, 0, 0) := by decide +kernel
theorem at_270_2 : j_at 270 2 = some (.aload_n 0, 0, 0, 0) := by decide +kernel
theorem at_270_3 : j_at 270 3 = some (.arraylength, 0, 0, 0) := by decide +kernel
theorem at_270_4 : j_at 270 4 = some (.istore_n 3, 0, 0, 0) := by decide +kernel
theorem at_270_5 : j_at 270 5 = some (.iload_n 2, 0, 0, 0) := by decide +kernel
theorem at_270_6 : j_at 270 6 = some (.iload_n 3, 0, 0, 0) := by decide +kernel
theorem at_270_7 : j_at 270 7 = some (.if_icmp .ge 13, 20, 0, 0) := by decide +kernel
theorem at_270_10 : j_at 270 10 = some (.aload_n 0, 0, 0, 0) := by decide +kernel
theorem at_270_11 : j_at 270 11 = some (.iload_n 2, 0, 0, 0) := by decide +kernel
theorem at_270_12 : j_at 270 12 = some (.iload_n 1, 0, 0, 0) := by decide +kernel
theorem at_270_13 : j_at 270 13 = some (.iastore, 0, 0, 0) := by decide +kernel
theorem at_270_14 : j_at 270 14 = some (.iinc 2 1, 0, 0, 0) := by decide +kernel
theorem at_270_17 : j_at 270 17 = some (.goto (-12), 5, 0, 0) := by decide +kernel
theorem at_270_20 : j_at 270 20 = some (.return_, 0, 0, 0) := by decide +kernel
theorem at_271_0 : j_at 271 0 = some (.new 20, 12, 0, 0) := by decide +kernel
theorem at_271_3 : j_at 271 3 = some (.dup, 0, 0, 0) := by decide +kernel
theorem at_271_4 : j_at 271 4 = some (.invokespecial 43, 87, 0, 0) := by decide +kernel
theorem at_271_7 : j_at 271 7 = some (.astore_n 1, 0, 0, 0) := by decide +kernel
theorem at_271_8 : j_at 271 8 = some (.aload_n 0, 0, 0, 0) := by decide +kernel
theorem at_271_9 : j_at 271 9 = some (.iconst 0, 0, 0, 0) := by decide +kernel
theorem at_271_10 : j_at 271 10 = some (.invokestatic 25, 308, 2, 0) := by decide +kernel
theorem at_271_13 : j_at 271 13 = some (.istore_n 2, 0, 0, 0) := by decide +kernel
theorem at_271_14 : j_at 271 14 = some (.iconst 2, 0, 0, 2) := by decide +kernel
theorem at_271_15 : j_at 271 15 = some (.iload_n 2, 0, 0, 0) := by decide +kernel
theorem at_271_16 : j_at 271 16 = some (.iconst 3, 0, 0, 3) := by decide +kernel
theorem at_271_17 : j_at 271 17 = some (.iand, 0, 0, 0) := by decide +kernel
theorem at_271_18 : j_at 271 18 = some (.iconst 3, 0, 0, 3) := by decide +kernel
theorem at_271_19 : j_at 271 19 = some (.irem, 0, 0, 0) := by decide +kernel
theorem at_271_20 : j_at 271 20 = some (.iadd, 0, 0, 0) := by decide +kernel
theorem at_271_21 : j_at 271 21 = some (.istore_n 3, 0, 0, 0) := by decide +kernel
theorem at_271_22 : j_at 271 22 = some (.aload_n 1, 0, 0, 0) := by decide +kernel
theorem at_271_23 : j_at 271 23 = some (.iload_n 3, 0, 0, 0) := by decide +kernel
theorem at_271_24 : j_at 271 24 = some (.invokevirtual 44, 88, 1, 0) := by decide +kernel
theorem at_271_27 : j_at 271 27 = some (.iconst 2, 0, 0, 2) := by decide +kernel
theorem at_271_28 : j_at 271 28 = some (.if_icmp .ne 7, 35, 0, 0) := by decide +kernel
theorem at_271_31 : j_at 271 31 = some (.iconst 1, 0, 0, 1) := by decide +kernel
theorem at_271_32 : j_at 271 32 = some (.goto 4, 36, 0, 0) := by decide +kernel
theorem at_271_35 : j_at 271 35 = some (.iconst 0, 0, 0, 0) := by decide +kernel
theorem at_271_36 : j_at 271 36 = some (.istore 4, 0, 0, 0) := by decide +kernel
theorem at_271_38 : j_at 271 38 = some (.iconst 4, 0, 0, 4) := by decide +kernel
theorem at_271_39 : j_at 271 39 = some (.newarray .int, 0, 0, 0) := by decide +kernel
theorem at_271_41 : j_at 271 41 = some (.astore 5, 0, 0, 0) := by decide +kernel
theorem at_271_43 : j_at 271 43 = some (.iconst 0, 0, 0, 0) := by decide +kernel
theorem at_271_44 : j_at 271 44 = some (.istore 6, 0, 0, 0) := by decide +kernel
theorem at_271_46 : j_at 271 46 = some (.iload 6, 0, 0, 0) := by decide +kernel
theorem at_271_48 : j_at 271 48 = some (.iload_n 3, 0, 0, 0) := by decide +kernel
theorem at_271_49 : j_at 271 49 = some (.if_icmp .ge 50, 99, 0, 0) := by decide +kernel
theorem at_271_52 : j_at 271 52 = some (.aload 5, 0, 0, 0) := by decide +kernel
theorem at_271_54 : j_at 271 54 = some (.iload 6, 0, 0, 0) := by decide +kernel
theorem at_271_56 : j_at 271 56 = some (.iload_n 2, 0, 0, 0) := by decide +kernel
theorem at_271_57 : j_at 271 57 = some (.iconst 4, 0, 0, 4) := by decide +kernel
theorem at_271_58 : j_at 271 58 = some (.iconst 4, 0, 0, 4) := by decide +kernel
theorem at_271_59 : j_at 271 59 = some (.iload 6, 0, 0, 0) := by decide +kernel
theorem at_271_61 : j_at 271 61 = some (.imul, 0, 0, 0) := by decide +kernel
theorem at_271_62 : j_at 271 62 = some (.iadd, 0, 0, 0) := by decide +kernel
theorem at_271_63 : j_at 271 63 = some (.ishr, 0, 0, 0) := by decide +kernel
theorem at_271_64 : j_at 271 64 = some (.bipush 15, 0, 0, 15) := by decide +kernel
theorem at_271_66 : j_at 271 66 = some (.iand, 0, 0, 0) := by decide +kernel
theorem at_271_67 : j_at 271 67 = some (.iastore, 0, 0, 0) := by decide +kernel
theorem at_271_68 : j_at 271 68 = some (.iload 4, 0, 0, 0) := by decide +kernel
theorem at_271_70 : j_at 271 70 = some (.aload_n 1, 0, 0, 0) := by decide +kernel
theorem at_271_71 : j_at 271 71 = some (.iload 6, 0, 0, 0) := by decide +kernel
theorem at_271_73 : j_at 271 73 = some (.aload 5, 0, 0, 0) := by decide +kernel
theorem at_271_75 : j_at 271 75 = some (.iload 6, 0, 0, 0) := by decide +kernel
theorem at_271_77 : j_at 271 77 = some (.iaload, 0, 0, 0) := by decide +kernel
theorem at_271_78 : j_at 271 78 = some (.invokevirtual 47, 89, 2, 0) := by decide +kernel
theorem at_271_81 : j_at 271 81 = some (.iconst 1, 0, 0, 1) := by decide +kernel
theorem at_271_82 : j_at 271 82 = some (.if_icmp .ne 7, 89, 0, 0) := by decide +kernel
theorem at_271_85 : j_at 271 85 = some (.iconst 1, 0, 0, 1) := by decide +kernel
theorem at_271_86 : j_at 271 86 = some (.goto 4, 90, 0, 0) := by decide +kernel
theorem at_271_89 : j_at 271 89 = some (.iconst 0, 0, 0, 0) := by decide +kernel
theorem at_271_90 : j_at 271 90 = some (.iand, 0, 0, 0) := by decide +kernel
theorem at_271_91 : j_at 271 91 = some (.istore 4, 0, 0, 0) := by decide +kernel
theorem at_271_93 : j_at 271 93 = some (.iinc 6 1, 0, 0, 0) := by decide +kernel
theorem at_271_96 : j_at 271 96 = some (.goto (-50), 46, 0, 0) := by decide +kernel
theorem at_271_99 : j_at 271 99 = some (.iconst 0, 0, 0, 0) := by decide +kernel
theorem at_271_100 : j_at 271 100 = some (.istore 6, 0, 0, 0) := by decide +kernel
theorem at_271_102 : j_at 271 102 = some (.iconst 0, 0, 0, 0) := by decide +kernel
theorem at_271_103 : j_at 271 103 = some (.istore 7, 0, 0, 0) := by decide +kernel
theorem at_271_105 : j_at 271 105 = some (.iload 7, 0, 0, 0) := by decide +kernel
theorem at_271_107 : j_at 271 107 = some (.iconst 3, 0, 0, 3) := by decide +kernel
theorem at_271_108 : j_at 271 108 = some (.if_icmp .ge 704, 812, 0, 0) := by decide +kernel
theorem at_271_111 : j_at 271 111 = some (.aload_n 0, 0, 0, 0) := by decide +kernel
theorem at_271_112 : j_at 271 112 = some (.iconst 1, 0, 0, 1) := by decide +kernel
theorem at_271_113 : j_at 271 113 = some (.iload 7, 0, 0, 0) := by decide +kernel
theorem at_271_115 : j_at 271 115 = some (.iadd, 0, 0, 0) := by decide +kernel
theorem at_271_116 : j_at 271 116 = some (.invokestatic 25, 308, 2, 0) := by decide +kernel
theorem at_271_119 : j_at 271 119 = some (.istore 8, 0, 0, 0) := by decide +kernel
theorem at_271_121 : j_at 271 121 = some (.iconst 4, 0, 0, 4) := by decide +kernel
theorem at_271_122 : j_at 271 122 = some (.newarray .int, 0, 0, 0) := by decide +kernel
theorem at_271_124 : j_at 271 124 = some (.astore 9, 0, 0, 0) := by decide +kernel
theorem at_271_126 : j_at 271 126 = some (.ldc 50, 1, 0, 0) := by decide +kernel
theorem at_271_128 : j_at 271 128 = some (.astore 10, 0, 0, 0) := by decide +kernel
theorem at_271_130 : j_at 271 130 = some (.iconst 0, 0, 0, 0) := by decide +kernel
theorem at_271_131 : j_at 271 131 = some (.istore 11, 0, 0, 0) := by decide +kernel
theorem at_271_133 : j_at 271 133 = some (.iload 11, 0, 0, 0) := by decide +kernel
theorem at_271_135 : j_at 271 135 = some (.iconst 3, 0, 0, 3) := by decide +kernel
theorem at_271_136 : j_at 271 136 = some (.if_icmp .ge 237, 373, 0, 0) := by decide +kernel
theorem at_271_139 : j_at 271 139 = some (.iload 8, 0, 0, 0) := by decide +kernel
theorem at_271_141 : j_at 271 141 = some (.iconst 4, 0, 0, 4) := by decide +kernel
theorem at_271_142 : j_at 271 142 = some (.iload 11, 0, 0, 0) := by decide +kernel
theorem at_271_144 : j_at 271 144 = some (.imul, 0, 0, 0) := by decide +kernel
theorem at_271_145 : j_at 271 145 = some (.ishr, 0, 0, 0) := by decide +kernel
theorem at_271_146 : j_at 271 146 = some (.bipush 7, 0, 0, 7) := by decide +kernel
theorem at_271_148 : j_at 271 148 = some (.iand, 0, 0, 0) := by decide +kernel
theorem at_271_149 : j_at 271 149 = some (.istore 12, 0, 0, 0) := by decide +kernel
theorem at_271_151 : j_at 271 151 = some (.iload 8, 0, 0, 0) := by decide +kernel
theorem at_271_153 : j_at 271 153 = some (.iconst 4, 0, 0, 4) := by decide +kernel
theorem at_271_154 : j_at 271 154 = some (.iload 11, 0, 0, 0) := by decide +kernel
theorem at_271_156 : j_at 271 156 = some (.imul, 0, 0, 0) := by decide +kernel
theorem at_271_157 : j_at 271 157 = some (.bipush 12, 0, 0, 12) := by decide +kernel
theorem at_271_159 : j_at 271 159 = some (.iadd, 0, 0, 0) := by decide +kernel
theorem at_271_160 : j_at 271 160 = some (.ishr, 0, 0, 0) := by decide +kernel
theorem at_271_161 : j_at 271 161 = some (.bipush 15, 0, 0, 15) := by decide +kernel
theorem at_271_163 : j_at 271 163 = some (.iand, 0, 0, 0) := by decide +kernel
theorem at_271_164 : j_at 271 164 = some (.iload_n 3, 0, 0, 0) := by decide +kernel
theorem at_271_165 : j_at 271 165 = some (.irem, 0, 0, 0) := by decide +kernel
theorem at_271_166 : j_at 271 166 = some (.istore 13, 0, 0, 0) := by decide +kernel
theorem at_271_168 : j_at 271 168 = some (.iload 8, 0, 0, 0) := by decide +kernel
theorem at_271_170 : j_at 271 170 = some (.iconst 4, 0, 0, 4) := by decide +kernel
theorem at_271_171 : j_at 271 171 = some (.iload 11, 0, 0, 0) := by decide +kernel
theorem at_271_173 : j_at 271 173 = some (.imul, 0, 0, 0) := by decide +kernel
theorem at_271_174 : j_at 271 174 = some (.ishr, 0, 0, 0) := by decide +kernel
theorem at_271_175 : j_at 271 175 = some (.bipush 8, 0, 0, 8) := by decide +kernel
theorem at_271_177 : j_at 271 177 = some (.iand, 0, 0, 0) := by decide +kernel
theorem at_271_178 : j_at 271 178 = some (.ifCond .eq 7, 185, 0, 0) := by decide +kernel
theorem at_271_181 : j_at 271 181 = some (.iconst 1, 0, 0, 1) := by decide +kernel
theorem at_271_182 : j_at 271 182 = some (.goto 4, 186, 0, 0) := by decide +kernel
theorem at_271_185 : j_at 271 185 = some (.iconst 0, 0, 0, 0) := by decide +kernel
theorem at_271_186 : j_at 271 186 = some (.istore 14, 0, 0, 0) := by decide +kernel
theorem at_271_188 : j_at 271 188 = some (.aload 9, 0, 0, 0) := by decide +kernel
theorem at_271_190 : j_at 271 190 = some (.iload 13, 0, 0, 0) := by decide +kernel
theorem at_271_192 : j_at 271 192 = some (.iaload, 0, 0, 0) := by decide +kernel
theorem at_271_193 : j_at 271 193 = some (.iload 14, 0, 0, 0) := by decide +kernel
theorem at_271_195 : j_at 271 195 = some (.ifCond .eq 9, 204, 0, 0) := by decide +kernel
theorem at_271_198 : j_at 271 198 = some (.iload 12, 0, 0, 0) := by decide +kernel
theorem at_271_200 : j_at 271 200 = some (.ineg, 0, 0, 0) := by decide +kernel
theorem at_271_201 : j_at 271 201 = some (.goto 5, 206, 0, 0) := by decide +kernel
theorem at_271_204 : j_at 271 204 = some (.iload 12, 0, 0, 0) := by decide +kernel
theorem at_271_206 : j_at 271 206 = some (.iadd, 0, 0, 0) := by decide +kernel
theorem at_271_207 : j_at 271 207 = some (.bipush 9, 0, 0, 9) := by decide +kernel
theorem at_271_209 : j_at 271 209 = some (.if_icmp .gt 31, 240, 0, 0) := by decide +kernel
theorem at_271_212 : j_at 271 212 = some (.aload 9, 0, 0, 0) := by decide +kernel
theorem at_271_214 : j_at 271 214 = some (.iload 13, 0, 0, 0) := by decide +kernel
theorem at_271_216 : j_at 271 216 = some (.iaload, 0, 0, 0) := by decide +kernel
theorem at_271_217 : j_at 271 217 = some (.iload 14, 0, 0, 0) := by decide +kernel
theorem at_271_219 : j_at 271 219 = some (.ifCond .eq 9, 228, 0, 0) := by decide +kernel
theorem at_271_222 : j_at 271 222 = some (.iload 12, 0, 0, 0) := by decide +kernel
theorem at_271_224 : j_at 271 224 = some (.ineg, 0, 0, 0) := by decide +kernel
theorem at_271_225 : j_at 271 225 = some (.goto 5, 230, 0, 0) := by decide +kernel
theorem at_271_228 : j_at 271 228 = some (.iload 12, 0, 0, 0) := by decide +kernel
theorem at_271_230 : j_at 271 230 = some (.iadd, 0, 0, 0) := by decide +kernel
theorem at_271_231 : j_at 271 231 = some (.bipush (-9), 0, 0, -9) := by decide +kernel
theorem at_271_233 : j_at 271 233 = some (.if_icmp .lt 7, 240, 0, 0) := by decide +kernel
theorem at_271_236 : j_at 271 236 = some (.iconst 1, 0, 0, 1) := by decide +kernel
theorem at_271_237 : j_at 271 237 = some (.goto 4, 241, 0, 0) := by decide +kernel
theorem at_271_240 : j_at 271 240 = some (.iconst 0, 0, 0, 0) := by decide +kernel
theorem at_271_241 : j_at 271 241 = some (.istore 15, 0, 0, 0) := by decide +kernel
theorem at_271_243 : j_at 271 243 = some (.iload 15, 0, 0, 0) := by decide +kernel
theorem at_271_245 : j_at 271 245 = some (.ifCond .eq 122, 367, 0, 0) := by decide +kernel
theorem at_271_248 : j_at 271 248 = some (.aload 9, 0, 0, 0) := by decide +kernel
theorem at_271_250 : j_at 271 250 = some (.iload 13, 0, 0, 0) := by decide +kernel
theorem at_271_252 : j_at 271 252 = some (.dup2, 0, 0, 0) := by decide +kernel
theorem at_271_253 : j_at 271 253 = some (.iaload, 0, 0, 0) := by decide +kernel
theorem at_271_254 : j_at 271 254 = some (.iload 14, 0, 0, 0) := by decide +kernel
theorem at_271_256 : j_at 271 256 = some (.ifCond .eq 9, 265, 0, 0) := by decide +kernel
theorem at_271_259 : j_at 271 259 = some (.iload 12, 0, 0, 0) := by decide +kernel
theorem at_271_261 : j_at 271 261 = some (.ineg, 0, 0, 0) := by decide +kernel
theorem at_271_262 : j_at 271 262 = some (.goto 5, 267, 0, 0) := by decide +kernel
theorem at_271_265 : j_at 271 265 = some (.iload 12, 0, 0, 0) := by decide +kernel
theorem at_271_267 : j_at 271 267 = some (.iadd, 0, 0, 0) := by decide +kernel
theorem at_271_268 : j_at 271 268 = some (.iastore, 0, 0, 0) := by decide +kernel
theorem at_271_269 : j_at 271 269 = some (.new 52, 1, 0, 0) := by decide +kernel
theorem at_271_272 : j_at 271 272 = some (.dup, 0, 0, 0) := by decide +kernel
theorem at_271_273 : j_at 271 273 = some (.invokespecial 54, 286, 0, 0) := by decide +kernel
theorem at_271_276 : j_at 271 276 = some (.aload 10, 0, 0, 0) := by decide +kernel
theorem at_271_278 : j_at 271 278 = some (.invokevirtual 55, 283, 1, 0) := by decide +kernel
theorem at_271_281 : j_at 271 281 = some (.iload 14, 0, 0, 0) := by decide +kernel
theorem at_271_283 : j_at 271 283 = some (.ifCond .eq 8, 291, 0, 0) := by decide +kernel
theorem at_271_286 : j_at 271 286 = some (.ldc 59, 1, 1, 0) := by decide +kernel
theorem at_271_288 : j_at 271 288 = some (.goto 18, 306, 0, 0) := by decide +kernel
theorem at_271_291 : j_at 271 291 = some (.aload 10, 0, 0, 0) := by decide +kernel
theorem at_271_293 : j_at 271 293 = some (.invokevirtual 9, 279, 0, 0) := by decide +kernel
theorem at_271_296 : j_at 271 296 = some (.ifCond .le 8, 304, 0, 0) := by decide +kernel
theorem at_271_299 : j_at 271 299 = some (.ldc 61, 1, 2, 0) := by decide +kernel
theorem at_271_301 : j_at 271 301 = some (.goto 5, 306, 0, 0) := by decide +kernel
theorem at_271_304 : j_at 271 304 = some (.ldc 50, 1, 0, 0) := by decide +kernel
theorem at_271_306 : j_at 271 306 = some (.invokevirtual 55, 283, 1, 0) := by decide +kernel
theorem at_271_309 : j_at 271 309 = some (.iload 12, 0, 0, 0) := by decide +kernel
theorem at_271_311 : j_at 271 311 = some (.iconst 1, 0, 0, 1) := by decide +kernel
theorem at_271_312 : j_at 271 312 = some (.if_icmp .ne 18, 330, 0, 0) := by decide +kernel
theorem at_271_315 : j_at 271 315 = some (.iload 8, 0, 0, 0) := by decide +kernel
theorem at_271_317 : j_at 271 317 = some (.bipush 27, 0, 0, 27) := by decide +kernel
theorem at_271_319 : j_at 271 319 = some (.ishr, 0, 0, 0) := by decide +kernel
theorem at_271_320 : j_at 271 320 = some (.iconst 1, 0, 0, 1) := by decide +kernel
theorem at_271_321 : j_at 271 321 = some (.iand, 0, 0, 0) := by decide +kernel
theorem at_271_322 : j_at 271 322 = some (.ifCond .ne 8, 330, 0, 0) := by decide +kernel
theorem at_271_325 : j_at 271 325 = some (.ldc 50, 1, 0, 0) := by decide +kernel
theorem at_271_327 : j_at 271 327 = some (.goto 23, 350, 0, 0) := by decide +kernel
theorem at_271_330 : j_at 271 330 = some (.new 52, 1, 0, 0) := by decide +kernel
theorem at_271_333 : j_at 271 333 = some (.dup, 0, 0, 0) := by decide +kernel
theorem at_271_334 : j_at 271 334 = some (.invokespecial 54, 286, 0, 0) := by decide +kernel
theorem at_271_337 : j_at 271 337 = some (.ldc 50, 1, 0, 0) := by decide +kernel
theorem at_271_339 : j_at 271 339 = some (.invokevirtual 55, 283, 1, 0) := by decide +kernel
theorem at_271_342 : j_at 271 342 = some (.iload 12, 0, 0, 0) := by decide +kernel
theorem at_271_344 : j_at 271 344 = some (.invokevirtual 63, 284, 1, 0) := by decide +kernel
theorem at_271_347 : j_at 271 347 = some (.invokevirtual 66, 288, 0, 0) := by decide +kernel
theorem at_271_350 : j_at 271 350 = some (.invokevirtual 55, 283, 1, 0) := by decide +kernel
theorem at_271_353 : j_at 271 353 = some (.bipush 97, 0, 0, 97) := by decide +kernel
theorem at_271_355 : j_at 271 355 = some (.iload 13, 0, 0, 0) := by decide +kernel
theorem at_271_357 : j_at 271 357 = some (.iadd, 0, 0, 0) := by decide +kernel
theorem at_271_358 : j_at 271 358 = some (.i2c, 0, 0, 0) := by decide +kernel
theorem at_271_359 : j_at 271 359 = some (.invokevirtual 70, 285, 1, 0) := by decide +kernel
theorem at_271_362 : j_at 271 362 = some (.invokevirtual 66, 288, 0, 0) := by decide +kernel
theorem at_271_365 : j_at 271 365 = some (.astore 10, 0, 0, 0) := by decide +kernel
theorem at_271_367 : j_at 271 367 = some (.iinc 11 1, 0, 0, 0) := by decide +kernel
theorem at_271_370 : j_at 271 370 = some (.goto (-237), 133, 0, 0) := by decide +kernel
theorem at_271_373 : j_at 271 373 = some (.iload 8, 0, 0, 0) := by decide +kernel
theorem at_271_375 : j_at 271 375 = some (.bipush 24, 0, 0, 24) := by decide +kernel
theorem at_271_377 : j_at 271 377 = some (.ishr, 0, 0, 0) := by decide +kernel
theorem at_271_378 : j_at 271 378 = some (.bipush 7, 0, 0, 7) := by decide +kernel
theorem at_271_380 : j_at 271 380 = some (.iand, 0, 0, 0) := by decide +kernel
theorem at_271_381 : j_at 271 381 = some (.bipush 15, 0, 0, 15) := by decide +kernel
theorem at_271_383 : j_at 271 383 = some (.imul, 0, 0, 0) := by decide +kernel
theorem at_271_384 : j_at 271 384 = some (.bipush 20, 0, 0, 20) := by decide +kernel
theorem at_271_386 : j_at 271 386 = some (.isub, 0, 0, 0) := by decide +kernel
theorem at_271_387 : j_at 271 387 = some (.istore 11, 0, 0, 0) := by decide +kernel
theorem at_271_389 : j_at 271 389 = some (.new 52, 1, 0, 0) := by decide +kernel
theorem at_271_392 : j_at 271 392 = some (.dup, 0, 0, 0) := by decide +kernel
theorem at_271_393 : j_at 271 393 = some (.invokespecial 54, 286, 0, 0) := by decide +kernel
theorem at_271_396 : j_at 271 396 = some (.aload 10, 0, 0, 0) := by decide +kernel
theorem at_271_398 : j_at 271 398 = some (.invokevirtual 55, 283, 1, 0) := by decide +kernel
theorem at_271_401 : j_at 271 401 = some (.iload 8, 0, 0, 0) := by decide +kernel
theorem at_271_403 : j_at 271 403 = some (.bipush 28, 0, 0, 28) := by decide +kernel
theorem at_271_405 : j_at 271 405 = some (.ishr, 0, 0, 0) := by decide +kernel
theorem at_271_406 : j_at 271 406 = some (.iconst 1, 0, 0, 1) := by decide +kernel
theorem at_271_407 : j_at 271 407 = some (.iand, 0, 0, 0) := by decide +kernel
theorem at_271_408 : j_at 271 408 = some (.ifCond .ne 8, 416, 0, 0) := by decide +kernel
theorem at_271_411 : j_at 271 411 = some (.ldc 73, 1, 3, 0) := by decide +kernel
theorem at_271_413 : j_at 271 413 = some (.goto 5, 418, 0, 0) := by decide +kernel
theorem at_271_416 : j_at 271 416 = some (.ldc 75, 1, 4, 0) := by decide +kernel
theorem at_271_418 : j_at 271 418 = some (.invokevirtual 55, 283, 1, 0) := by decide +kernel
theorem at_271_421 : j_at 271 421 = some (.iload 11, 0, 0, 0) := by decide +kernel
theorem at_271_423 : j_at 271 423 = some (.invokevirtual 63, 284, 1, 0) := by decide +kernel
theorem at_271_426 : j_at 271 426 = some (.invokevirtual 66, 288, 0, 0) := by decide +kernel
theorem at_271_429 : j_at 271 429 = some (.astore 10, 0, 0, 0) := by decide +kernel
theorem at_271_431 : j_at 271 431 = some (.iload 8, 0, 0, 0) := by decide +kernel
theorem at_271_433 : j_at 271 433 = some (.bipush 29, 0, 0, 29) := by decide +kernel
theorem at_271_435 : j_at 271 435 = some (.ishr, 0, 0, 0) := by decide +kernel
theorem at_271_436 : j_at 271 436 = some (.iconst 3, 0, 0, 3) := by decide +kernel
theorem at_271_437 : j_at 271 437 = some (.iand, 0, 0, 0) := by decide +kernel
theorem at_271_438 : j_at 271 438 = some (.istore 12, 0, 0, 0) := by decide +kernel
theorem at_271_440 : j_at 271 440 = some (.iload 12, 0, 0, 0) := by decide +kernel
theorem at_271_442 : j_at 271 442 = some (.ifCond .ne 232, 674, 0, 0) := by decide +kernel
theorem at_271_445 : j_at 271 445 = some (.aload 10, 0, 0, 0) := by decide +kernel
theorem at_271_447 : j_at 271 447 = some (.invokevirtual 9, 279, 0, 0) := by decide +kernel
theorem at_271_450 : j_at 271 450 = some (.istore 13, 0, 0, 0) := by decide +kernel
theorem at_271_452 : j_at 271 452 = some (.iload 4, 0, 0, 0) := by decide +kernel
theorem at_271_454 : j_at 271 454 = some (.aload_n 1, 0, 0, 0) := by decide +kernel
theorem at_271_455 : j_at 271 455 = some (.new 52, 1, 0, 0) := by decide +kernel
theorem at_271_458 : j_at 271 458 = some (.dup, 0, 0, 0) := by decide +kernel
theorem at_271_459 : j_at 271 459 = some (.invokespecial 54, 286, 0, 0) := by decide +kernel
theorem at_271_462 : j_at 271 462 = some (.aload 10, 0, 0, 0) := by decide +kernel
theorem at_271_464 : j_at 271 464 = some (.invokevirtual 55, 283, 1, 0) := by decide +kernel
theorem at_271_467 : j_at 271 467 = some (.ldc 77, 1, 5, 0) := by decide +kernel
theorem at_271_469 : j_at 271 469 = some (.invokevirtual 55, 283, 1, 0) := by decide +kernel
theorem at_271_472 : j_at 271 472 = some (.invokevirtual 66, 288, 0, 0) := by decide +kernel
theorem at_271_475 : j_at 271 475 = some (.invokestatic 79, 309, 2, 0) := by decide +kernel
theorem at_271_478 : j_at 271 478 = some (.ifCond .eq 40, 518, 0, 0) := by decide +kernel
theorem at_271_481 : j_at 271 481 = some (.aload_n 1, 0, 0, 0) := by decide +kernel
theorem at_271_482 : j_at 271 482 = some (.invokevirtual 83, 95, 0, 0) := by decide +kernel
theorem at_271_485 : j_at 271 485 = some (.bipush (-10), 0, 0, -10) := by decide +kernel
theorem at_271_487 : j_at 271 487 = some (.iload 13, 0, 0, 0) := by decide +kernel
theorem at_271_489 : j_at 271 489 = some (.isub, 0, 0, 0) := by decide +kernel
theorem at_271_490 : j_at 271 490 = some (.iconst 2, 0, 0, 2) := by decide +kernel
theorem at_271_491 : j_at 271 491 = some (.isub, 0, 0, 0) := by decide +kernel
theorem at_271_492 : j_at 271 492 = some (.if_icmp .ne 26, 518, 0, 0) := by decide +kernel
theorem at_271_495 : j_at 271 495 = some (.aload_n 1, 0, 0, 0) := by decide +kernel
theorem at_271_496 : j_at 271 496 = some (.bipush 8, 0, 0, 8) := by decide +kernel
theorem at_271_498 : j_at 271 498 = some (.invokevirtual 86, 130, 1, 0) := by decide +kernel
theorem at_271_501 : j_at 271 501 = some (.ifCond .ne 17, 518, 0, 0) := by decide +kernel
theorem at_271_504 : j_at 271 504 = some (.aload_n 1, 0, 0, 0) := by decide +kernel
theorem at_271_505 : j_at 271 505 = some (.iconst 1, 0, 0, 1) := by decide +kernel
theorem at_271_506 : j_at 271 506 = some (.invokevirtual 86, 130, 1, 0) := by decide +kernel
theorem at_271_509 : j_at 271 509 = some (.iload 6, 0, 0, 0) := by decide +kernel
theorem at_271_511 : j_at 271 511 = some (.if_icmp .ne 7, 518, 0, 0) := by decide +kernel
theorem at_271_514 : j_at 271 514 = some (.iconst 1, 0, 0, 1) := by decide +kernel
theorem at_271_515 : j_at 271 515 = some (.goto 4, 519, 0, 0) := by decide +kernel
theorem at_271_518 : j_at 271 518 = some (.iconst 0, 0, 0, 0) := by decide +kernel
theorem at_271_519 : j_at 271 519 = some (.iand, 0, 0, 0) := by decide +kernel
theorem at_271_520 : j_at 271 520 = some (.istore 4, 0, 0, 0) := by decide +kernel
theorem at_271_522 : j_at 271 522 = some (.iload 4, 0, 0, 0) := by decide +kernel
theorem at_271_524 : j_at 271 524 = some (.aload_n 1, 0, 0, 0) := by decide +kernel
theorem at_271_525 : j_at 271 525 = some (.new 52, 1, 0, 0) := by decide +kernel
theorem at_271_528 : j_at 271 528 = some (.dup, 0, 0, 0) := by decide +kernel
theorem at_271_529 : j_at 271 529 = some (.invokespecial 54, 286, 0, 0) := by decide +kernel
theorem at_271_532 : j_at 271 532 = some (.aload 10, 0, 0, 0) := by decide +kernel
theorem at_271_534 : j_at 271 534 = some (.invokevirtual 55, 283, 1, 0) := by decide +kernel
theorem at_271_537 : j_at 271 537 = some (.ldc 89, 1, 6, 0) := by decide +kernel
theorem at_271_539 : j_at 271 539 = some (.invokevirtual 55, 283, 1, 0) := by decide +kernel
theorem at_271_542 : j_at 271 542 = some (.invokevirtual 66, 288, 0, 0) := by decide +kernel
theorem at_271_545 : j_at 271 545 = some (.invokestatic 79, 309, 2, 0) := by decide +kernel
theorem at_271_548 : j_at 271 548 = some (.ifCond .eq 122, 670, 0, 0) := by decide +kernel
theorem at_271_551 : j_at 271 551 = some (.aload_n 1, 0, 0, 0) := by decide +kernel
theorem at_271_552 : j_at 271 552 = some (.invokevirtual 83, 95, 0, 0) := by decide +kernel
theorem at_271_555 : j_at 271 555 = some (.bipush (-10), 0, 0, -10) := by decide +kernel
theorem at_271_557 : j_at 271 557 = some (.iload 13, 0, 0, 0) := by decide +kernel
theorem at_271_559 : j_at 271 559 = some (.isub, 0, 0, 0) := by decide +kernel
theorem at_271_560 : j_at 271 560 = some (.if_icmp .ne 110, 670, 0, 0) := by decide +kernel
theorem at_271_563 : j_at 271 563 = some (.aload_n 1, 0, 0, 0) := by decide +kernel
theorem at_271_564 : j_at 271 564 = some (.new 52, 1, 0, 0) := by decide +kernel
theorem at_271_567 : j_at 271 567 = some (.dup, 0, 0, 0) := by decide +kernel
theorem at_271_568 : j_at 271 568 = some (.invokespecial 54, 286, 0, 0) := by decide +kernel
theorem at_271_571 : j_at 271 571 = some (.aload 10, 0, 0, 0) := by decide +kernel
theorem at_271_573 : j_at 271 573 = some (.invokevirtual 55, 283, 1, 0) := by decide +kernel
theorem at_271_576 : j_at 271 576 = some (.ldc 91, 1, 7, 0) := by decide +kernel
theorem at_271_578 : j_at 271 578 = some (.invokevirtual 55, 283, 1, 0) := by decide +kernel
theorem at_271_581 : j_at 271 581 = some (.invokevirtual 66, 288, 0, 0) := by decide +kernel
theorem at_271_584 : j_at 271 584 = some (.invokestatic 79, 309, 2, 0) := by decide +kernel
theorem at_271_587 : j_at 271 587 = some (.ifCond .eq 83, 670, 0, 0) := by decide +kernel
theorem at_271_590 : j_at 271 590 = some (.aload_n 1, 0, 0, 0) := by decide +kernel
theorem at_271_591 : j_at 271 591 = some (.invokevirtual 83, 95, 0, 0) := by decide +kernel
theorem at_271_594 : j_at 271 594 = some (.bipush (-10), 0, 0, -10) := by decide +kernel
theorem at_271_596 : j_at 271 596 = some (.iload 13, 0, 0, 0) := by decide +kernel
theorem at_271_598 : j_at 271 598 = some (.isub, 0, 0, 0) := by decide +kernel
theorem at_271_599 : j_at 271 599 = some (.iconst 4, 0, 0, 4) := by decide +kernel
theorem at_271_600 : j_at 271 600 = some (.isub, 0, 0, 0) := by decide +kernel
theorem at_271_601 : j_at 271 601 = some (.if_icmp .ne 69, 670, 0, 0) := by decide +kernel
theorem at_271_604 : j_at 271 604 = some (.aload_n 1, 0, 0, 0) := by decide +kernel
theorem at_271_605 : j_at 271 605 = some (.ldc 93, 1, 8, 0) := by decide +kernel
theorem at_271_607 : j_at 271 607 = some (.invokestatic 79, 309, 2, 0) := by decide +kernel
theorem at_271_610 : j_at 271 610 = some (.ifCond .eq 60, 670, 0, 0) := by decide +kernel
theorem at_271_613 : j_at 271 613 = some (.aload_n 1, 0, 0, 0) := by decide +kernel
theorem at_271_614 : j_at 271 614 = some (.invokevirtual 83, 95, 0, 0) := by decide +kernel
theorem at_271_617 : j_at 271 617 = some (.bipush (-15), 0, 0, -15) := by decide +kernel
theorem at_271_619 : j_at 271 619 = some (.if_icmp .ne 51, 670, 0, 0) := by decide +kernel
theorem at_271_622 : j_at 271 622 = some (.aload_n 1, 0, 0, 0) := by decide +kernel
theorem at_271_623 : j_at 271 623 = some (.new 52, 1, 0, 0) := by decide +kernel
theorem at_271_626 : j_at 271 626 = some (.dup, 0, 0, 0) := by decide +kernel
theorem at_271_627 : j_at 271 627 = some (.invokespecial 54, 286, 0, 0) := by decide +kernel
theorem at_271_630 : j_at 271 630 = some (.ldc 50, 1, 0, 0) := by decide +kernel
theorem at_271_632 : j_at 271 632 = some (.invokevirtual 55, 283, 1, 0) := by decide +kernel
theorem at_271_635 : j_at 271 635 = some (.bipush 97, 0, 0, 97) := by decide +kernel
theorem at_271_637 : j_at 271 637 = some (.iload_n 3, 0, 0, 0) := by decide +kernel
theorem at_271_638 : j_at 271 638 = some (.iadd, 0, 0, 0) := by decide +kernel
theorem at_271_639 : j_at 271 639 = some (.i2c, 0, 0, 0) := by decide +kernel
theorem at_271_640 : j_at 271 640 = some (.invokevirtual 70, 285, 1, 0) := by decide +kernel
theorem at_271_643 : j_at 271 643 = some (.ldc 95, 1, 9, 0) := by decide +kernel
theorem at_271_645 : j_at 271 645 = some (.invokevirtual 55, 283, 1, 0) := by decide +kernel
theorem at_271_648 : j_at 271 648 = some (.invokevirtual 66, 288, 0, 0) := by decide +kernel
theorem at_271_651 : j_at 271 651 = some (.invokestatic 79, 309, 2, 0) := by decide +kernel
theorem at_271_654 : j_at 271 654 = some (.ifCond .eq 16, 670, 0, 0) := by decide +kernel
theorem at_271_657 : j_at 271 657 = some (.aload_n 1, 0, 0, 0) := by decide +kernel
theorem at_271_658 : j_at 271 658 = some (.invokevirtual 83, 95, 0, 0) := by decide +kernel
theorem at_271_661 : j_at 271 661 = some (.bipush (-10), 0, 0, -10) := by decide +kernel
theorem at_271_663 : j_at 271 663 = some (.if_icmp .ne 7, 670, 0, 0) := by decide +kernel
theorem at_271_666 : j_at 271 666 = some (.iconst 1, 0, 0, 1) := by decide +kernel
theorem at_271_667 : j_at 271 667 = some (.goto 4, 671, 0, 0) := by decide +kernel
theorem at_271_670 : j_at 271 670 = some (.iconst 0, 0, 0, 0) := by decide +kernel
theorem at_271_671 : j_at 271 671 = some (.iand, 0, 0, 0) := by decide +kernel
theorem at_271_672 : j_at 271 672 = some (.istore 4, 0, 0, 0) := by decide +kernel
theorem at_271_674 : j_at 271 674 = some (.iload 4, 0, 0, 0) := by decide +kernel
theorem at_271_676 : j_at 271 676 = some (.aload_n 1, 0, 0, 0) := by decide +kernel
theorem at_271_677 : j_at 271 677 = some (.aload 10, 0, 0, 0) := by decide +kernel
theorem at_271_679 : j_at 271 679 = some (.invokestatic 79, 309, 2, 0) := by decide +kernel
theorem at_271_682 : j_at 271 682 = some (.ifCond .eq 15, 697, 0, 0) := by decide +kernel
theorem at_271_685 : j_at 271 685 = some (.aload_n 1, 0, 0, 0) := by decide +kernel
theorem at_271_686 : j_at 271 686 = some (.invokevirtual 83, 95, 0, 0) := by decide +kernel
theorem at_271_689 : j_at 271 689 = some (.iconst 1, 0, 0, 1) := by decide +kernel
theorem at_271_690 : j_at 271 690 = some (.if_icmp .ne 7, 697, 0, 0) := by decide +kernel
theorem at_271_693 : j_at 271 693 = some (.iconst 1, 0, 0, 1) := by decide +kernel
theorem at_271_694 : j_at 271 694 = some (.goto 4, 698, 0, 0) := by decide +kernel
theorem at_271_697 : j_at 271 697 = some (.iconst 0, 0, 0, 0) := by decide +kernel
theorem at_271_698 : j_at 271 698 = some (.iand, 0, 0, 0) := by decide +kernel
