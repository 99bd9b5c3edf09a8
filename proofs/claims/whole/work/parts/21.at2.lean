/-! Instructions, a row each (by program). -/
theorem at_202_9 : j_at 202 9 = some (.i2l, 0, 0, 0) := by decide +kernel
theorem at_202_10 : j_at 202 10 = some (.lconst 0, 0, 0, 0) := by decide +kernel
theorem at_202_11 : j_at 202 11 = some (.aload_n 0, 0, 0, 0) := by decide +kernel
theorem at_202_12 : j_at 202 12 = some (.invokevirtual 89, 151, 0, 0) := by decide +kernel
theorem at_202_15 : j_at 202 15 = some (.i2l, 0, 0, 0) := by decide +kernel
theorem at_202_16 : j_at 202 16 = some (.invokestatic 93, 150, 3, 0) := by decide +kernel
theorem at_202_19 : j_at 202 19 = some (.ifCond .ne 9, 28, 0, 0) := by decide +kernel
theorem at_202_22 : j_at 202 22 = some (.ldc2_w 306, 0, 0, -9223372036854775808) := by decide +kernel
theorem at_202_25 : j_at 202 25 = some (.goto 36, 61, 0, 0) := by decide +kernel
theorem at_202_28 : j_at 202 28 = some (.iload_n 2, 0, 0, 0) := by decide +kernel
theorem at_202_29 : j_at 202 29 = some (.aload_n 0, 0, 0, 0) := by decide +kernel
theorem at_202_30 : j_at 202 30 = some (.invokevirtual 89, 151, 0, 0) := by decide +kernel
theorem at_202_33 : j_at 202 33 = some (.if_icmp .ne 15, 48, 0, 0) := by decide +kernel
theorem at_202_36 : j_at 202 36 = some (.aload_n 0, 0, 0, 0) := by decide +kernel
theorem at_202_37 : j_at 202 37 = some (.getfield 30, 12, 9, 0) := by decide +kernel
theorem at_202_40 : j_at 202 40 = some (.getfield 253, 11, 9, 0) := by decide +kernel
theorem at_202_43 : j_at 202 43 = some (.iload_n 1, 0, 0, 0) := by decide +kernel
theorem at_202_44 : j_at 202 44 = some (.laload, 0, 0, 0) := by decide +kernel
theorem at_202_45 : j_at 202 45 = some (.goto 16, 61, 0, 0) := by decide +kernel
theorem at_202_48 : j_at 202 48 = some (.aload_n 0, 0, 0, 0) := by decide +kernel
theorem at_202_49 : j_at 202 49 = some (.getfield 30, 12, 9, 0) := by decide +kernel
theorem at_202_52 : j_at 202 52 = some (.getfield 250, 11, 8, 0) := by decide +kernel
theorem at_202_55 : j_at 202 55 = some (.iconst 5, 0, 0, 5) := by decide +kernel
theorem at_202_56 : j_at 202 56 = some (.iload_n 1, 0, 0, 0) := by decide +kernel
theorem at_202_57 : j_at 202 57 = some (.imul, 0, 0, 0) := by decide +kernel
theorem at_202_58 : j_at 202 58 = some (.iload_n 2, 0, 0, 0) := by decide +kernel
theorem at_202_59 : j_at 202 59 = some (.iadd, 0, 0, 0) := by decide +kernel
theorem at_202_60 : j_at 202 60 = some (.laload, 0, 0, 0) := by decide +kernel
theorem at_202_61 : j_at 202 61 = some (.lreturn, 0, 0, 0) := by decide +kernel
theorem at_203_0 : j_at 203 0 = some (.aload_n 0, 0, 0, 0) := by decide +kernel
theorem at_203_1 : j_at 203 1 = some (.iload_n 1, 0, 0, 0) := by decide +kernel
theorem at_203_2 : j_at 203 2 = some (.invokevirtual 321, 201, 1, 0) := by decide +kernel
theorem at_203_5 : j_at 203 5 = some (.ifCond .eq 37, 42, 0, 0) := by decide +kernel
theorem at_203_8 : j_at 203 8 = some (.iload_n 3, 0, 0, 0) := by decide +kernel
theorem at_203_9 : j_at 203 9 = some (.invokestatic 311, 196, 1, 0) := by decide +kernel
theorem at_203_12 : j_at 203 12 = some (.ifCond .eq 30, 42, 0, 0) := by decide +kernel
theorem at_203_15 : j_at 203 15 = some (.aload_n 0, 0, 0, 0) := by decide +kernel
theorem at_203_16 : j_at 203 16 = some (.iload_n 2, 0, 0, 0) := by decide +kernel
theorem at_203_17 : j_at 203 17 = some (.bipush 10, 0, 0, 10) := by decide +kernel
theorem at_203_19 : j_at 203 19 = some (.isub, 0, 0, 0) := by decide +kernel
theorem at_203_20 : j_at 203 20 = some (.invokevirtual 124, 153, 1, 0) := by decide +kernel
theorem at_203_23 : j_at 203 23 = some (.ifCond .ne 23, 46, 0, 0) := by decide +kernel
theorem at_203_26 : j_at 203 26 = some (.iload_n 2, 0, 0, 0) := by decide +kernel
theorem at_203_27 : j_at 203 27 = some (.i2l, 0, 0, 0) := by decide +kernel
theorem at_203_28 : j_at 203 28 = some (.ldc2_w 324, 0, 0, 20) := by decide +kernel
theorem at_203_31 : j_at 203 31 = some (.bipush 19, 0, 0, 19) := by decide +kernel
theorem at_203_33 : j_at 203 33 = some (.iload_n 1, 0, 0, 0) := by decide +kernel
theorem at_203_34 : j_at 203 34 = some (.iadd, 0, 0, 0) := by decide +kernel
theorem at_203_35 : j_at 203 35 = some (.i2l, 0, 0, 0) := by decide +kernel
theorem at_203_36 : j_at 203 36 = some (.invokestatic 93, 150, 3, 0) := by decide +kernel
theorem at_203_39 : j_at 203 39 = some (.ifCond .ne 7, 46, 0, 0) := by decide +kernel
theorem at_203_42 : j_at 203 42 = some (.ldc2_w 306, 0, 0, -9223372036854775808) := by decide +kernel
theorem at_203_45 : j_at 203 45 = some (.lreturn, 0, 0, 0) := by decide +kernel
theorem at_203_46 : j_at 203 46 = some (.aload_n 0, 0, 0, 0) := by decide +kernel
theorem at_203_47 : j_at 203 47 = some (.getfield 30, 12, 9, 0) := by decide +kernel
theorem at_203_50 : j_at 203 50 = some (.getfield 274, 11, 10, 0) := by decide +kernel
theorem at_203_53 : j_at 203 53 = some (.bipush 20, 0, 0, 20) := by decide +kernel
theorem at_203_55 : j_at 203 55 = some (.iload_n 1, 0, 0, 0) := by decide +kernel
theorem at_203_56 : j_at 203 56 = some (.imul, 0, 0, 0) := by decide +kernel
theorem at_203_57 : j_at 203 57 = some (.iload_n 2, 0, 0, 0) := by decide +kernel
theorem at_203_58 : j_at 203 58 = some (.invokestatic 283, 190, 1, 0) := by decide +kernel
theorem at_203_61 : j_at 203 61 = some (.iadd, 0, 0, 0) := by decide +kernel
theorem at_203_62 : j_at 203 62 = some (.laload, 0, 0, 0) := by decide +kernel
theorem at_203_63 : j_at 203 63 = some (.aload_n 0, 0, 0, 0) := by decide +kernel
theorem at_203_64 : j_at 203 64 = some (.getfield 30, 12, 9, 0) := by decide +kernel
theorem at_203_67 : j_at 203 67 = some (.getfield 277, 11, 11, 0) := by decide +kernel
theorem at_203_70 : j_at 203 70 = some (.iload_n 1, 0, 0, 0) := by decide +kernel
theorem at_203_71 : j_at 203 71 = some (.laload, 0, 0, 0) := by decide +kernel
theorem at_203_72 : j_at 203 72 = some (.iload_n 3, 0, 0, 0) := by decide +kernel
theorem at_203_73 : j_at 203 73 = some (.invokestatic 317, 195, 3, 0) := by decide +kernel
theorem at_203_76 : j_at 203 76 = some (.lreturn, 0, 0, 0) := by decide +kernel
theorem at_204_0 : j_at 204 0 = some (.lconst 0, 0, 0, 0) := by decide +kernel
theorem at_204_1 : j_at 204 1 = some (.lstore_n 3, 0, 0, 0) := by decide +kernel
theorem at_204_2 : j_at 204 2 = some (.iconst 0, 0, 0, 0) := by decide +kernel
theorem at_204_3 : j_at 204 3 = some (.istore 5, 0, 0, 0) := by decide +kernel
theorem at_204_5 : j_at 204 5 = some (.iload 5, 0, 0, 0) := by decide +kernel
theorem at_204_7 : j_at 204 7 = some (.aload_n 0, 0, 0, 0) := by decide +kernel
theorem at_204_8 : j_at 204 8 = some (.getfield 11, 12, 0, 0) := by decide +kernel
theorem at_204_11 : j_at 204 11 = some (.iconst 1, 0, 0, 1) := by decide +kernel
theorem at_204_12 : j_at 204 12 = some (.iaload, 0, 0, 0) := by decide +kernel
theorem at_204_13 : j_at 204 13 = some (.if_icmp .ge 52, 65, 0, 0) := by decide +kernel
theorem at_204_16 : j_at 204 16 = some (.lload_n 3, 0, 0, 0) := by decide +kernel
theorem at_204_17 : j_at 204 17 = some (.aload_n 0, 0, 0, 0) := by decide +kernel
theorem at_204_18 : j_at 204 18 = some (.getfield 30, 12, 9, 0) := by decide +kernel
theorem at_204_21 : j_at 204 21 = some (.getfield 274, 11, 10, 0) := by decide +kernel
theorem at_204_24 : j_at 204 24 = some (.bipush 20, 0, 0, 20) := by decide +kernel
theorem at_204_26 : j_at 204 26 = some (.iload_n 1, 0, 0, 0) := by decide +kernel
theorem at_204_27 : j_at 204 27 = some (.imul, 0, 0, 0) := by decide +kernel
theorem at_204_28 : j_at 204 28 = some (.iload 5, 0, 0, 0) := by decide +kernel
theorem at_204_30 : j_at 204 30 = some (.iadd, 0, 0, 0) := by decide +kernel
theorem at_204_31 : j_at 204 31 = some (.laload, 0, 0, 0) := by decide +kernel
theorem at_204_32 : j_at 204 32 = some (.iload_n 2, 0, 0, 0) := by decide +kernel
theorem at_204_33 : j_at 204 33 = some (.aload_n 0, 0, 0, 0) := by decide +kernel
theorem at_204_34 : j_at 204 34 = some (.invokevirtual 89, 151, 0, 0) := by decide +kernel
theorem at_204_37 : j_at 204 37 = some (.if_icmp .ne 12, 49, 0, 0) := by decide +kernel
theorem at_204_40 : j_at 204 40 = some (.aload_n 0, 0, 0, 0) := by decide +kernel
theorem at_204_41 : j_at 204 41 = some (.iload 5, 0, 0, 0) := by decide +kernel
theorem at_204_43 : j_at 204 43 = some (.invokevirtual 209, 158, 1, 0) := by decide +kernel
theorem at_204_46 : j_at 204 46 = some (.goto 10, 56, 0, 0) := by decide +kernel
theorem at_204_49 : j_at 204 49 = some (.aload_n 0, 0, 0, 0) := by decide +kernel
theorem at_204_50 : j_at 204 50 = some (.iload 5, 0, 0, 0) := by decide +kernel
theorem at_204_52 : j_at 204 52 = some (.iload_n 2, 0, 0, 0) := by decide +kernel
theorem at_204_53 : j_at 204 53 = some (.invokevirtual 217, 157, 2, 0) := by decide +kernel
theorem at_204_56 : j_at 204 56 = some (.lmul, 0, 0, 0) := by decide +kernel
theorem at_204_57 : j_at 204 57 = some (.ladd, 0, 0, 0) := by decide +kernel
theorem at_204_58 : j_at 204 58 = some (.lstore_n 3, 0, 0, 0) := by decide +kernel
theorem at_204_59 : j_at 204 59 = some (.iinc 5 1, 0, 0, 0) := by decide +kernel
theorem at_204_62 : j_at 204 62 = some (.goto (-57), 5, 0, 0) := by decide +kernel
theorem at_204_65 : j_at 204 65 = some (.iconst 0, 0, 0, 0) := by decide +kernel
theorem at_204_66 : j_at 204 66 = some (.istore 5, 0, 0, 0) := by decide +kernel
theorem at_204_68 : j_at 204 68 = some (.iload 5, 0, 0, 0) := by decide +kernel
theorem at_204_70 : j_at 204 70 = some (.iload_n 1, 0, 0, 0) := by decide +kernel
theorem at_204_71 : j_at 204 71 = some (.if_icmp .ge 38, 109, 0, 0) := by decide +kernel
theorem at_204_74 : j_at 204 74 = some (.lload_n 3, 0, 0, 0) := by decide +kernel
theorem at_204_75 : j_at 204 75 = some (.aload_n 0, 0, 0, 0) := by decide +kernel
theorem at_204_76 : j_at 204 76 = some (.getfield 30, 12, 9, 0) := by decide +kernel
theorem at_204_79 : j_at 204 79 = some (.getfield 274, 11, 10, 0) := by decide +kernel
theorem at_204_82 : j_at 204 82 = some (.bipush 20, 0, 0, 20) := by decide +kernel
theorem at_204_84 : j_at 204 84 = some (.iload_n 1, 0, 0, 0) := by decide +kernel
theorem at_204_85 : j_at 204 85 = some (.imul, 0, 0, 0) := by decide +kernel
theorem at_204_86 : j_at 204 86 = some (.bipush 8, 0, 0, 8) := by decide +kernel
theorem at_204_88 : j_at 204 88 = some (.iadd, 0, 0, 0) := by decide +kernel
theorem at_204_89 : j_at 204 89 = some (.iload 5, 0, 0, 0) := by decide +kernel
theorem at_204_91 : j_at 204 91 = some (.iadd, 0, 0, 0) := by decide +kernel
theorem at_204_92 : j_at 204 92 = some (.laload, 0, 0, 0) := by decide +kernel
theorem at_204_93 : j_at 204 93 = some (.aload_n 0, 0, 0, 0) := by decide +kernel
theorem at_204_94 : j_at 204 94 = some (.iload 5, 0, 0, 0) := by decide +kernel
theorem at_204_96 : j_at 204 96 = some (.iload_n 2, 0, 0, 0) := by decide +kernel
theorem at_204_97 : j_at 204 97 = some (.invokevirtual 326, 202, 2, 0) := by decide +kernel
theorem at_204_100 : j_at 204 100 = some (.lmul, 0, 0, 0) := by decide +kernel
theorem at_204_101 : j_at 204 101 = some (.ladd, 0, 0, 0) := by decide +kernel
theorem at_204_102 : j_at 204 102 = some (.lstore_n 3, 0, 0, 0) := by decide +kernel
theorem at_204_103 : j_at 204 103 = some (.iinc 5 1, 0, 0, 0) := by decide +kernel
theorem at_204_106 : j_at 204 106 = some (.goto (-38), 68, 0, 0) := by decide +kernel
theorem at_204_109 : j_at 204 109 = some (.lload_n 3, 0, 0, 0) := by decide +kernel
theorem at_204_110 : j_at 204 110 = some (.aload_n 0, 0, 0, 0) := by decide +kernel
theorem at_204_111 : j_at 204 111 = some (.getfield 30, 12, 9, 0) := by decide +kernel
theorem at_204_114 : j_at 204 114 = some (.getfield 277, 11, 11, 0) := by decide +kernel
theorem at_204_117 : j_at 204 117 = some (.iload_n 1, 0, 0, 0) := by decide +kernel
theorem at_204_118 : j_at 204 118 = some (.laload, 0, 0, 0) := by decide +kernel
theorem at_204_119 : j_at 204 119 = some (.invokestatic 256, 265, 2, 0) := by decide +kernel
theorem at_204_122 : j_at 204 122 = some (.lreturn, 0, 0, 0) := by decide +kernel
theorem at_205_0 : j_at 205 0 = some (.aload_n 0, 0, 0, 0) := by decide +kernel
theorem at_205_1 : j_at 205 1 = some (.iload_n 1, 0, 0, 0) := by decide +kernel
theorem at_205_2 : j_at 205 2 = some (.invokevirtual 321, 201, 1, 0) := by decide +kernel
theorem at_205_5 : j_at 205 5 = some (.ifCond .ne 5, 10, 0, 0) := by decide +kernel
theorem at_205_8 : j_at 205 8 = some (.iconst (-1), 0, 0, -1) := by decide +kernel
theorem at_205_9 : j_at 205 9 = some (.ireturn, 0, 0, 0) := by decide +kernel
theorem at_205_10 : j_at 205 10 = some (.iconst 1, 0, 0, 1) := by decide +kernel
theorem at_205_11 : j_at 205 11 = some (.istore_n 2, 0, 0, 0) := by decide +kernel
theorem at_205_12 : j_at 205 12 = some (.iconst 0, 0, 0, 0) := by decide +kernel
theorem at_205_13 : j_at 205 13 = some (.istore_n 3, 0, 0, 0) := by decide +kernel
theorem at_205_14 : j_at 205 14 = some (.iload_n 3, 0, 0, 0) := by decide +kernel
theorem at_205_15 : j_at 205 15 = some (.aload_n 0, 0, 0, 0) := by decide +kernel
theorem at_205_16 : j_at 205 16 = some (.invokevirtual 89, 151, 0, 0) := by decide +kernel
theorem at_205_19 : j_at 205 19 = some (.if_icmp .gt 33, 52, 0, 0) := by decide +kernel
theorem at_205_22 : j_at 205 22 = some (.iload_n 2, 0, 0, 0) := by decide +kernel
theorem at_205_23 : j_at 205 23 = some (.aload_n 0, 0, 0, 0) := by decide +kernel
theorem at_205_24 : j_at 205 24 = some (.iload_n 1, 0, 0, 0) := by decide +kernel
theorem at_205_25 : j_at 205 25 = some (.iload_n 3, 0, 0, 0) := by decide +kernel
theorem at_205_26 : j_at 205 26 = some (.invokevirtual 329, 204, 2, 0) := by decide +kernel
theorem at_205_29 : j_at 205 29 = some (.aload_n 0, 0, 0, 0) := by decide +kernel
theorem at_205_30 : j_at 205 30 = some (.iload_n 1, 0, 0, 0) := by decide +kernel
theorem at_205_31 : j_at 205 31 = some (.iload_n 3, 0, 0, 0) := by decide +kernel
theorem at_205_32 : j_at 205 32 = some (.invokevirtual 326, 202, 2, 0) := by decide +kernel
theorem at_205_35 : j_at 205 35 = some (.lcmp, 0, 0, 0) := by decide +kernel
theorem at_205_36 : j_at 205 36 = some (.ifCond .ne 7, 43, 0, 0) := by decide +kernel
theorem at_205_39 : j_at 205 39 = some (.iconst 1, 0, 0, 1) := by decide +kernel
theorem at_205_40 : j_at 205 40 = some (.goto 4, 44, 0, 0) := by decide +kernel
theorem at_205_43 : j_at 205 43 = some (.iconst 0, 0, 0, 0) := by decide +kernel
theorem at_205_44 : j_at 205 44 = some (.iand, 0, 0, 0) := by decide +kernel
theorem at_205_45 : j_at 205 45 = some (.istore_n 2, 0, 0, 0) := by decide +kernel
theorem at_205_46 : j_at 205 46 = some (.iinc 3 1, 0, 0, 0) := by decide +kernel
theorem at_205_49 : j_at 205 49 = some (.goto (-35), 14, 0, 0) := by decide +kernel
theorem at_205_52 : j_at 205 52 = some (.iload_n 2, 0, 0, 0) := by decide +kernel
theorem at_205_53 : j_at 205 53 = some (.ifCond .eq 7, 60, 0, 0) := by decide +kernel
theorem at_205_56 : j_at 205 56 = some (.iconst 1, 0, 0, 1) := by decide +kernel
theorem at_205_57 : j_at 205 57 = some (.goto 4, 61, 0, 0) := by decide +kernel
theorem at_205_60 : j_at 205 60 = some (.iconst 0, 0, 0, 0) := by decide +kernel
theorem at_205_61 : j_at 205 61 = some (.ireturn, 0, 0, 0) := by decide +kernel
theorem at_206_0 : j_at 206 0 = some (.aload_n 0, 0, 0, 0) := by decide +kernel
theorem at_206_1 : j_at 206 1 = some (.iload_n 1, 0, 0, 0) := by decide +kernel
theorem at_206_2 : j_at 206 2 = some (.invokevirtual 124, 153, 1, 0) := by decide +kernel
theorem at_206_5 : j_at 206 5 = some (.ifCond .ne 5, 10, 0, 0) := by decide +kernel
theorem at_206_8 : j_at 206 8 = some (.iconst (-1), 0, 0, -1) := by decide +kernel
theorem at_206_9 : j_at 206 9 = some (.ireturn, 0, 0, 0) := by decide +kernel
theorem at_206_10 : j_at 206 10 = some (.iload_n 2, 0, 0, 0) := by decide +kernel
theorem at_206_11 : j_at 206 11 = some (.i2l, 0, 0, 0) := by decide +kernel
theorem at_206_12 : j_at 206 12 = some (.lconst 0, 0, 0, 0) := by decide +kernel
theorem at_206_13 : j_at 206 13 = some (.ldc2_w 129, 0, 0, 9) := by decide +kernel
theorem at_206_16 : j_at 206 16 = some (.invokestatic 93, 150, 3, 0) := by decide +kernel
theorem at_206_19 : j_at 206 19 = some (.ifCond .ne 6, 25, 0, 0) := by decide +kernel
theorem at_206_22 : j_at 206 22 = some (.bipush (-2), 0, 0, -2) := by decide +kernel
theorem at_206_24 : j_at 206 24 = some (.ireturn, 0, 0, 0) := by decide +kernel
theorem at_206_25 : j_at 206 25 = some (.aload_n 0, 0, 0, 0) := by decide +kernel
theorem at_206_26 : j_at 206 26 = some (.getfield 11, 12, 0, 0) := by decide +kernel
theorem at_206_29 : j_at 206 29 = some (.bipush 68, 0, 0, 68) := by decide +kernel
theorem at_206_31 : j_at 206 31 = some (.iload_n 1, 0, 0, 0) := by decide +kernel
theorem at_206_32 : j_at 206 32 = some (.iadd, 0, 0, 0) := by decide +kernel
theorem at_206_33 : j_at 206 33 = some (.iaload, 0, 0, 0) := by decide +kernel
theorem at_206_34 : j_at 206 34 = some (.istore_n 3, 0, 0, 0) := by decide +kernel
theorem at_206_35 : j_at 206 35 = some (.aload_n 0, 0, 0, 0) := by decide +kernel
theorem at_206_36 : j_at 206 36 = some (.getfield 11, 12, 0, 0) := by decide +kernel
theorem at_206_39 : j_at 206 39 = some (.bipush 68, 0, 0, 68) := by decide +kernel
theorem at_206_41 : j_at 206 41 = some (.iload_n 1, 0, 0, 0) := by decide +kernel
theorem at_206_42 : j_at 206 42 = some (.iadd, 0, 0, 0) := by decide +kernel
theorem at_206_43 : j_at 206 43 = some (.iload_n 2, 0, 0, 0) := by decide +kernel
theorem at_206_44 : j_at 206 44 = some (.iastore, 0, 0, 0) := by decide +kernel
theorem at_206_45 : j_at 206 45 = some (.iload_n 3, 0, 0, 0) := by decide +kernel
theorem at_206_46 : j_at 206 46 = some (.ireturn, 0, 0, 0) := by decide +kernel
theorem at_207_0 : j_at 207 0 = some (.iload_n 1, 0, 0, 0) := by decide +kernel
theorem at_207_1 : j_at 207 1 = some (.i2l, 0, 0, 0) := by decide +kernel
theorem at_207_2 : j_at 207 2 = some (.lconst 1, 0, 0, 1) := by decide +kernel
theorem at_207_3 : j_at 207 3 = some (.ldc2_w 332, 0, 0, 10) := by decide +kernel
theorem at_207_6 : j_at 207 6 = some (.invokestatic 93, 150, 3, 0) := by decide +kernel
theorem at_207_9 : j_at 207 9 = some (.ifCond .ne 6, 15, 0, 0) := by decide +kernel
theorem at_207_12 : j_at 207 12 = some (.bipush (-2), 0, 0, -2) := by decide +kernel
theorem at_207_14 : j_at 207 14 = some (.ireturn, 0, 0, 0) := by decide +kernel
theorem at_207_15 : j_at 207 15 = some (.aload_n 0, 0, 0, 0) := by decide +kernel
theorem at_207_16 : j_at 207 16 = some (.getfield 11, 12, 0, 0) := by decide +kernel
theorem at_207_19 : j_at 207 19 = some (.iconst 2, 0, 0, 2) := by decide +kernel
theorem at_207_20 : j_at 207 20 = some (.iaload, 0, 0, 0) := by decide +kernel
theorem at_207_21 : j_at 207 21 = some (.istore_n 2, 0, 0, 0) := by decide +kernel
theorem at_207_22 : j_at 207 22 = some (.aload_n 0, 0, 0, 0) := by decide +kernel
theorem at_207_23 : j_at 207 23 = some (.getfield 11, 12, 0, 0) := by decide +kernel
theorem at_207_26 : j_at 207 26 = some (.iconst 2, 0, 0, 2) := by decide +kernel
theorem at_207_27 : j_at 207 27 = some (.iload_n 1, 0, 0, 0) := by decide +kernel
theorem at_207_28 : j_at 207 28 = some (.iastore, 0, 0, 0) := by decide +kernel
theorem at_207_29 : j_at 207 29 = some (.iload_n 2, 0, 0, 0) := by decide +kernel
theorem at_207_30 : j_at 207 30 = some (.ireturn, 0, 0, 0) := by decide +kernel
theorem at_208_0 : j_at 208 0 = some (.iload_n 1, 0, 0, 0) := by decide +kernel
theorem at_208_1 : j_at 208 1 = some (.i2l, 0, 0, 0) := by decide +kernel
theorem at_208_2 : j_at 208 2 = some (.lconst 0, 0, 0, 0) := by decide +kernel
theorem at_208_3 : j_at 208 3 = some (.aload_n 0, 0, 0, 0) := by decide +kernel
theorem at_208_4 : j_at 208 4 = some (.invokevirtual 89, 151, 0, 0) := by decide +kernel
theorem at_208_7 : j_at 208 7 = some (.i2l, 0, 0, 0) := by decide +kernel
theorem at_208_8 : j_at 208 8 = some (.invokestatic 93, 150, 3, 0) := by decide +kernel
theorem at_208_11 : j_at 208 11 = some (.ifCond .ne 7, 18, 0, 0) := by decide +kernel
theorem at_208_14 : j_at 208 14 = some (.ldc2_w 306, 0, 0, -9223372036854775808) := by decide +kernel
theorem at_208_17 : j_at 208 17 = some (.lreturn, 0, 0, 0) := by decide +kernel
theorem at_208_18 : j_at 208 18 = some (.lconst 0, 0, 0, 0) := by decide +kernel
theorem at_208_19 : j_at 208 19 = some (.lstore_n 2, 0, 0, 0) := by decide +kernel
theorem at_208_20 : j_at 208 20 = some (.iconst 0, 0, 0, 0) := by decide +kernel
theorem at_208_21 : j_at 208 21 = some (.istore 4, 0, 0, 0) := by decide +kernel
theorem at_208_23 : j_at 208 23 = some (.iload 4, 0, 0, 0) := by decide +kernel
theorem at_208_25 : j_at 208 25 = some (.aload_n 0, 0, 0, 0) := by decide +kernel
theorem at_208_26 : j_at 208 26 = some (.getfield 11, 12, 0, 0) := by decide +kernel
theorem at_208_29 : j_at 208 29 = some (.iconst 1, 0, 0, 1) := by decide +kernel
theorem at_208_30 : j_at 208 30 = some (.iaload, 0, 0, 0) := by decide +kernel
theorem at_208_31 : j_at 208 31 = some (.if_icmp .ge 48, 79, 0, 0) := by decide +kernel
theorem at_208_34 : j_at 208 34 = some (.lload_n 2, 0, 0, 0) := by decide +kernel
theorem at_208_35 : j_at 208 35 = some (.aload_n 0, 0, 0, 0) := by decide +kernel
theorem at_208_36 : j_at 208 36 = some (.getfield 11, 12, 0, 0) := by decide +kernel
theorem at_208_39 : j_at 208 39 = some (.bipush 68, 0, 0, 68) := by decide +kernel
theorem at_208_41 : j_at 208 41 = some (.iload 4, 0, 0, 0) := by decide +kernel
theorem at_208_43 : j_at 208 43 = some (.iadd, 0, 0, 0) := by decide +kernel
theorem at_208_44 : j_at 208 44 = some (.iaload, 0, 0, 0) := by decide +kernel
theorem at_208_45 : j_at 208 45 = some (.i2l, 0, 0, 0) := by decide +kernel
theorem at_208_46 : j_at 208 46 = some (.iload_n 1, 0, 0, 0) := by decide +kernel
theorem at_208_47 : j_at 208 47 = some (.aload_n 0, 0, 0, 0) := by decide +kernel
theorem at_208_48 : j_at 208 48 = some (.invokevirtual 89, 151, 0, 0) := by decide +kernel
theorem at_208_51 : j_at 208 51 = some (.if_icmp .ne 12, 63, 0, 0) := by decide +kernel
theorem at_208_54 : j_at 208 54 = some (.aload_n 0, 0, 0, 0) := by decide +kernel
theorem at_208_55 : j_at 208 55 = some (.iload 4, 0, 0, 0) := by decide +kernel
theorem at_208_57 : j_at 208 57 = some (.invokevirtual 209, 158, 1, 0) := by decide +kernel
theorem at_208_60 : j_at 208 60 = some (.goto 10, 70, 0, 0) := by decide +kernel
theorem at_208_63 : j_at 208 63 = some (.aload_n 0, 0, 0, 0) := by decide +kernel
theorem at_208_64 : j_at 208 64 = some (.iload 4, 0, 0, 0) := by decide +kernel
theorem at_208_66 : j_at 208 66 = some (.iload_n 1, 0, 0, 0) := by decide +kernel
theorem at_208_67 : j_at 208 67 = some (.invokevirtual 217, 157, 2, 0) := by decide +kernel
theorem at_208_70 : j_at 208 70 = some (.lmul, 0, 0, 0) := by decide +kernel
theorem at_208_71 : j_at 208 71 = some (.ladd, 0, 0, 0) := by decide +kernel
theorem at_208_72 : j_at 208 72 = some (.lstore_n 2, 0, 0, 0) := by decide +kernel
theorem at_208_73 : j_at 208 73 = some (.iinc 4 1, 0, 0, 0) := by decide +kernel
theorem at_208_76 : j_at 208 76 = some (.goto (-53), 23, 0, 0) := by decide +kernel
theorem at_208_79 : j_at 208 79 = some (.lload_n 2, 0, 0, 0) := by decide +kernel
theorem at_208_80 : j_at 208 80 = some (.aload_n 0, 0, 0, 0) := by decide +kernel
theorem at_208_81 : j_at 208 81 = some (.getfield 11, 12, 0, 0) := by decide +kernel
theorem at_208_84 : j_at 208 84 = some (.iconst 2, 0, 0, 2) := by decide +kernel
theorem at_208_85 : j_at 208 85 = some (.iaload, 0, 0, 0) := by decide +kernel
theorem at_208_86 : j_at 208 86 = some (.invokestatic 334, 264, 2, 0) := by decide +kernel
theorem at_208_89 : j_at 208 89 = some (.lreturn, 0, 0, 0) := by decide +kernel
theorem at_209_0 : j_at 209 0 = some (.aload_n 0, 0, 0, 0) := by decide +kernel
theorem at_209_1 : j_at 209 1 = some (.getfield 30, 12, 9, 0) := by decide +kernel
theorem at_209_4 : j_at 209 4 = some (.getfield 85, 11, 18, 0) := by decide +kernel
theorem at_209_7 : j_at 209 7 = some (.ifCond .ne 6, 13, 0, 0) := by decide +kernel
theorem at_209_10 : j_at 209 10 = some (.bipush (-3), 0, 0, -3) := by decide +kernel
theorem at_209_12 : j_at 209 12 = some (.ireturn, 0, 0, 0) := by decide +kernel
theorem at_209_13 : j_at 209 13 = some (.lconst 0, 0, 0, 0) := by decide +kernel
theorem at_209_14 : j_at 209 14 = some (.lstore_n 1, 0, 0, 0) := by decide +kernel
theorem at_209_15 : j_at 209 15 = some (.iconst 0, 0, 0, 0) := by decide +kernel
theorem at_209_16 : j_at 209 16 = some (.istore_n 3, 0, 0, 0) := by decide +kernel
theorem at_209_17 : j_at 209 17 = some (.iload_n 3, 0, 0, 0) := by decide +kernel
theorem at_209_18 : j_at 209 18 = some (.aload_n 0, 0, 0, 0) := by decide +kernel
theorem at_209_19 : j_at 209 19 = some (.invokevirtual 89, 151, 0, 0) := by decide +kernel
theorem at_209_22 : j_at 209 22 = some (.if_icmp .ge 27, 49, 0, 0) := by decide +kernel
theorem at_209_25 : j_at 209 25 = some (.lload_n 1, 0, 0, 0) := by decide +kernel
theorem at_209_26 : j_at 209 26 = some (.aload_n 0, 0, 0, 0) := by decide +kernel
theorem at_209_27 : j_at 209 27 = some (.iload_n 3, 0, 0, 0) := by decide +kernel
theorem at_209_28 : j_at 209 28 = some (.invokevirtual 337, 208, 1, 0) := by decide +kernel
theorem at_209_31 : j_at 209 31 = some (.aload_n 0, 0, 0, 0) := by decide +kernel
theorem at_209_32 : j_at 209 32 = some (.aload_n 0, 0, 0, 0) := by decide +kernel
theorem at_209_33 : j_at 209 33 = some (.getfield 30, 12, 9, 0) := by decide +kernel
theorem at_209_36 : j_at 209 36 = some (.iload_n 3, 0, 0, 0) := by decide +kernel
theorem at_209_37 : j_at 209 37 = some (.invokevirtual 314, 197, 2, 0) := by decide +kernel
theorem at_209_40 : j_at 209 40 = some (.lmul, 0, 0, 0) := by decide +kernel
theorem at_209_41 : j_at 209 41 = some (.ladd, 0, 0, 0) := by decide +kernel
theorem at_209_42 : j_at 209 42 = some (.lstore_n 1, 0, 0, 0) := by decide +kernel
theorem at_209_43 : j_at 209 43 = some (.iinc 3 1, 0, 0, 0) := by decide +kernel
theorem at_209_46 : j_at 209 46 = some (.goto (-29), 17, 0, 0) := by decide +kernel
theorem at_209_49 : j_at 209 49 = some (.lload_n 1, 0, 0, 0) := by decide +kernel
theorem at_209_50 : j_at 209 50 = some (.aload_n 0, 0, 0, 0) := by decide +kernel
theorem at_209_51 : j_at 209 51 = some (.aload_n 0, 0, 0, 0) := by decide +kernel
theorem at_209_52 : j_at 209 52 = some (.invokevirtual 89, 151, 0, 0) := by decide +kernel
theorem at_209_55 : j_at 209 55 = some (.invokevirtual 337, 208, 1, 0) := by decide +kernel
theorem at_209_58 : j_at 209 58 = some (.aload_n 0, 0, 0, 0) := by decide +kernel
theorem at_209_59 : j_at 209 59 = some (.getfield 30, 12, 9, 0) := by decide +kernel
theorem at_209_62 : j_at 209 62 = some (.getfield 197, 11, 13, 0) := by decide +kernel
theorem at_209_65 : j_at 209 65 = some (.lmul, 0, 0, 0) := by decide +kernel
theorem at_209_66 : j_at 209 66 = some (.lcmp, 0, 0, 0) := by decide +kernel
theorem at_209_67 : j_at 209 67 = some (.ifCond .le 7, 74, 0, 0) := by decide +kernel
theorem at_209_70 : j_at 209 70 = some (.iconst 1, 0, 0, 1) := by decide +kernel
theorem at_209_71 : j_at 209 71 = some (.goto 4, 75, 0, 0) := by decide +kernel
theorem at_209_74 : j_at 209 74 = some (.iconst 0, 0, 0, 0) := by decide +kernel
theorem at_209_75 : j_at 209 75 = some (.ireturn, 0, 0, 0) := by decide +kernel
theorem at_210_0 : j_at 210 0 = some (.iconst 1, 0, 0, 1) := by decide +kernel
theorem at_210_1 : j_at 210 1 = some (.istore_n 1, 0, 0, 0) := by decide +kernel
theorem at_210_2 : j_at 210 2 = some (.iconst 0, 0, 0, 0) := by decide +kernel
theorem at_210_3 : j_at 210 3 = some (.istore_n 2, 0, 0, 0) := by decide +kernel
theorem at_210_4 : j_at 210 4 = some (.iload_n 2, 0, 0, 0) := by decide +kernel
theorem at_210_5 : j_at 210 5 = some (.aload_n 0, 0, 0, 0) := by decide +kernel
theorem at_210_6 : j_at 210 6 = some (.invokevirtual 89, 151, 0, 0) := by decide +kernel
theorem at_210_9 : j_at 210 9 = some (.if_icmp .ge 14, 23, 0, 0) := by decide +kernel
theorem at_210_12 : j_at 210 12 = some (.iload_n 1, 0, 0, 0) := by decide +kernel
theorem at_210_13 : j_at 210 13 = some (.bipush 10, 0, 0, 10) := by decide +kernel
theorem at_210_15 : j_at 210 15 = some (.imul, 0, 0, 0) := by decide +kernel
theorem at_210_16 : j_at 210 16 = some (.istore_n 1, 0, 0, 0) := by decide +kernel
theorem at_210_17 : j_at 210 17 = some (.iinc 2 1, 0, 0, 0) := by decide +kernel
theorem at_210_20 : j_at 210 20 = some (.goto (-16), 4, 0, 0) := by decide +kernel
theorem at_210_23 : j_at 210 23 = some (.iload_n 1, 0, 0, 0) := by decide +kernel
theorem at_210_24 : j_at 210 24 = some (.ireturn, 0, 0, 0) := by decide +kernel
theorem at_211_0 : j_at 211 0 = some (.iload_n 1, 0, 0, 0) := by decide +kernel
theorem at_211_1 : j_at 211 1 = some (.i2l, 0, 0, 0) := by decide +kernel
theorem at_211_2 : j_at 211 2 = some (.lconst 0, 0, 0, 0) := by decide +kernel
theorem at_211_3 : j_at 211 3 = some (.aload_n 0, 0, 0, 0) := by decide +kernel
theorem at_211_4 : j_at 211 4 = some (.invokevirtual 340, 210, 0, 0) := by decide +kernel
theorem at_211_7 : j_at 211 7 = some (.iconst 1, 0, 0, 1) := by decide +kernel
theorem at_211_8 : j_at 211 8 = some (.isub, 0, 0, 0) := by decide +kernel
theorem at_211_9 : j_at 211 9 = some (.i2l, 0, 0, 0) := by decide +kernel
theorem at_211_10 : j_at 211 10 = some (.invokestatic 93, 150, 3, 0) := by decide +kernel
theorem at_211_13 : j_at 211 13 = some (.ireturn, 0, 0, 0) := by decide +kernel
theorem at_212_0 : j_at 212 0 = some (.iload_n 1, 0, 0, 0) := by decide +kernel
theorem at_212_1 : j_at 212 1 = some (.istore_n 2, 0, 0, 0) := by decide +kernel
theorem at_212_2 : j_at 212 2 = some (.aload_n 0, 0, 0, 0) := by decide +kernel
theorem at_212_3 : j_at 212 3 = some (.invokevirtual 89, 151, 0, 0) := by decide +kernel
theorem at_212_6 : j_at 212 6 = some (.iconst 1, 0, 0, 1) := by decide +kernel
theorem at_212_7 : j_at 212 7 = some (.isub, 0, 0, 0) := by decide +kernel
theorem at_212_8 : j_at 212 8 = some (.istore_n 3, 0, 0, 0) := by decide +kernel
theorem at_212_9 : j_at 212 9 = some (.iload_n 3, 0, 0, 0) := by decide +kernel
theorem at_212_10 : j_at 212 10 = some (.ifCond .lt 24, 34, 0, 0) := by decide +kernel
theorem at_212_13 : j_at 212 13 = some (.aload_n 0, 0, 0, 0) := by decide +kernel
theorem at_212_14 : j_at 212 14 = some (.getfield 37, 12, 11, 0) := by decide +kernel
theorem at_212_17 : j_at 212 17 = some (.iload_n 3, 0, 0, 0) := by decide +kernel
theorem at_212_18 : j_at 212 18 = some (.iload_n 2, 0, 0, 0) := by decide +kernel
theorem at_212_19 : j_at 212 19 = some (.bipush 10, 0, 0, 10) := by decide +kernel
theorem at_212_21 : j_at 212 21 = some (.irem, 0, 0, 0) := by decide +kernel
theorem at_212_22 : j_at 212 22 = some (.iastore, 0, 0, 0) := by decide +kernel
theorem at_212_23 : j_at 212 23 = some (.iload_n 2, 0, 0, 0) := by decide +kernel
theorem at_212_24 : j_at 212 24 = some (.bipush 10, 0, 0, 10) := by decide +kernel
theorem at_212_26 : j_at 212 26 = some (.idiv, 0, 0, 0) := by decide +kernel
theorem at_212_27 : j_at 212 27 = some (.istore_n 2, 0, 0, 0) := by decide +kernel
theorem at_212_28 : j_at 212 28 = some (.iinc 3 (-1), 0, 0, 0) := by decide +kernel
theorem at_212_31 : j_at 212 31 = some (.goto (-22), 9, 0, 0) := by decide +kernel
theorem at_212_34 : j_at 212 34 = some (.return_, 0, 0, 0) := by decide +kernel
theorem at_213_0 : j_at 213 0 = some (.aload_n 0, 0, 0, 0) := by decide +kernel
theorem at_213_1 : j_at 213 1 = some (.iload_n 1, 0, 0, 0) := by decide +kernel
theorem at_213_2 : j_at 213 2 = some (.invokevirtual 343, 212, 1, 0) := by decide +kernel
theorem at_213_5 : j_at 213 5 = some (.iconst 0, 0, 0, 0) := by decide +kernel
theorem at_213_6 : j_at 213 6 = some (.istore_n 2, 0, 0, 0) := by decide +kernel
theorem at_213_7 : j_at 213 7 = some (.iconst 0, 0, 0, 0) := by decide +kernel
theorem at_213_8 : j_at 213 8 = some (.istore_n 3, 0, 0, 0) := by decide +kernel
theorem at_213_9 : j_at 213 9 = some (.iload_n 3, 0, 0, 0) := by decide +kernel
theorem at_213_10 : j_at 213 10 = some (.aload_n 0, 0, 0, 0) := by decide +kernel
theorem at_213_11 : j_at 213 11 = some (.invokevirtual 89, 151, 0, 0) := by decide +kernel
theorem at_213_14 : j_at 213 14 = some (.if_icmp .ge 28, 42, 0, 0) := by decide +kernel
theorem at_213_17 : j_at 213 17 = some (.iload_n 2, 0, 0, 0) := by decide +kernel
theorem at_213_18 : j_at 213 18 = some (.aload_n 0, 0, 0, 0) := by decide +kernel
theorem at_213_19 : j_at 213 19 = some (.getfield 11, 12, 0, 0) := by decide +kernel
theorem at_213_22 : j_at 213 22 = some (.bipush 7, 0, 0, 7) := by decide +kernel
theorem at_213_24 : j_at 213 24 = some (.iload_n 3, 0, 0, 0) := by decide +kernel
theorem at_213_25 : j_at 213 25 = some (.iadd, 0, 0, 0) := by decide +kernel
theorem at_213_26 : j_at 213 26 = some (.iaload, 0, 0, 0) := by decide +kernel
theorem at_213_27 : j_at 213 27 = some (.aload_n 0, 0, 0, 0) := by decide +kernel
theorem at_213_28 : j_at 213 28 = some (.getfield 37, 12, 11, 0) := by decide +kernel
theorem at_213_31 : j_at 213 31 = some (.iload_n 3, 0, 0, 0) := by decide +kernel
theorem at_213_32 : j_at 213 32 = some (.iaload, 0, 0, 0) := by decide +kernel
theorem at_213_33 : j_at 213 33 = some (.imul, 0, 0, 0) := by decide +kernel
theorem at_213_34 : j_at 213 34 = some (.iadd, 0, 0, 0) := by decide +kernel
theorem at_213_35 : j_at 213 35 = some (.istore_n 2, 0, 0, 0) := by decide +kernel
theorem at_213_36 : j_at 213 36 = some (.iinc 3 1, 0, 0, 0) := by decide +kernel
theorem at_213_39 : j_at 213 39 = some (.goto (-30), 9, 0, 0) := by decide +kernel
theorem at_213_42 : j_at 213 42 = some (.iload_n 2, 0, 0, 0) := by decide +kernel
theorem at_213_43 : j_at 213 43 = some (.ireturn, 0, 0, 0) := by decide +kernel
theorem at_214_0 : j_at 214 0 = some (.lconst 0, 0, 0, 0) := by decide +kernel
theorem at_214_1 : j_at 214 1 = some (.lstore_n 2, 0, 0, 0) := by decide +kernel
theorem at_214_2 : j_at 214 2 = some (.iconst 0, 0, 0, 0) := by decide +kernel
theorem at_214_3 : j_at 214 3 = some (.istore 4, 0, 0, 0) := by decide +kernel
theorem at_214_5 : j_at 214 5 = some (.iload 4, 0, 0, 0) := by decide +kernel
theorem at_214_7 : j_at 214 7 = some (.aload_n 0, 0, 0, 0) := by decide +kernel
theorem at_214_8 : j_at 214 8 = some (.invokevirtual 89, 151, 0, 0) := by decide +kernel
theorem at_214_11 : j_at 214 11 = some (.if_icmp .ge 28, 39, 0, 0) := by decide +kernel
theorem at_214_14 : j_at 214 14 = some (.lload_n 2, 0, 0, 0) := by decide +kernel
theorem at_214_15 : j_at 214 15 = some (.aload_n 0, 0, 0, 0) := by decide +kernel
theorem at_214_16 : j_at 214 16 = some (.iload_n 1, 0, 0, 0) := by decide +kernel
theorem at_214_17 : j_at 214 17 = some (.iload 4, 0, 0, 0) := by decide +kernel
theorem at_214_19 : j_at 214 19 = some (.invokevirtual 217, 157, 2, 0) := by decide +kernel
theorem at_214_22 : j_at 214 22 = some (.aload_n 0, 0, 0, 0) := by decide +kernel
theorem at_214_23 : j_at 214 23 = some (.getfield 37, 12, 11, 0) := by decide +kernel
theorem at_214_26 : j_at 214 26 = some (.iload 4, 0, 0, 0) := by decide +kernel
theorem at_214_28 : j_at 214 28 = some (.iaload, 0, 0, 0) := by decide +kernel
theorem at_214_29 : j_at 214 29 = some (.i2l, 0, 0, 0) := by decide +kernel
theorem at_214_30 : j_at 214 30 = some (.lmul, 0, 0, 0) := by decide +kernel
theorem at_214_31 : j_at 214 31 = some (.ladd, 0, 0, 0) := by decide +kernel
theorem at_214_32 : j_at 214 32 = some (.lstore_n 2, 0, 0, 0) := by decide +kernel
theorem at_214_33 : j_at 214 33 = some (.iinc 4 1, 0, 0, 0) := by decide +kernel
theorem at_214_36 : j_at 214 36 = some (.goto (-31), 5, 0, 0) := by decide +kernel
theorem at_214_39 : j_at 214 39 = some (.lload_n 2, 0, 0, 0) := by decide +kernel
theorem at_214_40 : j_at 214 40 = some (.aload_n 0, 0, 0, 0) := by decide +kernel
theorem at_214_41 : j_at 214 41 = some (.iload_n 1, 0, 0, 0) := by decide +kernel
theorem at_214_42 : j_at 214 42 = some (.invokevirtual 209, 158, 1, 0) := by decide +kernel
theorem at_214_45 : j_at 214 45 = some (.lcmp, 0, 0, 0) := by decide +kernel
theorem at_214_46 : j_at 214 46 = some (.ifCond .le 7, 53, 0, 0) := by decide +kernel
theorem at_214_49 : j_at 214 49 = some (.iconst 1, 0, 0, 1) := by decide +kernel
theorem at_214_50 : j_at 214 50 = some (.goto 4, 54, 0, 0) := by decide +kernel
theorem at_214_53 : j_at 214 53 = some (.iconst 0, 0, 0, 0) := by decide +kernel
theorem at_214_54 : j_at 214 54 = some (.ireturn, 0, 0, 0) := by decide +kernel
theorem at_215_0 : j_at 215 0 = some (.iconst 0, 0, 0, 0) := by decide +kernel
theorem at_215_1 : j_at 215 1 = some (.istore_n 1, 0, 0, 0) := by decide +kernel
theorem at_215_2 : j_at 215 2 = some (.iconst 0, 0, 0, 0) := by decide +kernel
theorem at_215_3 : j_at 215 3 = some (.istore_n 2, 0, 0, 0) := by decide +kernel
theorem at_215_4 : j_at 215 4 = some (.iload_n 2, 0, 0, 0) := by decide +kernel
theorem at_215_5 : j_at 215 5 = some (.aload_n 0, 0, 0, 0) := by decide +kernel
theorem at_215_6 : j_at 215 6 = some (.getfield 11, 12, 0, 0) := by decide +kernel
theorem at_215_9 : j_at 215 9 = some (.iconst 1, 0, 0, 1) := by decide +kernel
theorem at_215_10 : j_at 215 10 = some (.iaload, 0, 0, 0) := by decide +kernel
theorem at_215_11 : j_at 215 11 = some (.if_icmp .ge 25, 36, 0, 0) := by decide +kernel
theorem at_215_14 : j_at 215 14 = some (.iload_n 1, 0, 0, 0) := by decide +kernel
theorem at_215_15 : j_at 215 15 = some (.aload_n 0, 0, 0, 0) := by decide +kernel
theorem at_215_16 : j_at 215 16 = some (.iload_n 2, 0, 0, 0) := by decide +kernel
theorem at_215_17 : j_at 215 17 = some (.invokevirtual 346, 214, 1, 0) := by decide +kernel
theorem at_215_20 : j_at 215 20 = some (.ifCond .eq 7, 27, 0, 0) := by decide +kernel
theorem at_215_23 : j_at 215 23 = some (.iconst 1, 0, 0, 1) := by decide +kernel
theorem at_215_24 : j_at 215 24 = some (.goto 4, 28, 0, 0) := by decide +kernel
theorem at_215_27 : j_at 215 27 = some (.iconst 0, 0, 0, 0) := by decide +kernel
theorem at_215_28 : j_at 215 28 = some (.iadd, 0, 0, 0) := by decide +kernel
theorem at_215_29 : j_at 215 29 = some (.istore_n 1, 0, 0, 0) := by decide +kernel
theorem at_215_30 : j_at 215 30 = some (.iinc 2 1, 0, 0, 0) := by decide +kernel
theorem at_215_33 : j_at 215 33 = some (.goto (-29), 4, 0, 0) := by decide +kernel
theorem at_215_36 : j_at 215 36 = some (.iload_n 1, 0, 0, 0) := by decide +kernel
theorem at_215_37 : j_at 215 37 = some (.ireturn, 0, 0, 0) := by decide +kernel
theorem at_216_0 : j_at 216 0 = some (.aload_n 0, 0, 0, 0) := by decide +kernel
theorem at_216_1 : j_at 216 1 = some (.iload_n 1, 0, 0, 0) := by decide +kernel
theorem at_216_2 : j_at 216 2 = some (.invokevirtual 343, 212, 1, 0) := by decide +kernel
theorem at_216_5 : j_at 216 5 = some (.aload_n 0, 0, 0, 0) := by decide +kernel
theorem at_216_6 : j_at 216 6 = some (.invokevirtual 89, 151, 0, 0) := by decide +kernel
theorem at_216_9 : j_at 216 9 = some (.iconst 1, 0, 0, 1) := by decide +kernel
theorem at_216_10 : j_at 216 10 = some (.isub, 0, 0, 0) := by decide +kernel
theorem at_216_11 : j_at 216 11 = some (.istore_n 2, 0, 0, 0) := by decide +kernel
theorem at_216_12 : j_at 216 12 = some (.iload_n 2, 0, 0, 0) := by decide +kernel
theorem at_216_13 : j_at 216 13 = some (.ifCond .lt 31, 44, 0, 0) := by decide +kernel
theorem at_216_16 : j_at 216 16 = some (.aload_n 0, 0, 0, 0) := by decide +kernel
theorem at_216_17 : j_at 216 17 = some (.getfield 37, 12, 11, 0) := by decide +kernel
theorem at_216_20 : j_at 216 20 = some (.iload_n 2, 0, 0, 0) := by decide +kernel
theorem at_216_21 : j_at 216 21 = some (.iaload, 0, 0, 0) := by decide +kernel
theorem at_216_22 : j_at 216 22 = some (.aload_n 0, 0, 0, 0) := by decide +kernel
theorem at_216_23 : j_at 216 23 = some (.getfield 11, 12, 0, 0) := by decide +kernel
theorem at_216_26 : j_at 216 26 = some (.iconst 3, 0, 0, 3) := by decide +kernel
theorem at_216_27 : j_at 216 27 = some (.iaload, 0, 0, 0) := by decide +kernel
theorem at_216_28 : j_at 216 28 = some (.if_icmp .ne 16, 44, 0, 0) := by decide +kernel
theorem at_216_31 : j_at 216 31 = some (.aload_n 0, 0, 0, 0) := by decide +kernel
theorem at_216_32 : j_at 216 32 = some (.getfield 37, 12, 11, 0) := by decide +kernel
theorem at_216_35 : j_at 216 35 = some (.iload_n 2, 0, 0, 0) := by decide +kernel
theorem at_216_36 : j_at 216 36 = some (.iconst 0, 0, 0, 0) := by decide +kernel
theorem at_216_37 : j_at 216 37 = some (.iastore, 0, 0, 0) := by decide +kernel
theorem at_216_38 : j_at 216 38 = some (.iinc 2 (-1), 0, 0, 0) := by decide +kernel
theorem at_216_41 : j_at 216 41 = some (.goto (-29), 12, 0, 0) := by decide +kernel
theorem at_216_44 : j_at 216 44 = some (.iload_n 2, 0, 0, 0) := by decide +kernel
theorem at_216_45 : j_at 216 45 = some (.ifCond .ge 5, 50, 0, 0) := by decide +kernel
theorem at_216_48 : j_at 216 48 = some (.iconst (-1), 0, 0, -1) := by decide +kernel
theorem at_216_49 : j_at 216 49 = some (.ireturn, 0, 0, 0) := by decide +kernel
theorem at_216_50 : j_at 216 50 = some (.aload_n 0, 0, 0, 0) := by decide +kernel
theorem at_216_51 : j_at 216 51 = some (.getfield 37, 12, 11, 0) := by decide +kernel
theorem at_216_54 : j_at 216 54 = some (.iload_n 2, 0, 0, 0) := by decide +kernel
theorem at_216_55 : j_at 216 55 = some (.dup2, 0, 0, 0) := by decide +kernel
theorem at_216_56 : j_at 216 56 = some (.iaload, 0, 0, 0) := by decide +kernel
theorem at_216_57 : j_at 216 57 = some (.iconst 1, 0, 0, 1) := by decide +kernel
theorem at_216_58 : j_at 216 58 = some (.iadd, 0, 0, 0) := by decide +kernel
theorem at_216_59 : j_at 216 59 = some (.iastore, 0, 0, 0) := by decide +kernel
theorem at_216_60 : j_at 216 60 = some (.iconst 0, 0, 0, 0) := by decide +kernel
theorem at_216_61 : j_at 216 61 = some (.istore_n 3, 0, 0, 0) := by decide +kernel
theorem at_216_62 : j_at 216 62 = some (.iconst 0, 0, 0, 0) := by decide +kernel
theorem at_216_63 : j_at 216 63 = some (.istore 4, 0, 0, 0) := by decide +kernel
theorem at_216_65 : j_at 216 65 = some (.iload 4, 0, 0, 0) := by decide +kernel
theorem at_216_67 : j_at 216 67 = some (.aload_n 0, 0, 0, 0) := by decide +kernel
theorem at_216_68 : j_at 216 68 = some (.invokevirtual 89, 151, 0, 0) := by decide +kernel
theorem at_216_71 : j_at 216 71 = some (.if_icmp .ge 22, 93, 0, 0) := by decide +kernel
theorem at_216_74 : j_at 216 74 = some (.bipush 10, 0, 0, 10) := by decide +kernel
theorem at_216_76 : j_at 216 76 = some (.iload_n 3, 0, 0, 0) := by decide +kernel
theorem at_216_77 : j_at 216 77 = some (.imul, 0, 0, 0) := by decide +kernel
theorem at_216_78 : j_at 216 78 = some (.aload_n 0, 0, 0, 0) := by decide +kernel
theorem at_216_79 : j_at 216 79 = some (.getfield 37, 12, 11, 0) := by decide +kernel
theorem at_216_82 : j_at 216 82 = some (.iload 4, 0, 0, 0) := by decide +kernel
theorem at_216_84 : j_at 216 84 = some (.iaload, 0, 0, 0) := by decide +kernel
theorem at_216_85 : j_at 216 85 = some (.iadd, 0, 0, 0) := by decide +kernel
theorem at_216_86 : j_at 216 86 = some (.istore_n 3, 0, 0, 0) := by decide +kernel
theorem at_216_87 : j_at 216 87 = some (.iinc 4 1, 0, 0, 0) := by decide +kernel
theorem at_216_90 : j_at 216 90 = some (.goto (-25), 65, 0, 0) := by decide +kernel
theorem at_216_93 : j_at 216 93 = some (.iload_n 3, 0, 0, 0) := by decide +kernel
theorem at_216_94 : j_at 216 94 = some (.ireturn, 0, 0, 0) := by decide +kernel
theorem at_217_0 : j_at 217 0 = some (.iload_n 1, 0, 0, 0) := by decide +kernel
theorem at_217_1 : j_at 217 1 = some (.i2l, 0, 0, 0) := by decide +kernel
theorem at_217_2 : j_at 217 2 = some (.lconst 0, 0, 0, 0) := by decide +kernel
theorem at_217_3 : j_at 217 3 = some (.ldc2_w 349, 0, 0, 6) := by decide +kernel
theorem at_217_6 : j_at 217 6 = some (.invokestatic 93, 150, 3, 0) := by decide +kernel
theorem at_217_9 : j_at 217 9 = some (.ifCond .ne 6, 15, 0, 0) := by decide +kernel
theorem at_217_12 : j_at 217 12 = some (.bipush (-2), 0, 0, -2) := by decide +kernel
theorem at_217_14 : j_at 217 14 = some (.ireturn, 0, 0, 0) := by decide +kernel
theorem at_217_15 : j_at 217 15 = some (.aload_n 0, 0, 0, 0) := by decide +kernel
theorem at_217_16 : j_at 217 16 = some (.getfield 11, 12, 0, 0) := by decide +kernel
theorem at_217_19 : j_at 217 19 = some (.iconst 3, 0, 0, 3) := by decide +kernel
theorem at_217_20 : j_at 217 20 = some (.iaload, 0, 0, 0) := by decide +kernel
theorem at_217_21 : j_at 217 21 = some (.istore_n 2, 0, 0, 0) := by decide +kernel
theorem at_217_22 : j_at 217 22 = some (.aload_n 0, 0, 0, 0) := by decide +kernel
theorem at_217_23 : j_at 217 23 = some (.getfield 11, 12, 0, 0) := by decide +kernel
theorem at_217_26 : j_at 217 26 = some (.iconst 3, 0, 0, 3) := by decide +kernel
theorem at_217_27 : j_at 217 27 = some (.iload_n 1, 0, 0, 0) := by decide +kernel
theorem at_217_28 : j_at 217 28 = some (.iastore, 0, 0, 0) := by decide +kernel
theorem at_217_29 : j_at 217 29 = some (.iload_n 2, 0, 0, 0) := by decide +kernel
theorem at_217_30 : j_at 217 30 = some (.ireturn, 0, 0, 0) := by decide +kernel
theorem at_218_0 : j_at 218 0 = some (.iload_n 1, 0, 0, 0) := by decide +kernel
theorem at_218_1 : j_at 218 1 = some (.i2l, 0, 0, 0) := by decide +kernel
theorem at_218_2 : j_at 218 2 = some (.lconst 0, 0, 0, 0) := by decide +kernel
theorem at_218_3 : j_at 218 3 = some (.ldc2_w 351, 0, 0, 19) := by decide +kernel
theorem at_218_6 : j_at 218 6 = some (.invokestatic 93, 150, 3, 0) := by decide +kernel
theorem at_218_9 : j_at 218 9 = some (.ifCond .ne 6, 15, 0, 0) := by decide +kernel
theorem at_218_12 : j_at 218 12 = some (.bipush (-2), 0, 0, -2) := by decide +kernel
theorem at_218_14 : j_at 218 14 = some (.ireturn, 0, 0, 0) := by decide +kernel
theorem at_218_15 : j_at 218 15 = some (.iconst 0, 0, 0, 0) := by decide +kernel
theorem at_218_16 : j_at 218 16 = some (.istore_n 2, 0, 0, 0) := by decide +kernel
theorem at_218_17 : j_at 218 17 = some (.iconst 0, 0, 0, 0) := by decide +kernel
theorem at_218_18 : j_at 218 18 = some (.istore_n 3, 0, 0, 0) := by decide +kernel
theorem at_218_19 : j_at 218 19 = some (.iload_n 3, 0, 0, 0) := by decide +kernel
theorem at_218_20 : j_at 218 20 = some (.ifCond .lt 141, 161, 0, 0) := by decide +kernel
theorem at_218_23 : j_at 218 23 = some (.aload_n 0, 0, 0, 0) := by decide +kernel
theorem at_218_24 : j_at 218 24 = some (.iload_n 3, 0, 0, 0) := by decide +kernel
theorem at_218_25 : j_at 218 25 = some (.invokevirtual 353, 213, 1, 0) := by decide +kernel
theorem at_218_28 : j_at 218 28 = some (.istore 4, 0, 0, 0) := by decide +kernel
theorem at_218_30 : j_at 218 30 = some (.iload_n 2, 0, 0, 0) := by decide +kernel
theorem at_218_31 : j_at 218 31 = some (.iload_n 1, 0, 0, 0) := by decide +kernel
theorem at_218_32 : j_at 218 32 = some (.if_icmp .le 14, 46, 0, 0) := by decide +kernel
theorem at_218_35 : j_at 218 35 = some (.iload 4, 0, 0, 0) := by decide +kernel
theorem at_218_37 : j_at 218 37 = some (.aload_n 0, 0, 0, 0) := by decide +kernel
theorem at_218_38 : j_at 218 38 = some (.getfield 43, 12, 13, 0) := by decide +kernel
theorem at_218_41 : j_at 218 41 = some (.iload_n 1, 0, 0, 0) := by decide +kernel
theorem at_218_42 : j_at 218 42 = some (.iaload, 0, 0, 0) := by decide +kernel
theorem at_218_43 : j_at 218 43 = some (.if_icmp .ge 109, 152, 0, 0) := by decide +kernel
theorem at_218_46 : j_at 218 46 = some (.aload_n 0, 0, 0, 0) := by decide +kernel
theorem at_218_47 : j_at 218 47 = some (.invokevirtual 356, 215, 0, 0) := by decide +kernel
theorem at_218_50 : j_at 218 50 = some (.ifCond .le 6, 56, 0, 0) := by decide +kernel
theorem at_218_53 : j_at 218 53 = some (.goto 99, 152, 0, 0) := by decide +kernel
theorem at_218_56 : j_at 218 56 = some (.iload_n 2, 0, 0, 0) := by decide +kernel
theorem at_218_57 : j_at 218 57 = some (.iload_n 1, 0, 0, 0) := by decide +kernel
theorem at_218_58 : j_at 218 58 = some (.if_icmp .gt 7, 65, 0, 0) := by decide +kernel
theorem at_218_61 : j_at 218 61 = some (.iload_n 2, 0, 0, 0) := by decide +kernel
theorem at_218_62 : j_at 218 62 = some (.goto 4, 66, 0, 0) := by decide +kernel
theorem at_218_65 : j_at 218 65 = some (.iload_n 1, 0, 0, 0) := by decide +kernel
theorem at_218_66 : j_at 218 66 = some (.istore 5, 0, 0, 0) := by decide +kernel
theorem at_218_68 : j_at 218 68 = some (.iload 5, 0, 0, 0) := by decide +kernel
theorem at_218_70 : j_at 218 70 = some (.ifCond .le 55, 125, 0, 0) := by decide +kernel
theorem at_218_73 : j_at 218 73 = some (.aload_n 0, 0, 0, 0) := by decide +kernel
theorem at_218_74 : j_at 218 74 = some (.getfield 43, 12, 13, 0) := by decide +kernel
theorem at_218_77 : j_at 218 77 = some (.iload 5, 0, 0, 0) := by decide +kernel
theorem at_218_79 : j_at 218 79 = some (.iconst 1, 0, 0, 1) := by decide +kernel
theorem at_218_80 : j_at 218 80 = some (.isub, 0, 0, 0) := by decide +kernel
theorem at_218_81 : j_at 218 81 = some (.iaload, 0, 0, 0) := by decide +kernel
theorem at_218_82 : j_at 218 82 = some (.iload 4, 0, 0, 0) := by decide +kernel
theorem at_218_84 : j_at 218 84 = some (.if_icmp .le 41, 125, 0, 0) := by decide +kernel
theorem at_218_87 : j_at 218 87 = some (.aload_n 0, 0, 0, 0) := by decide +kernel
theorem at_218_88 : j_at 218 88 = some (.getfield 40, 12, 12, 0) := by decide +kernel
theorem at_218_91 : j_at 218 91 = some (.iload 5, 0, 0, 0) := by decide +kernel
theorem at_218_93 : j_at 218 93 = some (.aload_n 0, 0, 0, 0) := by decide +kernel
theorem at_218_94 : j_at 218 94 = some (.getfield 40, 12, 12, 0) := by decide +kernel
theorem at_218_97 : j_at 218 97 = some (.iload 5, 0, 0, 0) := by decide +kernel
theorem at_218_99 : j_at 218 99 = some (.iconst 1, 0, 0, 1) := by decide +kernel
theorem at_218_100 : j_at 218 100 = some (.isub, 0, 0, 0) := by decide +kernel
theorem at_218_101 : j_at 218 101 = some (.iaload, 0, 0, 0) := by decide +kernel
theorem at_218_102 : j_at 218 102 = some (.iastore, 0, 0, 0) := by decide +kernel
theorem at_218_103 : j_at 218 103 = some (.aload_n 0, 0, 0, 0) := by decide +kernel
theorem at_218_104 : j_at 218 104 = some (.getfield 43, 12, 13, 0) := by decide +kernel
theorem at_218_107 : j_at 218 107 = some (.iload 5, 0, 0, 0) := by decide +kernel
theorem at_218_109 : j_at 218 109 = some (.aload_n 0, 0, 0, 0) := by decide +kernel
theorem at_218_110 : j_at 218 110 = some (.getfield 43, 12, 13, 0) := by decide +kernel
theorem at_218_113 : j_at 218 113 = some (.iload 5, 0, 0, 0) := by decide +kernel
theorem at_218_115 : j_at 218 115 = some (.iconst 1, 0, 0, 1) := by decide +kernel
theorem at_218_116 : j_at 218 116 = some (.isub, 0, 0, 0) := by decide +kernel
theorem at_218_117 : j_at 218 117 = some (.iaload, 0, 0, 0) := by decide +kernel
theorem at_218_118 : j_at 218 118 = some (.iastore, 0, 0, 0) := by decide +kernel
theorem at_218_119 : j_at 218 119 = some (.iinc 5 (-1), 0, 0, 0) := by decide +kernel
theorem at_218_122 : j_at 218 122 = some (.goto (-54), 68, 0, 0) := by decide +kernel
theorem at_218_125 : j_at 218 125 = some (.aload_n 0, 0, 0, 0) := by decide +kernel
theorem at_218_126 : j_at 218 126 = some (.getfield 40, 12, 12, 0) := by decide +kernel
theorem at_218_129 : j_at 218 129 = some (.iload 5, 0, 0, 0) := by decide +kernel
theorem at_218_131 : j_at 218 131 = some (.iload_n 3, 0, 0, 0) := by decide +kernel
theorem at_218_132 : j_at 218 132 = some (.iastore, 0, 0, 0) := by decide +kernel
theorem at_218_133 : j_at 218 133 = some (.aload_n 0, 0, 0, 0) := by decide +kernel
theorem at_218_134 : j_at 218 134 = some (.getfield 43, 12, 13, 0) := by decide +kernel
theorem at_218_137 : j_at 218 137 = some (.iload 5, 0, 0, 0) := by decide +kernel
theorem at_218_139 : j_at 218 139 = some (.iload 4, 0, 0, 0) := by decide +kernel
theorem at_218_141 : j_at 218 141 = some (.iastore, 0, 0, 0) := by decide +kernel
theorem at_218_142 : j_at 218 142 = some (.iload_n 2, 0, 0, 0) := by decide +kernel
theorem at_218_143 : j_at 218 143 = some (.iconst 1, 0, 0, 1) := by decide +kernel
theorem at_218_144 : j_at 218 144 = some (.iadd, 0, 0, 0) := by decide +kernel
theorem at_218_145 : j_at 218 145 = some (.iload_n 1, 0, 0, 0) := by decide +kernel
theorem at_218_146 : j_at 218 146 = some (.iconst 1, 0, 0, 1) := by decide +kernel
theorem at_218_147 : j_at 218 147 = some (.iadd, 0, 0, 0) := by decide +kernel
theorem at_218_148 : j_at 218 148 = some (.invokestatic 359, 268, 2, 0) := by decide +kernel
theorem at_218_151 : j_at 218 151 = some (.istore_n 2, 0, 0, 0) := by decide +kernel
theorem at_218_152 : j_at 218 152 = some (.aload_n 0, 0, 0, 0) := by decide +kernel
theorem at_218_153 : j_at 218 153 = some (.iload_n 3, 0, 0, 0) := by decide +kernel
theorem at_218_154 : j_at 218 154 = some (.invokevirtual 362, 216, 1, 0) := by decide +kernel
theorem at_218_157 : j_at 218 157 = some (.istore_n 3, 0, 0, 0) := by decide +kernel
theorem at_218_158 : j_at 218 158 = some (.goto (-139), 19, 0, 0) := by decide +kernel
theorem at_218_161 : j_at 218 161 = some (.iload_n 2, 0, 0, 0) := by decide +kernel
theorem at_218_162 : j_at 218 162 = some (.iload_n 1, 0, 0, 0) := by decide +kernel
theorem at_218_163 : j_at 218 163 = some (.if_icmp .le 12, 175, 0, 0) := by decide +kernel
theorem at_218_166 : j_at 218 166 = some (.aload_n 0, 0, 0, 0) := by decide +kernel
theorem at_218_167 : j_at 218 167 = some (.getfield 40, 12, 12, 0) := by decide +kernel
theorem at_218_170 : j_at 218 170 = some (.iload_n 1, 0, 0, 0) := by decide +kernel
theorem at_218_171 : j_at 218 171 = some (.iaload, 0, 0, 0) := by decide +kernel
theorem at_218_172 : j_at 218 172 = some (.goto 5, 177, 0, 0) := by decide +kernel
theorem at_218_175 : j_at 218 175 = some (.bipush (-5), 0, 0, -5) := by decide +kernel
theorem at_218_177 : j_at 218 177 = some (.ireturn, 0, 0, 0) := by decide +kernel
theorem at_219_0 : j_at 219 0 = some (.iload_n 1, 0, 0, 0) := by decide +kernel
theorem at_219_1 : j_at 219 1 = some (.i2l, 0, 0, 0) := by decide +kernel
theorem at_219_2 : j_at 219 2 = some (.lconst 0, 0, 0, 0) := by decide +kernel
theorem at_219_3 : j_at 219 3 = some (.lconst 1, 0, 0, 1) := by decide +kernel
theorem at_219_4 : j_at 219 4 = some (.invokestatic 93, 150, 3, 0) := by decide +kernel
theorem at_219_7 : j_at 219 7 = some (.ifCond .ne 5, 12, 0, 0) := by decide +kernel
theorem at_219_10 : j_at 219 10 = some (.iconst (-1), 0, 0, -1) := by decide +kernel
theorem at_219_11 : j_at 219 11 = some (.ireturn, 0, 0, 0) := by decide +kernel
theorem at_219_12 : j_at 219 12 = some (.iconst 0, 0, 0, 0) := by decide +kernel
theorem at_219_13 : j_at 219 13 = some (.istore_n 2, 0, 0, 0) := by decide +kernel
theorem at_219_14 : j_at 219 14 = some (.iconst 0, 0, 0, 0) := by decide +kernel
theorem at_219_15 : j_at 219 15 = some (.istore_n 3, 0, 0, 0) := by decide +kernel
theorem at_219_16 : j_at 219 16 = some (.iload_n 3, 0, 0, 0) := by decide +kernel
theorem at_219_17 : j_at 219 17 = some (.ifCond .lt 33, 50, 0, 0) := by decide +kernel
theorem at_219_20 : j_at 219 20 = some (.aload_n 0, 0, 0, 0) := by decide +kernel
theorem at_219_21 : j_at 219 21 = some (.iload_n 3, 0, 0, 0) := by decide +kernel
theorem at_219_22 : j_at 219 22 = some (.invokevirtual 343, 212, 1, 0) := by decide +kernel
theorem at_219_25 : j_at 219 25 = some (.iload_n 2, 0, 0, 0) := by decide +kernel
theorem at_219_26 : j_at 219 26 = some (.aload_n 0, 0, 0, 0) := by decide +kernel
theorem at_219_27 : j_at 219 27 = some (.invokevirtual 356, 215, 0, 0) := by decide +kernel
theorem at_219_30 : j_at 219 30 = some (.iload_n 1, 0, 0, 0) := by decide +kernel
theorem at_219_31 : j_at 219 31 = some (.if_icmp .ne 7, 38, 0, 0) := by decide +kernel
theorem at_219_34 : j_at 219 34 = some (.iconst 1, 0, 0, 1) := by decide +kernel
theorem at_219_35 : j_at 219 35 = some (.goto 4, 39, 0, 0) := by decide +kernel
theorem at_219_38 : j_at 219 38 = some (.iconst 0, 0, 0, 0) := by decide +kernel
theorem at_219_39 : j_at 219 39 = some (.iadd, 0, 0, 0) := by decide +kernel
theorem at_219_40 : j_at 219 40 = some (.istore_n 2, 0, 0, 0) := by decide +kernel
theorem at_219_41 : j_at 219 41 = some (.aload_n 0, 0, 0, 0) := by decide +kernel
theorem at_219_42 : j_at 219 42 = some (.iload_n 3, 0, 0, 0) := by decide +kernel
theorem at_219_43 : j_at 219 43 = some (.invokevirtual 362, 216, 1, 0) := by decide +kernel
theorem at_219_46 : j_at 219 46 = some (.istore_n 3, 0, 0, 0) := by decide +kernel
theorem at_219_47 : j_at 219 47 = some (.goto (-31), 16, 0, 0) := by decide +kernel
theorem at_219_50 : j_at 219 50 = some (.iload_n 2, 0, 0, 0) := by decide +kernel
theorem at_219_51 : j_at 219 51 = some (.ireturn, 0, 0, 0) := by decide +kernel
theorem at_220_0 : j_at 220 0 = some (.aload_n 0, 0, 0, 0) := by decide +kernel
theorem at_220_1 : j_at 220 1 = some (.iload_n 1, 0, 0, 0) := by decide +kernel
theorem at_220_2 : j_at 220 2 = some (.invokevirtual 365, 211, 1, 0) := by decide +kernel
theorem at_220_5 : j_at 220 5 = some (.ifCond .ne 6, 11, 0, 0) := by decide +kernel
theorem at_220_8 : j_at 220 8 = some (.bipush (-2), 0, 0, -2) := by decide +kernel
theorem at_220_10 : j_at 220 10 = some (.ireturn, 0, 0, 0) := by decide +kernel
theorem at_220_11 : j_at 220 11 = some (.aload_n 0, 0, 0, 0) := by decide +kernel
theorem at_220_12 : j_at 220 12 = some (.iload_n 1, 0, 0, 0) := by decide +kernel
theorem at_220_13 : j_at 220 13 = some (.invokevirtual 343, 212, 1, 0) := by decide +kernel
theorem at_220_16 : j_at 220 16 = some (.iconst 0, 0, 0, 0) := by decide +kernel
theorem at_220_17 : j_at 220 17 = some (.istore_n 2, 0, 0, 0) := by decide +kernel
theorem at_220_18 : j_at 220 18 = some (.iload_n 2, 0, 0, 0) := by decide +kernel
theorem at_220_19 : j_at 220 19 = some (.aload_n 0, 0, 0, 0) := by decide +kernel
theorem at_220_20 : j_at 220 20 = some (.getfield 11, 12, 0, 0) := by decide +kernel
theorem at_220_23 : j_at 220 23 = some (.iconst 1, 0, 0, 1) := by decide +kernel
theorem at_220_24 : j_at 220 24 = some (.iaload, 0, 0, 0) := by decide +kernel
theorem at_220_25 : j_at 220 25 = some (.if_icmp .ge 19, 44, 0, 0) := by decide +kernel
theorem at_220_28 : j_at 220 28 = some (.aload_n 0, 0, 0, 0) := by decide +kernel
theorem at_220_29 : j_at 220 29 = some (.iload_n 2, 0, 0, 0) := by decide +kernel
theorem at_220_30 : j_at 220 30 = some (.invokevirtual 346, 214, 1, 0) := by decide +kernel
theorem at_220_33 : j_at 220 33 = some (.ifCond .eq 5, 38, 0, 0) := by decide +kernel
theorem at_220_36 : j_at 220 36 = some (.iload_n 2, 0, 0, 0) := by decide +kernel
theorem at_220_37 : j_at 220 37 = some (.ireturn, 0, 0, 0) := by decide +kernel
theorem at_220_38 : j_at 220 38 = some (.iinc 2 1, 0, 0, 0) := by decide +kernel
theorem at_220_41 : j_at 220 41 = some (.goto (-23), 18, 0, 0) := by decide +kernel
theorem at_220_44 : j_at 220 44 = some (.bipush (-5), 0, 0, -5) := by decide +kernel
theorem at_220_46 : j_at 220 46 = some (.ireturn, 0, 0, 0) := by decide +kernel
theorem at_221_0 : j_at 221 0 = some (.lconst 0, 0, 0, 0) := by decide +kernel
theorem at_221_1 : j_at 221 1 = some (.lstore_n 2, 0, 0, 0) := by decide +kernel
theorem at_221_2 : j_at 221 2 = some (.iconst 0, 0, 0, 0) := by decide +kernel
theorem at_221_3 : j_at 221 3 = some (.istore 4, 0, 0, 0) := by decide +kernel
theorem at_221_5 : j_at 221 5 = some (.iload 4, 0, 0, 0) := by decide +kernel
theorem at_221_7 : j_at 221 7 = some (.aload_n 0, 0, 0, 0) := by decide +kernel
theorem at_221_8 : j_at 221 8 = some (.invokevirtual 89, 151, 0, 0) := by decide +kernel
theorem at_221_11 : j_at 221 11 = some (.if_icmp .ge 41, 52, 0, 0) := by decide +kernel
theorem at_221_14 : j_at 221 14 = some (.lload_n 2, 0, 0, 0) := by decide +kernel
theorem at_221_15 : j_at 221 15 = some (.iload_n 1, 0, 0, 0) := by decide +kernel
theorem at_221_16 : j_at 221 16 = some (.ifCond .ge 12, 28, 0, 0) := by decide +kernel
theorem at_221_19 : j_at 221 19 = some (.aload_n 0, 0, 0, 0) := by decide +kernel
theorem at_221_20 : j_at 221 20 = some (.iload 4, 0, 0, 0) := by decide +kernel
theorem at_221_22 : j_at 221 22 = some (.invokevirtual 337, 208, 1, 0) := by decide +kernel
theorem at_221_25 : j_at 221 25 = some (.goto 10, 35, 0, 0) := by decide +kernel
theorem at_221_28 : j_at 221 28 = some (.aload_n 0, 0, 0, 0) := by decide +kernel
theorem at_221_29 : j_at 221 29 = some (.iload_n 1, 0, 0, 0) := by decide +kernel
theorem at_221_30 : j_at 221 30 = some (.iload 4, 0, 0, 0) := by decide +kernel
theorem at_221_32 : j_at 221 32 = some (.invokevirtual 326, 202, 2, 0) := by decide +kernel
theorem at_221_35 : j_at 221 35 = some (.aload_n 0, 0, 0, 0) := by decide +kernel
theorem at_221_36 : j_at 221 36 = some (.getfield 37, 12, 11, 0) := by decide +kernel
theorem at_221_39 : j_at 221 39 = some (.iload 4, 0, 0, 0) := by decide +kernel
theorem at_221_41 : j_at 221 41 = some (.iaload, 0, 0, 0) := by decide +kernel
theorem at_221_42 : j_at 221 42 = some (.i2l, 0, 0, 0) := by decide +kernel
theorem at_221_43 : j_at 221 43 = some (.lmul, 0, 0, 0) := by decide +kernel
theorem at_221_44 : j_at 221 44 = some (.ladd, 0, 0, 0) := by decide +kernel
theorem at_221_45 : j_at 221 45 = some (.lstore_n 2, 0, 0, 0) := by decide +kernel
theorem at_221_46 : j_at 221 46 = some (.iinc 4 1, 0, 0, 0) := by decide +kernel
theorem at_221_49 : j_at 221 49 = some (.goto (-44), 5, 0, 0) := by decide +kernel
theorem at_221_52 : j_at 221 52 = some (.lload_n 2, 0, 0, 0) := by decide +kernel
theorem at_221_53 : j_at 221 53 = some (.iload_n 1, 0, 0, 0) := by decide +kernel
theorem at_221_54 : j_at 221 54 = some (.ifCond .ge 14, 68, 0, 0) := by decide +kernel
theorem at_221_57 : j_at 221 57 = some (.aload_n 0, 0, 0, 0) := by decide +kernel
theorem at_221_58 : j_at 221 58 = some (.aload_n 0, 0, 0, 0) := by decide +kernel
theorem at_221_59 : j_at 221 59 = some (.invokevirtual 89, 151, 0, 0) := by decide +kernel
theorem at_221_62 : j_at 221 62 = some (.invokevirtual 337, 208, 1, 0) := by decide +kernel
theorem at_221_65 : j_at 221 65 = some (.goto 12, 77, 0, 0) := by decide +kernel
theorem at_221_68 : j_at 221 68 = some (.aload_n 0, 0, 0, 0) := by decide +kernel
theorem at_221_69 : j_at 221 69 = some (.iload_n 1, 0, 0, 0) := by decide +kernel
theorem at_221_70 : j_at 221 70 = some (.aload_n 0, 0, 0, 0) := by decide +kernel
theorem at_221_71 : j_at 221 71 = some (.invokevirtual 89, 151, 0, 0) := by decide +kernel
theorem at_221_74 : j_at 221 74 = some (.invokevirtual 326, 202, 2, 0) := by decide +kernel
theorem at_221_77 : j_at 221 77 = some (.lcmp, 0, 0, 0) := by decide +kernel
theorem at_221_78 : j_at 221 78 = some (.ifCond .le 7, 85, 0, 0) := by decide +kernel
theorem at_221_81 : j_at 221 81 = some (.iconst 1, 0, 0, 1) := by decide +kernel
theorem at_221_82 : j_at 221 82 = some (.goto 4, 86, 0, 0) := by decide +kernel
theorem at_221_85 : j_at 221 85 = some (.iconst 0, 0, 0, 0) := by decide +kernel
theorem at_221_86 : j_at 221 86 = some (.ireturn, 0, 0, 0) := by decide +kernel
theorem at_222_0 : j_at 222 0 = some (.iload_n 1, 0, 0, 0) := by decide +kernel
theorem at_222_1 : j_at 222 1 = some (.iconst (-1), 0, 0, -1) := by decide +kernel
theorem at_222_2 : j_at 222 2 = some (.if_icmp .eq 13, 15, 0, 0) := by decide +kernel
theorem at_222_5 : j_at 222 5 = some (.aload_n 0, 0, 0, 0) := by decide +kernel
theorem at_222_6 : j_at 222 6 = some (.iload_n 1, 0, 0, 0) := by decide +kernel
theorem at_222_7 : j_at 222 7 = some (.invokevirtual 321, 201, 1, 0) := by decide +kernel
theorem at_222_10 : j_at 222 10 = some (.ifCond .ne 5, 15, 0, 0) := by decide +kernel
theorem at_222_13 : j_at 222 13 = some (.iconst (-1), 0, 0, -1) := by decide +kernel
theorem at_222_14 : j_at 222 14 = some (.ireturn, 0, 0, 0) := by decide +kernel
theorem at_222_15 : j_at 222 15 = some (.iconst 0, 0, 0, 0) := by decide +kernel
theorem at_222_16 : j_at 222 16 = some (.istore_n 2, 0, 0, 0) := by decide +kernel
theorem at_222_17 : j_at 222 17 = some (.iload_n 2, 0, 0, 0) := by decide +kernel
theorem at_222_18 : j_at 222 18 = some (.ifCond .lt 34, 52, 0, 0) := by decide +kernel
theorem at_222_21 : j_at 222 21 = some (.aload_n 0, 0, 0, 0) := by decide +kernel
theorem at_222_22 : j_at 222 22 = some (.iload_n 2, 0, 0, 0) := by decide +kernel
theorem at_222_23 : j_at 222 23 = some (.invokevirtual 343, 212, 1, 0) := by decide +kernel
theorem at_222_26 : j_at 222 26 = some (.aload_n 0, 0, 0, 0) := by decide +kernel
theorem at_222_27 : j_at 222 27 = some (.iload_n 1, 0, 0, 0) := by decide +kernel
theorem at_222_28 : j_at 222 28 = some (.invokevirtual 368, 221, 1, 0) := by decide +kernel
theorem at_222_31 : j_at 222 31 = some (.ifCond .eq 12, 43, 0, 0) := by decide +kernel
theorem at_222_34 : j_at 222 34 = some (.aload_n 0, 0, 0, 0) := by decide +kernel
theorem at_222_35 : j_at 222 35 = some (.invokevirtual 356, 215, 0, 0) := by decide +kernel
theorem at_222_38 : j_at 222 38 = some (.ifCond .ne 5, 43, 0, 0) := by decide +kernel
theorem at_222_41 : j_at 222 41 = some (.iload_n 2, 0, 0, 0) := by decide +kernel
theorem at_222_42 : j_at 222 42 = some (.ireturn, 0, 0, 0) := by decide +kernel
theorem at_222_43 : j_at 222 43 = some (.aload_n 0, 0, 0, 0) := by decide +kernel
theorem at_222_44 : j_at 222 44 = some (.iload_n 2, 0, 0, 0) := by decide +kernel
theorem at_222_45 : j_at 222 45 = some (.invokevirtual 362, 216, 1, 0) := by decide +kernel
theorem at_222_48 : j_at 222 48 = some (.istore_n 2, 0, 0, 0) := by decide +kernel
theorem at_222_49 : j_at 222 49 = some (.goto (-32), 17, 0, 0) := by decide +kernel
theorem at_222_52 : j_at 222 52 = some (.bipush (-5), 0, 0, -5) := by decide +kernel
theorem at_222_54 : j_at 222 54 = some (.ireturn, 0, 0, 0) := by decide +kernel
theorem at_223_0 : j_at 223 0 = some (.aload_n 0, 0, 0, 0) := by decide +kernel
theorem at_223_1 : j_at 223 1 = some (.getfield 371, 12, 21, 0) := by decide +kernel
theorem at_223_4 : j_at 223 4 = some (.bipush 40, 0, 0, 40) := by decide +kernel
theorem at_223_6 : j_at 223 6 = some (.if_icmp .ne 6, 12, 0, 0) := by decide +kernel
theorem at_223_9 : j_at 223 9 = some (.bipush (-6), 0, 0, -6) := by decide +kernel
theorem at_223_11 : j_at 223 11 = some (.ireturn, 0, 0, 0) := by decide +kernel
theorem at_223_12 : j_at 223 12 = some (.aload_n 0, 0, 0, 0) := by decide +kernel
theorem at_223_13 : j_at 223 13 = some (.getfield 371, 12, 21, 0) := by decide +kernel
theorem at_223_16 : j_at 223 16 = some (.istore 5, 0, 0, 0) := by decide +kernel
theorem at_223_18 : j_at 223 18 = some (.aload_n 0, 0, 0, 0) := by decide +kernel
theorem at_223_19 : j_at 223 19 = some (.dup, 0, 0, 0) := by decide +kernel
theorem at_223_20 : j_at 223 20 = some (.getfield 371, 12, 21, 0) := by decide +kernel
theorem at_223_23 : j_at 223 23 = some (.iconst 1, 0, 0, 1) := by decide +kernel
theorem at_223_24 : j_at 223 24 = some (.iadd, 0, 0, 0) := by decide +kernel
theorem at_223_25 : j_at 223 25 = some (.putfield 371, 12, 21, 0) := by decide +kernel
theorem at_223_28 : j_at 223 28 = some (.iconst 0, 0, 0, 0) := by decide +kernel
theorem at_223_29 : j_at 223 29 = some (.istore 6, 0, 0, 0) := by decide +kernel
theorem at_223_31 : j_at 223 31 = some (.iload 6, 0, 0, 0) := by decide +kernel
theorem at_223_33 : j_at 223 33 = some (.iconst 5, 0, 0, 5) := by decide +kernel
theorem at_223_34 : j_at 223 34 = some (.if_icmp .ge 71, 105, 0, 0) := by decide +kernel
theorem at_223_37 : j_at 223 37 = some (.aload_n 0, 0, 0, 0) := by decide +kernel
theorem at_223_38 : j_at 223 38 = some (.getfield 46, 12, 14, 0) := by decide +kernel
theorem at_223_41 : j_at 223 41 = some (.iconst 5, 0, 0, 5) := by decide +kernel
theorem at_223_42 : j_at 223 42 = some (.iload 5, 0, 0, 0) := by decide +kernel
theorem at_223_44 : j_at 223 44 = some (.imul, 0, 0, 0) := by decide +kernel
theorem at_223_45 : j_at 223 45 = some (.iload 6, 0, 0, 0) := by decide +kernel
theorem at_223_47 : j_at 223 47 = some (.iadd, 0, 0, 0) := by decide +kernel
theorem at_223_48 : j_at 223 48 = some (.iload_n 1, 0, 0, 0) := by decide +kernel
theorem at_223_49 : j_at 223 49 = some (.ifCond .ge 7, 56, 0, 0) := by decide +kernel
theorem at_223_52 : j_at 223 52 = some (.iconst 0, 0, 0, 0) := by decide +kernel
theorem at_223_53 : j_at 223 53 = some (.goto 14, 67, 0, 0) := by decide +kernel
theorem at_223_56 : j_at 223 56 = some (.aload_n 0, 0, 0, 0) := by decide +kernel
theorem at_223_57 : j_at 223 57 = some (.getfield 46, 12, 14, 0) := by decide +kernel
theorem at_223_60 : j_at 223 60 = some (.iconst 5, 0, 0, 5) := by decide +kernel
theorem at_223_61 : j_at 223 61 = some (.iload_n 1, 0, 0, 0) := by decide +kernel
theorem at_223_62 : j_at 223 62 = some (.imul, 0, 0, 0) := by decide +kernel
theorem at_223_63 : j_at 223 63 = some (.iload 6, 0, 0, 0) := by decide +kernel
theorem at_223_65 : j_at 223 65 = some (.iadd, 0, 0, 0) := by decide +kernel
theorem at_223_66 : j_at 223 66 = some (.iaload, 0, 0, 0) := by decide +kernel
theorem at_223_67 : j_at 223 67 = some (.iastore, 0, 0, 0) := by decide +kernel
theorem at_223_68 : j_at 223 68 = some (.aload_n 0, 0, 0, 0) := by decide +kernel
theorem at_223_69 : j_at 223 69 = some (.getfield 49, 12, 15, 0) := by decide +kernel
theorem at_223_72 : j_at 223 72 = some (.iconst 5, 0, 0, 5) := by decide +kernel
theorem at_223_73 : j_at 223 73 = some (.iload 5, 0, 0, 0) := by decide +kernel
theorem at_223_75 : j_at 223 75 = some (.imul, 0, 0, 0) := by decide +kernel
theorem at_223_76 : j_at 223 76 = some (.iload 6, 0, 0, 0) := by decide +kernel
theorem at_223_78 : j_at 223 78 = some (.iadd, 0, 0, 0) := by decide +kernel
theorem at_223_79 : j_at 223 79 = some (.iload_n 1, 0, 0, 0) := by decide +kernel
theorem at_223_80 : j_at 223 80 = some (.ifCond .ge 7, 87, 0, 0) := by decide +kernel
theorem at_223_83 : j_at 223 83 = some (.iconst (-1), 0, 0, -1) := by decide +kernel
theorem at_223_84 : j_at 223 84 = some (.goto 14, 98, 0, 0) := by decide +kernel
theorem at_223_87 : j_at 223 87 = some (.aload_n 0, 0, 0, 0) := by decide +kernel
theorem at_223_88 : j_at 223 88 = some (.getfield 49, 12, 15, 0) := by decide +kernel
theorem at_223_91 : j_at 223 91 = some (.iconst 5, 0, 0, 5) := by decide +kernel
theorem at_223_92 : j_at 223 92 = some (.iload_n 1, 0, 0, 0) := by decide +kernel
theorem at_223_93 : j_at 223 93 = some (.imul, 0, 0, 0) := by decide +kernel
theorem at_223_94 : j_at 223 94 = some (.iload 6, 0, 0, 0) := by decide +kernel
theorem at_223_96 : j_at 223 96 = some (.iadd, 0, 0, 0) := by decide +kernel
theorem at_223_97 : j_at 223 97 = some (.iaload, 0, 0, 0) := by decide +kernel
theorem at_223_98 : j_at 223 98 = some (.iastore, 0, 0, 0) := by decide +kernel
theorem at_223_99 : j_at 223 99 = some (.iinc 6 1, 0, 0, 0) := by decide +kernel
theorem at_223_102 : j_at 223 102 = some (.goto (-71), 31, 0, 0) := by decide +kernel
theorem at_223_105 : j_at 223 105 = some (.aload_n 0, 0, 0, 0) := by decide +kernel
theorem at_223_106 : j_at 223 106 = some (.getfield 52, 12, 16, 0) := by decide +kernel
theorem at_223_109 : j_at 223 109 = some (.iload 5, 0, 0, 0) := by decide +kernel
theorem at_223_111 : j_at 223 111 = some (.iload_n 1, 0, 0, 0) := by decide +kernel
theorem at_223_112 : j_at 223 112 = some (.ifCond .ge 7, 119, 0, 0) := by decide +kernel
theorem at_223_115 : j_at 223 115 = some (.iconst 0, 0, 0, 0) := by decide +kernel
theorem at_223_116 : j_at 223 116 = some (.goto 11, 127, 0, 0) := by decide +kernel
theorem at_223_119 : j_at 223 119 = some (.aload_n 0, 0, 0, 0) := by decide +kernel
theorem at_223_120 : j_at 223 120 = some (.getfield 52, 12, 16, 0) := by decide +kernel
theorem at_223_123 : j_at 223 123 = some (.iload_n 1, 0, 0, 0) := by decide +kernel
theorem at_223_124 : j_at 223 124 = some (.iaload, 0, 0, 0) := by decide +kernel
theorem at_223_125 : j_at 223 125 = some (.iconst 1, 0, 0, 1) := by decide +kernel
theorem at_223_126 : j_at 223 126 = some (.iadd, 0, 0, 0) := by decide +kernel
theorem at_223_127 : j_at 223 127 = some (.iastore, 0, 0, 0) := by decide +kernel
theorem at_223_128 : j_at 223 128 = some (.iload_n 3, 0, 0, 0) := by decide +kernel
theorem at_223_129 : j_at 223 129 = some (.ifCond .le 15, 144, 0, 0) := by decide +kernel
theorem at_223_132 : j_at 223 132 = some (.aload_n 0, 0, 0, 0) := by decide +kernel
theorem at_223_133 : j_at 223 133 = some (.getfield 46, 12, 14, 0) := by decide +kernel
theorem at_223_136 : j_at 223 136 = some (.iconst 5, 0, 0, 5) := by decide +kernel
theorem at_223_137 : j_at 223 137 = some (.iload 5, 0, 0, 0) := by decide +kernel
theorem at_223_139 : j_at 223 139 = some (.imul, 0, 0, 0) := by decide +kernel
theorem at_223_140 : j_at 223 140 = some (.iload_n 2, 0, 0, 0) := by decide +kernel
theorem at_223_141 : j_at 223 141 = some (.iadd, 0, 0, 0) := by decide +kernel
theorem at_223_142 : j_at 223 142 = some (.iload_n 3, 0, 0, 0) := by decide +kernel
theorem at_223_143 : j_at 223 143 = some (.iastore, 0, 0, 0) := by decide +kernel
theorem at_223_144 : j_at 223 144 = some (.iload 4, 0, 0, 0) := by decide +kernel
theorem at_223_146 : j_at 223 146 = some (.ifCond .lt 16, 162, 0, 0) := by decide +kernel
theorem at_223_149 : j_at 223 149 = some (.aload_n 0, 0, 0, 0) := by decide +kernel
theorem at_223_150 : j_at 223 150 = some (.getfield 49, 12, 15, 0) := by decide +kernel
theorem at_223_153 : j_at 223 153 = some (.iconst 5, 0, 0, 5) := by decide +kernel
theorem at_223_154 : j_at 223 154 = some (.iload 5, 0, 0, 0) := by decide +kernel
theorem at_223_156 : j_at 223 156 = some (.imul, 0, 0, 0) := by decide +kernel
theorem at_223_157 : j_at 223 157 = some (.iload_n 2, 0, 0, 0) := by decide +kernel
theorem at_223_158 : j_at 223 158 = some (.iadd, 0, 0, 0) := by decide +kernel
theorem at_223_159 : j_at 223 159 = some (.iload 4, 0, 0, 0) := by decide +kernel
theorem at_223_161 : j_at 223 161 = some (.iastore, 0, 0, 0) := by decide +kernel
theorem at_223_162 : j_at 223 162 = some (.aload_n 0, 0, 0, 0) := by decide +kernel
theorem at_223_163 : j_at 223 163 = some (.iload 5, 0, 0, 0) := by decide +kernel
theorem at_223_165 : j_at 223 165 = some (.invokevirtual 374, 225, 1, 0) := by decide +kernel
theorem at_223_168 : j_at 223 168 = some (.ireturn, 0, 0, 0) := by decide +kernel
theorem at_224_0 : j_at 224 0 = some (.aload_n 0, 0, 0, 0) := by decide +kernel
theorem at_224_1 : j_at 224 1 = some (.getfield 46, 12, 14, 0) := by decide +kernel
theorem at_224_4 : j_at 224 4 = some (.iconst 5, 0, 0, 5) := by decide +kernel
theorem at_224_5 : j_at 224 5 = some (.iload_n 2, 0, 0, 0) := by decide +kernel
theorem at_224_6 : j_at 224 6 = some (.imul, 0, 0, 0) := by decide +kernel
theorem at_224_7 : j_at 224 7 = some (.iload_n 3, 0, 0, 0) := by decide +kernel
theorem at_224_8 : j_at 224 8 = some (.iadd, 0, 0, 0) := by decide +kernel
theorem at_224_9 : j_at 224 9 = some (.iaload, 0, 0, 0) := by decide +kernel
theorem at_224_10 : j_at 224 10 = some (.ifCond .le 42, 52, 0, 0) := by decide +kernel
theorem at_224_13 : j_at 224 13 = some (.aload_n 0, 0, 0, 0) := by decide +kernel
theorem at_224_14 : j_at 224 14 = some (.aload_n 1, 0, 0, 0) := by decide +kernel
theorem at_224_15 : j_at 224 15 = some (.bipush 40, 0, 0, 40) := by decide +kernel
theorem at_224_17 : j_at 224 17 = some (.iload_n 3, 0, 0, 0) := by decide +kernel
theorem at_224_18 : j_at 224 18 = some (.iadd, 0, 0, 0) := by decide +kernel
theorem at_224_19 : j_at 224 19 = some (.aload_n 0, 0, 0, 0) := by decide +kernel
theorem at_224_20 : j_at 224 20 = some (.getfield 46, 12, 14, 0) := by decide +kernel
theorem at_224_23 : j_at 224 23 = some (.iconst 5, 0, 0, 5) := by decide +kernel
theorem at_224_24 : j_at 224 24 = some (.iload_n 2, 0, 0, 0) := by decide +kernel
theorem at_224_25 : j_at 224 25 = some (.imul, 0, 0, 0) := by decide +kernel
theorem at_224_26 : j_at 224 26 = some (.iload_n 3, 0, 0, 0) := by decide +kernel
theorem at_224_27 : j_at 224 27 = some (.iadd, 0, 0, 0) := by decide +kernel
theorem at_224_28 : j_at 224 28 = some (.iaload, 0, 0, 0) := by decide +kernel
theorem at_224_29 : j_at 224 29 = some (.ineg, 0, 0, 0) := by decide +kernel
theorem at_224_30 : j_at 224 30 = some (.i2l, 0, 0, 0) := by decide +kernel
theorem at_224_31 : j_at 224 31 = some (.invokevirtual 213, 177, 3, 0) := by decide +kernel
theorem at_224_34 : j_at 224 34 = some (.aload_n 1, 0, 0, 0) := by decide +kernel
theorem at_224_35 : j_at 224 35 = some (.getfield 175, 11, 0, 0) := by decide +kernel
theorem at_224_38 : j_at 224 38 = some (.iconst 5, 0, 0, 5) := by decide +kernel
theorem at_224_39 : j_at 224 39 = some (.aload_n 1, 0, 0, 0) := by decide +kernel
theorem at_224_40 : j_at 224 40 = some (.getfield 178, 11, 15, 0) := by decide +kernel
theorem at_224_43 : j_at 224 43 = some (.iconst 1, 0, 0, 1) := by decide +kernel
theorem at_224_44 : j_at 224 44 = some (.isub, 0, 0, 0) := by decide +kernel
theorem at_224_45 : j_at 224 45 = some (.imul, 0, 0, 0) := by decide +kernel
theorem at_224_46 : j_at 224 46 = some (.iload_n 3, 0, 0, 0) := by decide +kernel
theorem at_224_47 : j_at 224 47 = some (.iadd, 0, 0, 0) := by decide +kernel
theorem at_224_48 : j_at 224 48 = some (.ldc2_w 242, 0, 0, -1) := by decide +kernel
theorem at_224_51 : j_at 224 51 = some (.lastore, 0, 0, 0) := by decide +kernel
theorem at_224_52 : j_at 224 52 = some (.aload_n 0, 0, 0, 0) := by decide +kernel
theorem at_224_53 : j_at 224 53 = some (.getfield 49, 12, 15, 0) := by decide +kernel
theorem at_224_56 : j_at 224 56 = some (.iconst 5, 0, 0, 5) := by decide +kernel
theorem at_224_57 : j_at 224 57 = some (.iload_n 2, 0, 0, 0) := by decide +kernel
theorem at_224_58 : j_at 224 58 = some (.imul, 0, 0, 0) := by decide +kernel
theorem at_224_59 : j_at 224 59 = some (.iload_n 3, 0, 0, 0) := by decide +kernel
theorem at_224_60 : j_at 224 60 = some (.iadd, 0, 0, 0) := by decide +kernel
theorem at_224_61 : j_at 224 61 = some (.iaload, 0, 0, 0) := by decide +kernel
theorem at_224_62 : j_at 224 62 = some (.ifCond .lt 39, 101, 0, 0) := by decide +kernel
theorem at_224_65 : j_at 224 65 = some (.aload_n 0, 0, 0, 0) := by decide +kernel
theorem at_224_66 : j_at 224 66 = some (.aload_n 1, 0, 0, 0) := by decide +kernel
theorem at_224_67 : j_at 224 67 = some (.bipush 50, 0, 0, 50) := by decide +kernel
theorem at_224_69 : j_at 224 69 = some (.iload_n 3, 0, 0, 0) := by decide +kernel
theorem at_224_70 : j_at 224 70 = some (.iadd, 0, 0, 0) := by decide +kernel
theorem at_224_71 : j_at 224 71 = some (.aload_n 0, 0, 0, 0) := by decide +kernel
theorem at_224_72 : j_at 224 72 = some (.getfield 49, 12, 15, 0) := by decide +kernel
theorem at_224_75 : j_at 224 75 = some (.iconst 5, 0, 0, 5) := by decide +kernel
theorem at_224_76 : j_at 224 76 = some (.iload_n 2, 0, 0, 0) := by decide +kernel
theorem at_224_77 : j_at 224 77 = some (.imul, 0, 0, 0) := by decide +kernel
theorem at_224_78 : j_at 224 78 = some (.iload_n 3, 0, 0, 0) := by decide +kernel
theorem at_224_79 : j_at 224 79 = some (.iadd, 0, 0, 0) := by decide +kernel
theorem at_224_80 : j_at 224 80 = some (.iaload, 0, 0, 0) := by decide +kernel
theorem at_224_81 : j_at 224 81 = some (.i2l, 0, 0, 0) := by decide +kernel
theorem at_224_82 : j_at 224 82 = some (.invokevirtual 213, 177, 3, 0) := by decide +kernel
theorem at_224_85 : j_at 224 85 = some (.aload_n 1, 0, 0, 0) := by decide +kernel
theorem at_224_86 : j_at 224 86 = some (.getfield 175, 11, 0, 0) := by decide +kernel
theorem at_224_89 : j_at 224 89 = some (.iconst 5, 0, 0, 5) := by decide +kernel
theorem at_224_90 : j_at 224 90 = some (.aload_n 1, 0, 0, 0) := by decide +kernel
theorem at_224_91 : j_at 224 91 = some (.getfield 178, 11, 15, 0) := by decide +kernel
theorem at_224_94 : j_at 224 94 = some (.iconst 1, 0, 0, 1) := by decide +kernel
theorem at_224_95 : j_at 224 95 = some (.isub, 0, 0, 0) := by decide +kernel
theorem at_224_96 : j_at 224 96 = some (.imul, 0, 0, 0) := by decide +kernel
theorem at_224_97 : j_at 224 97 = some (.iload_n 3, 0, 0, 0) := by decide +kernel
theorem at_224_98 : j_at 224 98 = some (.iadd, 0, 0, 0) := by decide +kernel
theorem at_224_99 : j_at 224 99 = some (.lconst 1, 0, 0, 1) := by decide +kernel
theorem at_224_100 : j_at 224 100 = some (.lastore, 0, 0, 0) := by decide +kernel
theorem at_224_101 : j_at 224 101 = some (.return_, 0, 0, 0) := by decide +kernel
theorem at_225_0 : j_at 225 0 = some (.aload_n 0, 0, 0, 0) := by decide +kernel
theorem at_225_1 : j_at 225 1 = some (.aload_n 0, 0, 0, 0) := by decide +kernel
theorem at_225_2 : j_at 225 2 = some (.getfield 34, 12, 10, 0) := by decide +kernel
theorem at_225_5 : j_at 225 5 = some (.invokevirtual 286, 178, 1, 0) := by decide +kernel
theorem at_225_8 : j_at 225 8 = some (.iconst 0, 0, 0, 0) := by decide +kernel
theorem at_225_9 : j_at 225 9 = some (.istore_n 2, 0, 0, 0) := by decide +kernel
theorem at_225_10 : j_at 225 10 = some (.iload_n 2, 0, 0, 0) := by decide +kernel
theorem at_225_11 : j_at 225 11 = some (.aload_n 0, 0, 0, 0) := by decide +kernel
theorem at_225_12 : j_at 225 12 = some (.invokevirtual 89, 151, 0, 0) := by decide +kernel
theorem at_225_15 : j_at 225 15 = some (.if_icmp .ge 19, 34, 0, 0) := by decide +kernel
theorem at_225_18 : j_at 225 18 = some (.aload_n 0, 0, 0, 0) := by decide +kernel
theorem at_225_19 : j_at 225 19 = some (.aload_n 0, 0, 0, 0) := by decide +kernel
theorem at_225_20 : j_at 225 20 = some (.getfield 34, 12, 10, 0) := by decide +kernel
theorem at_225_23 : j_at 225 23 = some (.iload_n 1, 0, 0, 0) := by decide +kernel
theorem at_225_24 : j_at 225 24 = some (.iload_n 2, 0, 0, 0) := by decide +kernel
theorem at_225_25 : j_at 225 25 = some (.invokevirtual 377, 224, 3, 0) := by decide +kernel
theorem at_225_28 : j_at 225 28 = some (.iinc 2 1, 0, 0, 0) := by decide +kernel
theorem at_225_31 : j_at 225 31 = some (.goto (-21), 10, 0, 0) := by decide +kernel
theorem at_225_34 : j_at 225 34 = some (.aload_n 0, 0, 0, 0) := by decide +kernel
theorem at_225_35 : j_at 225 35 = some (.aload_n 0, 0, 0, 0) := by decide +kernel
theorem at_225_36 : j_at 225 36 = some (.getfield 34, 12, 10, 0) := by decide +kernel
theorem at_225_39 : j_at 225 39 = some (.invokevirtual 290, 183, 1, 0) := by decide +kernel
theorem at_225_42 : j_at 225 42 = some (.istore_n 2, 0, 0, 0) := by decide +kernel
theorem at_225_43 : j_at 225 43 = some (.aload_n 0, 0, 0, 0) := by decide +kernel
theorem at_225_44 : j_at 225 44 = some (.dup, 0, 0, 0) := by decide +kernel
theorem at_225_45 : j_at 225 45 = some (.getfield 381, 12, 22, 0) := by decide +kernel
theorem at_225_48 : j_at 225 48 = some (.aload_n 0, 0, 0, 0) := by decide +kernel
theorem at_225_49 : j_at 225 49 = some (.getfield 34, 12, 10, 0) := by decide +kernel
theorem at_225_52 : j_at 225 52 = some (.getfield 190, 11, 17, 0) := by decide +kernel
theorem at_225_55 : j_at 225 55 = some (.iadd, 0, 0, 0) := by decide +kernel
theorem at_225_56 : j_at 225 56 = some (.putfield 381, 12, 22, 0) := by decide +kernel
theorem at_225_59 : j_at 225 59 = some (.aload_n 0, 0, 0, 0) := by decide +kernel
theorem at_225_60 : j_at 225 60 = some (.getfield 65, 12, 20, 0) := by decide +kernel
theorem at_225_63 : j_at 225 63 = some (.iload_n 1, 0, 0, 0) := by decide +kernel
theorem at_225_64 : j_at 225 64 = some (.iload_n 2, 0, 0, 0) := by decide +kernel
theorem at_225_65 : j_at 225 65 = some (.iconst 1, 0, 0, 1) := by decide +kernel
theorem at_225_66 : j_at 225 66 = some (.if_icmp .ne 7, 73, 0, 0) := by decide +kernel
theorem at_225_69 : j_at 225 69 = some (.iconst 1, 0, 0, 1) := by decide +kernel
theorem at_225_70 : j_at 225 70 = some (.goto 4, 74, 0, 0) := by decide +kernel
theorem at_225_73 : j_at 225 73 = some (.iconst 0, 0, 0, 0) := by decide +kernel
theorem at_225_74 : j_at 225 74 = some (.bastore, 0, 0, 0) := by decide +kernel
theorem at_225_75 : j_at 225 75 = some (.aload_n 0, 0, 0, 0) := by decide +kernel
theorem at_225_76 : j_at 225 76 = some (.getfield 59, 12, 18, 0) := by decide +kernel
theorem at_225_79 : j_at 225 79 = some (.iload_n 1, 0, 0, 0) := by decide +kernel
theorem at_225_80 : j_at 225 80 = some (.aload_n 0, 0, 0, 0) := by decide +kernel
theorem at_225_81 : j_at 225 81 = some (.getfield 34, 12, 10, 0) := by decide +kernel
theorem at_225_84 : j_at 225 84 = some (.getfield 193, 11, 12, 0) := by decide +kernel
theorem at_225_87 : j_at 225 87 = some (.lastore, 0, 0, 0) := by decide +kernel
theorem at_225_88 : j_at 225 88 = some (.aload_n 0, 0, 0, 0) := by decide +kernel
theorem at_225_89 : j_at 225 89 = some (.getfield 62, 12, 19, 0) := by decide +kernel
theorem at_225_92 : j_at 225 92 = some (.iload_n 1, 0, 0, 0) := by decide +kernel
theorem at_225_93 : j_at 225 93 = some (.aload_n 0, 0, 0, 0) := by decide +kernel
theorem at_225_94 : j_at 225 94 = some (.getfield 34, 12, 10, 0) := by decide +kernel
theorem at_225_97 : j_at 225 97 = some (.getfield 197, 11, 13, 0) := by decide +kernel
theorem at_225_100 : j_at 225 100 = some (.lastore, 0, 0, 0) := by decide +kernel
theorem at_225_101 : j_at 225 101 = some (.iconst 0, 0, 0, 0) := by decide +kernel
theorem at_225_102 : j_at 225 102 = some (.istore_n 3, 0, 0, 0) := by decide +kernel
theorem at_225_103 : j_at 225 103 = some (.iload_n 3, 0, 0, 0) := by decide +kernel
theorem at_225_104 : j_at 225 104 = some (.aload_n 0, 0, 0, 0) := by decide +kernel
theorem at_225_105 : j_at 225 105 = some (.invokevirtual 89, 151, 0, 0) := by decide +kernel
theorem at_225_108 : j_at 225 108 = some (.if_icmp .ge 28, 136, 0, 0) := by decide +kernel
theorem at_225_111 : j_at 225 111 = some (.aload_n 0, 0, 0, 0) := by decide +kernel
theorem at_225_112 : j_at 225 112 = some (.getfield 55, 12, 17, 0) := by decide +kernel
theorem at_225_115 : j_at 225 115 = some (.iconst 5, 0, 0, 5) := by decide +kernel
theorem at_225_116 : j_at 225 116 = some (.iload_n 1, 0, 0, 0) := by decide +kernel
theorem at_225_117 : j_at 225 117 = some (.imul, 0, 0, 0) := by decide +kernel
theorem at_225_118 : j_at 225 118 = some (.iload_n 3, 0, 0, 0) := by decide +kernel
theorem at_225_119 : j_at 225 119 = some (.iadd, 0, 0, 0) := by decide +kernel
theorem at_225_120 : j_at 225 120 = some (.aload_n 0, 0, 0, 0) := by decide +kernel
theorem at_225_121 : j_at 225 121 = some (.aload_n 0, 0, 0, 0) := by decide +kernel
theorem at_225_122 : j_at 225 122 = some (.getfield 34, 12, 10, 0) := by decide +kernel
theorem at_225_125 : j_at 225 125 = some (.iload_n 3, 0, 0, 0) := by decide +kernel
theorem at_225_126 : j_at 225 126 = some (.invokevirtual 314, 197, 2, 0) := by decide +kernel
theorem at_225_129 : j_at 225 129 = some (.lastore, 0, 0, 0) := by decide +kernel
theorem at_225_130 : j_at 225 130 = some (.iinc 3 1, 0, 0, 0) := by decide +kernel
theorem at_225_133 : j_at 225 133 = some (.goto (-30), 103, 0, 0) := by decide +kernel
theorem at_225_136 : j_at 225 136 = some (.iload_n 2, 0, 0, 0) := by decide +kernel
theorem at_225_137 : j_at 225 137 = some (.bipush (-6), 0, 0, -6) := by decide +kernel
theorem at_225_139 : j_at 225 139 = some (.if_icmp .ne 8, 147, 0, 0) := by decide +kernel
theorem at_225_142 : j_at 225 142 = some (.bipush (-6), 0, 0, -6) := by decide +kernel
theorem at_225_144 : j_at 225 144 = some (.goto 4, 148, 0, 0) := by decide +kernel
theorem at_225_147 : j_at 225 147 = some (.iconst 1, 0, 0, 1) := by decide +kernel
theorem at_225_148 : j_at 225 148 = some (.ireturn, 0, 0, 0) := by decide +kernel
theorem at_226_0 : j_at 226 0 = some (.iconst (-1), 0, 0, -1) := by decide +kernel
theorem at_226_1 : j_at 226 1 = some (.istore_n 1, 0, 0, 0) := by decide +kernel
theorem at_226_2 : j_at 226 2 = some (.iconst 0, 0, 0, 0) := by decide +kernel
theorem at_226_3 : j_at 226 3 = some (.istore_n 2, 0, 0, 0) := by decide +kernel
theorem at_226_4 : j_at 226 4 = some (.iload_n 2, 0, 0, 0) := by decide +kernel
theorem at_226_5 : j_at 226 5 = some (.aload_n 0, 0, 0, 0) := by decide +kernel
theorem at_226_6 : j_at 226 6 = some (.getfield 371, 12, 21, 0) := by decide +kernel
theorem at_226_9 : j_at 226 9 = some (.if_icmp .ge 54, 63, 0, 0) := by decide +kernel
theorem at_226_12 : j_at 226 12 = some (.aload_n 0, 0, 0, 0) := by decide +kernel
theorem at_226_13 : j_at 226 13 = some (.getfield 65, 12, 20, 0) := by decide +kernel
theorem at_226_16 : j_at 226 16 = some (.iload_n 2, 0, 0, 0) := by decide +kernel
theorem at_226_17 : j_at 226 17 = some (.baload, 0, 0, 0) := by decide +kernel
theorem at_226_18 : j_at 226 18 = some (.ifCond .eq 39, 57, 0, 0) := by decide +kernel
theorem at_226_21 : j_at 226 21 = some (.iload_n 1, 0, 0, 0) := by decide +kernel
theorem at_226_22 : j_at 226 22 = some (.ifCond .lt 33, 55, 0, 0) := by decide +kernel
theorem at_226_25 : j_at 226 25 = some (.aload_n 0, 0, 0, 0) := by decide +kernel
theorem at_226_26 : j_at 226 26 = some (.getfield 59, 12, 18, 0) := by decide +kernel
theorem at_226_29 : j_at 226 29 = some (.iload_n 2, 0, 0, 0) := by decide +kernel
theorem at_226_30 : j_at 226 30 = some (.laload, 0, 0, 0) := by decide +kernel
theorem at_226_31 : j_at 226 31 = some (.aload_n 0, 0, 0, 0) := by decide +kernel
theorem at_226_32 : j_at 226 32 = some (.getfield 62, 12, 19, 0) := by decide +kernel
theorem at_226_35 : j_at 226 35 = some (.iload_n 1, 0, 0, 0) := by decide +kernel
theorem at_226_36 : j_at 226 36 = some (.laload, 0, 0, 0) := by decide +kernel
theorem at_226_37 : j_at 226 37 = some (.lmul, 0, 0, 0) := by decide +kernel
theorem at_226_38 : j_at 226 38 = some (.aload_n 0, 0, 0, 0) := by decide +kernel
theorem at_226_39 : j_at 226 39 = some (.getfield 59, 12, 18, 0) := by decide +kernel
theorem at_226_42 : j_at 226 42 = some (.iload_n 1, 0, 0, 0) := by decide +kernel
theorem at_226_43 : j_at 226 43 = some (.laload, 0, 0, 0) := by decide +kernel
theorem at_226_44 : j_at 226 44 = some (.aload_n 0, 0, 0, 0) := by decide +kernel
theorem at_226_45 : j_at 226 45 = some (.getfield 62, 12, 19, 0) := by decide +kernel
theorem at_226_48 : j_at 226 48 = some (.iload_n 2, 0, 0, 0) := by decide +kernel
theorem at_226_49 : j_at 226 49 = some (.laload, 0, 0, 0) := by decide +kernel
theorem at_226_50 : j_at 226 50 = some (.lmul, 0, 0, 0) := by decide +kernel
theorem at_226_51 : j_at 226 51 = some (.lcmp, 0, 0, 0) := by decide +kernel
theorem at_226_52 : j_at 226 52 = some (.ifCond .ge 5, 57, 0, 0) := by decide +kernel
theorem at_226_55 : j_at 226 55 = some (.iload_n 2, 0, 0, 0) := by decide +kernel
theorem at_226_56 : j_at 226 56 = some (.istore_n 1, 0, 0, 0) := by decide +kernel
theorem at_226_57 : j_at 226 57 = some (.iinc 2 1, 0, 0, 0) := by decide +kernel
theorem at_226_60 : j_at 226 60 = some (.goto (-56), 4, 0, 0) := by decide +kernel
theorem at_226_63 : j_at 226 63 = some (.iload_n 1, 0, 0, 0) := by decide +kernel
theorem at_226_64 : j_at 226 64 = some (.ireturn, 0, 0, 0) := by decide +kernel
theorem at_227_0 : j_at 227 0 = some (.iconst 0, 0, 0, 0) := by decide +kernel
theorem at_227_1 : j_at 227 1 = some (.istore_n 2, 0, 0, 0) := by decide +kernel
theorem at_227_2 : j_at 227 2 = some (.iload_n 2, 0, 0, 0) := by decide +kernel
theorem at_227_3 : j_at 227 3 = some (.aload_n 0, 0, 0, 0) := by decide +kernel
theorem at_227_4 : j_at 227 4 = some (.invokevirtual 89, 151, 0, 0) := by decide +kernel
theorem at_227_7 : j_at 227 7 = some (.if_icmp .ge 33, 40, 0, 0) := by decide +kernel
theorem at_227_10 : j_at 227 10 = some (.aload_n 0, 0, 0, 0) := by decide +kernel
theorem at_227_11 : j_at 227 11 = some (.getfield 55, 12, 17, 0) := by decide +kernel
theorem at_227_14 : j_at 227 14 = some (.iconst 5, 0, 0, 5) := by decide +kernel
theorem at_227_15 : j_at 227 15 = some (.iload_n 1, 0, 0, 0) := by decide +kernel
theorem at_227_16 : j_at 227 16 = some (.imul, 0, 0, 0) := by decide +kernel
theorem at_227_17 : j_at 227 17 = some (.iload_n 2, 0, 0, 0) := by decide +kernel
theorem at_227_18 : j_at 227 18 = some (.iadd, 0, 0, 0) := by decide +kernel
theorem at_227_19 : j_at 227 19 = some (.laload, 0, 0, 0) := by decide +kernel
theorem at_227_20 : j_at 227 20 = some (.aload_n 0, 0, 0, 0) := by decide +kernel
theorem at_227_21 : j_at 227 21 = some (.getfield 62, 12, 19, 0) := by decide +kernel
theorem at_227_24 : j_at 227 24 = some (.iload_n 1, 0, 0, 0) := by decide +kernel
theorem at_227_25 : j_at 227 25 = some (.laload, 0, 0, 0) := by decide +kernel
theorem at_227_26 : j_at 227 26 = some (.lrem, 0, 0, 0) := by decide +kernel
theorem at_227_27 : j_at 227 27 = some (.lconst 0, 0, 0, 0) := by decide +kernel
theorem at_227_28 : j_at 227 28 = some (.lcmp, 0, 0, 0) := by decide +kernel
theorem at_227_29 : j_at 227 29 = some (.ifCond .eq 5, 34, 0, 0) := by decide +kernel
theorem at_227_32 : j_at 227 32 = some (.iload_n 2, 0, 0, 0) := by decide +kernel
theorem at_227_33 : j_at 227 33 = some (.ireturn, 0, 0, 0) := by decide +kernel
theorem at_227_34 : j_at 227 34 = some (.iinc 2 1, 0, 0, 0) := by decide +kernel
theorem at_227_37 : j_at 227 37 = some (.goto (-35), 2, 0, 0) := by decide +kernel
theorem at_227_40 : j_at 227 40 = some (.iconst (-1), 0, 0, -1) := by decide +kernel
theorem at_227_41 : j_at 227 41 = some (.ireturn, 0, 0, 0) := by decide +kernel
theorem at_228_0 : j_at 228 0 = some (.aload_n 0, 0, 0, 0) := by decide +kernel
theorem at_228_1 : j_at 228 1 = some (.iconst 0, 0, 0, 0) := by decide +kernel
theorem at_228_2 : j_at 228 2 = some (.putfield 371, 12, 21, 0) := by decide +kernel
theorem at_228_5 : j_at 228 5 = some (.aload_n 0, 0, 0, 0) := by decide +kernel
theorem at_228_6 : j_at 228 6 = some (.iconst 0, 0, 0, 0) := by decide +kernel
theorem at_228_7 : j_at 228 7 = some (.putfield 381, 12, 22, 0) := by decide +kernel
theorem at_228_10 : j_at 228 10 = some (.aload_n 0, 0, 0, 0) := by decide +kernel
theorem at_228_11 : j_at 228 11 = some (.iconst (-1), 0, 0, -1) := by decide +kernel
theorem at_228_12 : j_at 228 12 = some (.iconst 0, 0, 0, 0) := by decide +kernel
theorem at_228_13 : j_at 228 13 = some (.iconst 0, 0, 0, 0) := by decide +kernel
theorem at_228_14 : j_at 228 14 = some (.iconst (-1), 0, 0, -1) := by decide +kernel
theorem at_228_15 : j_at 228 15 = some (.invokevirtual 384, 223, 4, 0) := by decide +kernel
theorem at_228_18 : j_at 228 18 = some (.istore_n 1, 0, 0, 0) := by decide +kernel
theorem at_228_19 : j_at 228 19 = some (.iload_n 1, 0, 0, 0) := by decide +kernel
theorem at_228_20 : j_at 228 20 = some (.iconst 1, 0, 0, 1) := by decide +kernel
theorem at_228_21 : j_at 228 21 = some (.if_icmp .ne 89, 110, 0, 0) := by decide +kernel
theorem at_228_24 : j_at 228 24 = some (.aload_n 0, 0, 0, 0) := by decide +kernel
theorem at_228_25 : j_at 228 25 = some (.invokevirtual 388, 226, 0, 0) := by decide +kernel
theorem at_228_28 : j_at 228 28 = some (.istore_n 2, 0, 0, 0) := by decide +kernel
theorem at_228_29 : j_at 228 29 = some (.iload_n 2, 0, 0, 0) := by decide +kernel
theorem at_228_30 : j_at 228 30 = some (.ifCond .ge 6, 36, 0, 0) := by decide +kernel
theorem at_228_33 : j_at 228 33 = some (.bipush (-5), 0, 0, -5) := by decide +kernel
theorem at_228_35 : j_at 228 35 = some (.ireturn, 0, 0, 0) := by decide +kernel
theorem at_228_36 : j_at 228 36 = some (.aload_n 0, 0, 0, 0) := by decide +kernel
theorem at_228_37 : j_at 228 37 = some (.getfield 65, 12, 20, 0) := by decide +kernel
theorem at_228_40 : j_at 228 40 = some (.iload_n 2, 0, 0, 0) := by decide +kernel
theorem at_228_41 : j_at 228 41 = some (.iconst 0, 0, 0, 0) := by decide +kernel
theorem at_228_42 : j_at 228 42 = some (.bastore, 0, 0, 0) := by decide +kernel
theorem at_228_43 : j_at 228 43 = some (.aload_n 0, 0, 0, 0) := by decide +kernel
theorem at_228_44 : j_at 228 44 = some (.iload_n 2, 0, 0, 0) := by decide +kernel
theorem at_228_45 : j_at 228 45 = some (.putfield 391, 12, 23, 0) := by decide +kernel
theorem at_228_48 : j_at 228 48 = some (.aload_n 0, 0, 0, 0) := by decide +kernel
theorem at_228_49 : j_at 228 49 = some (.iload_n 2, 0, 0, 0) := by decide +kernel
theorem at_228_50 : j_at 228 50 = some (.invokevirtual 394, 227, 1, 0) := by decide +kernel
theorem at_228_53 : j_at 228 53 = some (.istore_n 3, 0, 0, 0) := by decide +kernel
theorem at_228_54 : j_at 228 54 = some (.iload_n 3, 0, 0, 0) := by decide +kernel
theorem at_228_55 : j_at 228 55 = some (.ifCond .ge 5, 60, 0, 0) := by decide +kernel
theorem at_228_58 : j_at 228 58 = some (.iconst 1, 0, 0, 1) := by decide +kernel
theorem at_228_59 : j_at 228 59 = some (.ireturn, 0, 0, 0) := by decide +kernel
theorem at_228_60 : j_at 228 60 = some (.aload_n 0, 0, 0, 0) := by decide +kernel
theorem at_228_61 : j_at 228 61 = some (.getfield 55, 12, 17, 0) := by decide +kernel
theorem at_228_64 : j_at 228 64 = some (.iconst 5, 0, 0, 5) := by decide +kernel
theorem at_228_65 : j_at 228 65 = some (.iload_n 2, 0, 0, 0) := by decide +kernel
theorem at_228_66 : j_at 228 66 = some (.imul, 0, 0, 0) := by decide +kernel
theorem at_228_67 : j_at 228 67 = some (.iload_n 3, 0, 0, 0) := by decide +kernel
theorem at_228_68 : j_at 228 68 = some (.iadd, 0, 0, 0) := by decide +kernel
theorem at_228_69 : j_at 228 69 = some (.laload, 0, 0, 0) := by decide +kernel
theorem at_228_70 : j_at 228 70 = some (.aload_n 0, 0, 0, 0) := by decide +kernel
theorem at_228_71 : j_at 228 71 = some (.getfield 62, 12, 19, 0) := by decide +kernel
theorem at_228_74 : j_at 228 74 = some (.iload_n 2, 0, 0, 0) := by decide +kernel
theorem at_228_75 : j_at 228 75 = some (.laload, 0, 0, 0) := by decide +kernel
theorem at_228_76 : j_at 228 76 = some (.ldiv, 0, 0, 0) := by decide +kernel
theorem at_228_77 : j_at 228 77 = some (.l2i, 0, 0, 0) := by decide +kernel
theorem at_228_78 : j_at 228 78 = some (.istore 4, 0, 0, 0) := by decide +kernel
theorem at_228_80 : j_at 228 80 = some (.aload_n 0, 0, 0, 0) := by decide +kernel
theorem at_228_81 : j_at 228 81 = some (.iload_n 2, 0, 0, 0) := by decide +kernel
theorem at_228_82 : j_at 228 82 = some (.iload_n 3, 0, 0, 0) := by decide +kernel
theorem at_228_83 : j_at 228 83 = some (.iconst 0, 0, 0, 0) := by decide +kernel
theorem at_228_84 : j_at 228 84 = some (.iload 4, 0, 0, 0) := by decide +kernel
theorem at_228_86 : j_at 228 86 = some (.invokevirtual 384, 223, 4, 0) := by decide +kernel
theorem at_228_89 : j_at 228 89 = some (.istore_n 1, 0, 0, 0) := by decide +kernel
theorem at_228_90 : j_at 228 90 = some (.iload_n 1, 0, 0, 0) := by decide +kernel
theorem at_228_91 : j_at 228 91 = some (.iconst 1, 0, 0, 1) := by decide +kernel
theorem at_228_92 : j_at 228 92 = some (.if_icmp .ne 15, 107, 0, 0) := by decide +kernel
theorem at_228_95 : j_at 228 95 = some (.aload_n 0, 0, 0, 0) := by decide +kernel
theorem at_228_96 : j_at 228 96 = some (.iload_n 2, 0, 0, 0) := by decide +kernel
theorem at_228_97 : j_at 228 97 = some (.iload_n 3, 0, 0, 0) := by decide +kernel
theorem at_228_98 : j_at 228 98 = some (.iload 4, 0, 0, 0) := by decide +kernel
theorem at_228_100 : j_at 228 100 = some (.iconst 1, 0, 0, 1) := by decide +kernel
theorem at_228_101 : j_at 228 101 = some (.iadd, 0, 0, 0) := by decide +kernel
theorem at_228_102 : j_at 228 102 = some (.iconst (-1), 0, 0, -1) := by decide +kernel
theorem at_228_103 : j_at 228 103 = some (.invokevirtual 384, 223, 4, 0) := by decide +kernel
theorem at_228_106 : j_at 228 106 = some (.istore_n 1, 0, 0, 0) := by decide +kernel
theorem at_228_107 : j_at 228 107 = some (.goto (-88), 19, 0, 0) := by decide +kernel
theorem at_228_110 : j_at 228 110 = some (.iload_n 1, 0, 0, 0) := by decide +kernel
theorem at_228_111 : j_at 228 111 = some (.ireturn, 0, 0, 0) := by decide +kernel
theorem at_229_0 : j_at 229 0 = some (.iload_n 1, 0, 0, 0) := by decide +kernel
theorem at_229_1 : j_at 229 1 = some (.i2l, 0, 0, 0) := by decide +kernel
theorem at_229_2 : j_at 229 2 = some (.lconst 0, 0, 0, 0) := by decide +kernel
theorem at_229_3 : j_at 229 3 = some (.iconst 3, 0, 0, 3) := by decide +kernel
theorem at_229_4 : j_at 229 4 = some (.aload_n 0, 0, 0, 0) := by decide +kernel
theorem at_229_5 : j_at 229 5 = some (.invokevirtual 89, 151, 0, 0) := by decide +kernel
theorem at_229_8 : j_at 229 8 = some (.iadd, 0, 0, 0) := by decide +kernel
theorem at_229_9 : j_at 229 9 = some (.i2l, 0, 0, 0) := by decide +kernel
theorem at_229_10 : j_at 229 10 = some (.invokestatic 93, 150, 3, 0) := by decide +kernel
theorem at_229_13 : j_at 229 13 = some (.ifCond .ne 5, 18, 0, 0) := by decide +kernel
theorem at_229_16 : j_at 229 16 = some (.iconst (-1), 0, 0, -1) := by decide +kernel
theorem at_229_17 : j_at 229 17 = some (.ireturn, 0, 0, 0) := by decide +kernel
theorem at_229_18 : j_at 229 18 = some (.aload_n 0, 0, 0, 0) := by decide +kernel
theorem at_229_19 : j_at 229 19 = some (.invokevirtual 397, 228, 0, 0) := by decide +kernel
theorem at_229_22 : j_at 229 22 = some (.istore_n 2, 0, 0, 0) := by decide +kernel
theorem at_229_23 : j_at 229 23 = some (.iload_n 1, 0, 0, 0) := by decide +kernel
theorem at_229_24 : j_at 229 24 = some (.iconst 1, 0, 0, 1) := by decide +kernel
theorem at_229_25 : j_at 229 25 = some (.if_icmp .ne 8, 33, 0, 0) := by decide +kernel
theorem at_229_28 : j_at 229 28 = some (.aload_n 0, 0, 0, 0) := by decide +kernel
theorem at_229_29 : j_at 229 29 = some (.getfield 371, 12, 21, 0) := by decide +kernel
theorem at_229_32 : j_at 229 32 = some (.ireturn, 0, 0, 0) := by decide +kernel
theorem at_229_33 : j_at 229 33 = some (.iload_n 1, 0, 0, 0) := by decide +kernel
theorem at_229_34 : j_at 229 34 = some (.iconst 3, 0, 0, 3) := by decide +kernel
theorem at_229_35 : j_at 229 35 = some (.if_icmp .ne 8, 43, 0, 0) := by decide +kernel
theorem at_229_38 : j_at 229 38 = some (.aload_n 0, 0, 0, 0) := by decide +kernel
theorem at_229_39 : j_at 229 39 = some (.getfield 381, 12, 22, 0) := by decide +kernel
theorem at_229_42 : j_at 229 42 = some (.ireturn, 0, 0, 0) := by decide +kernel
theorem at_229_43 : j_at 229 43 = some (.iload_n 2, 0, 0, 0) := by decide +kernel
theorem at_229_44 : j_at 229 44 = some (.ifCond .ge 5, 49, 0, 0) := by decide +kernel
theorem at_229_47 : j_at 229 47 = some (.iload_n 2, 0, 0, 0) := by decide +kernel
theorem at_229_48 : j_at 229 48 = some (.ireturn, 0, 0, 0) := by decide +kernel
theorem at_229_49 : j_at 229 49 = some (.iload_n 1, 0, 0, 0) := by decide +kernel
theorem at_229_50 : j_at 229 50 = some (.ifCond .ne 26, 76, 0, 0) := by decide +kernel
theorem at_229_53 : j_at 229 53 = some (.aload_n 0, 0, 0, 0) := by decide +kernel
theorem at_229_54 : j_at 229 54 = some (.getfield 59, 12, 18, 0) := by decide +kernel
theorem at_229_57 : j_at 229 57 = some (.aload_n 0, 0, 0, 0) := by decide +kernel
theorem at_229_58 : j_at 229 58 = some (.getfield 391, 12, 23, 0) := by decide +kernel
theorem at_229_61 : j_at 229 61 = some (.laload, 0, 0, 0) := by decide +kernel
theorem at_229_62 : j_at 229 62 = some (.aload_n 0, 0, 0, 0) := by decide +kernel
theorem at_229_63 : j_at 229 63 = some (.getfield 62, 12, 19, 0) := by decide +kernel
theorem at_229_66 : j_at 229 66 = some (.aload_n 0, 0, 0, 0) := by decide +kernel
theorem at_229_67 : j_at 229 67 = some (.getfield 391, 12, 23, 0) := by decide +kernel
theorem at_229_70 : j_at 229 70 = some (.laload, 0, 0, 0) := by decide +kernel
theorem at_229_71 : j_at 229 71 = some (.ldiv, 0, 0, 0) := by decide +kernel
theorem at_229_72 : j_at 229 72 = some (.l2i, 0, 0, 0) := by decide +kernel
theorem at_229_73 : j_at 229 73 = some (.goto 46, 119, 0, 0) := by decide +kernel
theorem at_229_76 : j_at 229 76 = some (.iload_n 1, 0, 0, 0) := by decide +kernel
theorem at_229_77 : j_at 229 77 = some (.iconst 2, 0, 0, 2) := by decide +kernel
theorem at_229_78 : j_at 229 78 = some (.if_icmp .ne 15, 93, 0, 0) := by decide +kernel
theorem at_229_81 : j_at 229 81 = some (.aload_n 0, 0, 0, 0) := by decide +kernel
theorem at_229_82 : j_at 229 82 = some (.getfield 52, 12, 16, 0) := by decide +kernel
theorem at_229_85 : j_at 229 85 = some (.aload_n 0, 0, 0, 0) := by decide +kernel
theorem at_229_86 : j_at 229 86 = some (.getfield 391, 12, 23, 0) := by decide +kernel
theorem at_229_89 : j_at 229 89 = some (.iaload, 0, 0, 0) := by decide +kernel
theorem at_229_90 : j_at 229 90 = some (.goto 29, 119, 0, 0) := by decide +kernel
theorem at_229_93 : j_at 229 93 = some (.aload_n 0, 0, 0, 0) := by decide +kernel
theorem at_229_94 : j_at 229 94 = some (.getfield 55, 12, 17, 0) := by decide +kernel
theorem at_229_97 : j_at 229 97 = some (.iconst 5, 0, 0, 5) := by decide +kernel
theorem at_229_98 : j_at 229 98 = some (.aload_n 0, 0, 0, 0) := by decide +kernel
theorem at_229_99 : j_at 229 99 = some (.getfield 391, 12, 23, 0) := by decide +kernel
theorem at_229_102 : j_at 229 102 = some (.imul, 0, 0, 0) := by decide +kernel
theorem at_229_103 : j_at 229 103 = some (.iload_n 1, 0, 0, 0) := by decide +kernel
theorem at_229_104 : j_at 229 104 = some (.iadd, 0, 0, 0) := by decide +kernel
theorem at_229_105 : j_at 229 105 = some (.iconst 4, 0, 0, 4) := by decide +kernel
theorem at_229_106 : j_at 229 106 = some (.isub, 0, 0, 0) := by decide +kernel
theorem at_229_107 : j_at 229 107 = some (.laload, 0, 0, 0) := by decide +kernel
theorem at_229_108 : j_at 229 108 = some (.aload_n 0, 0, 0, 0) := by decide +kernel
theorem at_229_109 : j_at 229 109 = some (.getfield 62, 12, 19, 0) := by decide +kernel
theorem at_229_112 : j_at 229 112 = some (.aload_n 0, 0, 0, 0) := by decide +kernel
theorem at_229_113 : j_at 229 113 = some (.getfield 391, 12, 23, 0) := by decide +kernel
theorem at_229_116 : j_at 229 116 = some (.laload, 0, 0, 0) := by decide +kernel
theorem at_229_117 : j_at 229 117 = some (.ldiv, 0, 0, 0) := by decide +kernel
theorem at_229_118 : j_at 229 118 = some (.l2i, 0, 0, 0) := by decide +kernel
theorem at_229_119 : j_at 229 119 = some (.ireturn, 0, 0, 0) := by decide +kernel
theorem at_230_0 : j_at 230 0 = some (.bipush 12, 0, 0, 12) := by decide +kernel
theorem at_230_2 : j_at 230 2 = some (.bipush 7, 0, 0, 7) := by decide +kernel
theorem at_230_4 : j_at 230 4 = some (.iload_n 1, 0, 0, 0) := by decide +kernel
theorem at_230_5 : j_at 230 5 = some (.imul, 0, 0, 0) := by decide +kernel
theorem at_230_6 : j_at 230 6 = some (.iadd, 0, 0, 0) := by decide +kernel
theorem at_230_7 : j_at 230 7 = some (.iconst 1, 0, 0, 1) := by decide +kernel
theorem at_230_8 : j_at 230 8 = some (.iadd, 0, 0, 0) := by decide +kernel
theorem at_230_9 : j_at 230 9 = some (.istore_n 3, 0, 0, 0) := by decide +kernel
theorem at_230_10 : j_at 230 10 = some (.aload_n 0, 0, 0, 0) := by decide +kernel
theorem at_230_11 : j_at 230 11 = some (.getfield 11, 12, 0, 0) := by decide +kernel
theorem at_230_14 : j_at 230 14 = some (.iload_n 3, 0, 0, 0) := by decide +kernel
theorem at_230_15 : j_at 230 15 = some (.iaload, 0, 0, 0) := by decide +kernel
theorem at_230_16 : j_at 230 16 = some (.istore 4, 0, 0, 0) := by decide +kernel
theorem at_230_18 : j_at 230 18 = some (.aload_n 0, 0, 0, 0) := by decide +kernel
theorem at_230_19 : j_at 230 19 = some (.getfield 11, 12, 0, 0) := by decide +kernel
theorem at_230_22 : j_at 230 22 = some (.iload_n 3, 0, 0, 0) := by decide +kernel
theorem at_230_23 : j_at 230 23 = some (.iload_n 2, 0, 0, 0) := by decide +kernel
theorem at_230_24 : j_at 230 24 = some (.iastore, 0, 0, 0) := by decide +kernel
theorem at_230_25 : j_at 230 25 = some (.aload_n 0, 0, 0, 0) := by decide +kernel
theorem at_230_26 : j_at 230 26 = some (.invokevirtual 400, 192, 0, 0) := by decide +kernel
theorem at_230_29 : j_at 230 29 = some (.istore 5, 0, 0, 0) := by decide +kernel
theorem at_230_31 : j_at 230 31 = some (.aload_n 0, 0, 0, 0) := by decide +kernel
theorem at_230_32 : j_at 230 32 = some (.getfield 11, 12, 0, 0) := by decide +kernel
theorem at_230_35 : j_at 230 35 = some (.iload_n 3, 0, 0, 0) := by decide +kernel
theorem at_230_36 : j_at 230 36 = some (.iload 4, 0, 0, 0) := by decide +kernel
theorem at_230_38 : j_at 230 38 = some (.iastore, 0, 0, 0) := by decide +kernel
theorem at_230_39 : j_at 230 39 = some (.iload 5, 0, 0, 0) := by decide +kernel
theorem at_230_41 : j_at 230 41 = some (.ireturn, 0, 0, 0) := by decide +kernel
theorem at_231_0 : j_at 231 0 = some (.aload_n 0, 0, 0, 0) := by decide +kernel
theorem at_231_1 : j_at 231 1 = some (.iload_n 1, 0, 0, 0) := by decide +kernel
theorem at_231_2 : j_at 231 2 = some (.invokevirtual 124, 153, 1, 0) := by decide +kernel
theorem at_231_5 : j_at 231 5 = some (.ifCond .ne 7, 12, 0, 0) := by decide +kernel
theorem at_231_8 : j_at 231 8 = some (.iconst (-1), 0, 0, -1) := by decide +kernel
theorem at_231_9 : j_at 231 9 = some (.goto 28, 37, 0, 0) := by decide +kernel
theorem at_231_12 : j_at 231 12 = some (.iload_n 2, 0, 0, 0) := by decide +kernel
theorem at_231_13 : j_at 231 13 = some (.i2l, 0, 0, 0) := by decide +kernel
theorem at_231_14 : j_at 231 14 = some (.ldc2_w 116, 0, 0, -99) := by decide +kernel
theorem at_231_17 : j_at 231 17 = some (.ldc2_w 118, 0, 0, 999) := by decide +kernel
theorem at_231_20 : j_at 231 20 = some (.invokestatic 93, 150, 3, 0) := by decide +kernel
theorem at_231_23 : j_at 231 23 = some (.ifCond .eq 12, 35, 0, 0) := by decide +kernel
theorem at_231_26 : j_at 231 26 = some (.aload_n 0, 0, 0, 0) := by decide +kernel
theorem at_231_27 : j_at 231 27 = some (.iload_n 1, 0, 0, 0) := by decide +kernel
theorem at_231_28 : j_at 231 28 = some (.iload_n 2, 0, 0, 0) := by decide +kernel
theorem at_231_29 : j_at 231 29 = some (.invokevirtual 403, 230, 2, 0) := by decide +kernel
theorem at_231_32 : j_at 231 32 = some (.goto 5, 37, 0, 0) := by decide +kernel
theorem at_231_35 : j_at 231 35 = some (.bipush (-2), 0, 0, -2) := by decide +kernel
theorem at_231_37 : j_at 231 37 = some (.ireturn, 0, 0, 0) := by decide +kernel
theorem at_232_0 : j_at 232 0 = some (.iload_n 1, 0, 0, 0) := by decide +kernel
theorem at_232_1 : j_at 232 1 = some (.iconst (-1), 0, 0, -1) := by decide +kernel
theorem at_232_2 : j_at 232 2 = some (.if_icmp .ne 12, 14, 0, 0) := by decide +kernel
theorem at_232_5 : j_at 232 5 = some (.aload_n 0, 0, 0, 0) := by decide +kernel
theorem at_232_6 : j_at 232 6 = some (.getfield 11, 12, 0, 0) := by decide +kernel
theorem at_232_9 : j_at 232 9 = some (.iconst 4, 0, 0, 4) := by decide +kernel
theorem at_232_10 : j_at 232 10 = some (.iconst 0, 0, 0, 0) := by decide +kernel
theorem at_232_11 : j_at 232 11 = some (.iastore, 0, 0, 0) := by decide +kernel
theorem at_232_12 : j_at 232 12 = some (.iconst 0, 0, 0, 0) := by decide +kernel
theorem at_232_13 : j_at 232 13 = some (.ireturn, 0, 0, 0) := by decide +kernel
theorem at_232_14 : j_at 232 14 = some (.aload_n 0, 0, 0, 0) := by decide +kernel
theorem at_232_15 : j_at 232 15 = some (.iload_n 1, 0, 0, 0) := by decide +kernel
theorem at_232_16 : j_at 232 16 = some (.invokevirtual 110, 152, 1, 0) := by decide +kernel
theorem at_232_19 : j_at 232 19 = some (.ifCond .ne 5, 24, 0, 0) := by decide +kernel
theorem at_232_22 : j_at 232 22 = some (.iconst (-1), 0, 0, -1) := by decide +kernel
theorem at_232_23 : j_at 232 23 = some (.ireturn, 0, 0, 0) := by decide +kernel
theorem at_232_24 : j_at 232 24 = some (.iload_n 2, 0, 0, 0) := by decide +kernel
theorem at_232_25 : j_at 232 25 = some (.i2l, 0, 0, 0) := by decide +kernel
theorem at_232_26 : j_at 232 26 = some (.lconst 0, 0, 0, 0) := by decide +kernel
theorem at_232_27 : j_at 232 27 = some (.ldc2_w 118, 0, 0, 999) := by decide +kernel
theorem at_232_30 : j_at 232 30 = some (.invokestatic 93, 150, 3, 0) := by decide +kernel
theorem at_232_33 : j_at 232 33 = some (.ifCond .ne 6, 39, 0, 0) := by decide +kernel
theorem at_232_36 : j_at 232 36 = some (.bipush (-2), 0, 0, -2) := by decide +kernel
theorem at_232_38 : j_at 232 38 = some (.ireturn, 0, 0, 0) := by decide +kernel
theorem at_232_39 : j_at 232 39 = some (.aload_n 0, 0, 0, 0) := by decide +kernel
theorem at_232_40 : j_at 232 40 = some (.getfield 11, 12, 0, 0) := by decide +kernel
theorem at_232_43 : j_at 232 43 = some (.iconst 4, 0, 0, 4) := by decide +kernel
theorem at_232_44 : j_at 232 44 = some (.iaload, 0, 0, 0) := by decide +kernel
theorem at_232_45 : j_at 232 45 = some (.iconst 5, 0, 0, 5) := by decide +kernel
theorem at_232_46 : j_at 232 46 = some (.if_icmp .ne 6, 52, 0, 0) := by decide +kernel
theorem at_232_49 : j_at 232 49 = some (.bipush (-4), 0, 0, -4) := by decide +kernel
theorem at_232_51 : j_at 232 51 = some (.ireturn, 0, 0, 0) := by decide +kernel
theorem at_232_52 : j_at 232 52 = some (.aload_n 0, 0, 0, 0) := by decide +kernel
theorem at_232_53 : j_at 232 53 = some (.getfield 11, 12, 0, 0) := by decide +kernel
theorem at_232_56 : j_at 232 56 = some (.bipush 76, 0, 0, 76) := by decide +kernel
theorem at_232_58 : j_at 232 58 = some (.iconst 2, 0, 0, 2) := by decide +kernel
theorem at_232_59 : j_at 232 59 = some (.aload_n 0, 0, 0, 0) := by decide +kernel
theorem at_232_60 : j_at 232 60 = some (.getfield 11, 12, 0, 0) := by decide +kernel
theorem at_232_63 : j_at 232 63 = some (.iconst 4, 0, 0, 4) := by decide +kernel
theorem at_232_64 : j_at 232 64 = some (.iaload, 0, 0, 0) := by decide +kernel
theorem at_232_65 : j_at 232 65 = some (.imul, 0, 0, 0) := by decide +kernel
theorem at_232_66 : j_at 232 66 = some (.iadd, 0, 0, 0) := by decide +kernel
theorem at_232_67 : j_at 232 67 = some (.iload_n 1, 0, 0, 0) := by decide +kernel
theorem at_232_68 : j_at 232 68 = some (.iastore, 0, 0, 0) := by decide +kernel
theorem at_232_69 : j_at 232 69 = some (.aload_n 0, 0, 0, 0) := by decide +kernel
theorem at_232_70 : j_at 232 70 = some (.getfield 11, 12, 0, 0) := by decide +kernel
theorem at_232_73 : j_at 232 73 = some (.bipush 76, 0, 0, 76) := by decide +kernel
theorem at_232_75 : j_at 232 75 = some (.iconst 2, 0, 0, 2) := by decide +kernel
theorem at_232_76 : j_at 232 76 = some (.aload_n 0, 0, 0, 0) := by decide +kernel
theorem at_232_77 : j_at 232 77 = some (.getfield 11, 12, 0, 0) := by decide +kernel
theorem at_232_80 : j_at 232 80 = some (.iconst 4, 0, 0, 4) := by decide +kernel
theorem at_232_81 : j_at 232 81 = some (.iaload, 0, 0, 0) := by decide +kernel
theorem at_232_82 : j_at 232 82 = some (.imul, 0, 0, 0) := by decide +kernel
theorem at_232_83 : j_at 232 83 = some (.iadd, 0, 0, 0) := by decide +kernel
theorem at_232_84 : j_at 232 84 = some (.iconst 1, 0, 0, 1) := by decide +kernel
theorem at_232_85 : j_at 232 85 = some (.iadd, 0, 0, 0) := by decide +kernel
theorem at_232_86 : j_at 232 86 = some (.iload_n 2, 0, 0, 0) := by decide +kernel
theorem at_232_87 : j_at 232 87 = some (.iastore, 0, 0, 0) := by decide +kernel
theorem at_232_88 : j_at 232 88 = some (.aload_n 0, 0, 0, 0) := by decide +kernel
theorem at_232_89 : j_at 232 89 = some (.getfield 11, 12, 0, 0) := by decide +kernel
theorem at_232_92 : j_at 232 92 = some (.iconst 4, 0, 0, 4) := by decide +kernel
theorem at_232_93 : j_at 232 93 = some (.dup2, 0, 0, 0) := by decide +kernel
theorem at_232_94 : j_at 232 94 = some (.iaload, 0, 0, 0) := by decide +kernel
theorem at_232_95 : j_at 232 95 = some (.iconst 1, 0, 0, 1) := by decide +kernel
theorem at_232_96 : j_at 232 96 = some (.iadd, 0, 0, 0) := by decide +kernel
theorem at_232_97 : j_at 232 97 = some (.iastore, 0, 0, 0) := by decide +kernel
theorem at_232_98 : j_at 232 98 = some (.aload_n 0, 0, 0, 0) := by decide +kernel
theorem at_232_99 : j_at 232 99 = some (.getfield 11, 12, 0, 0) := by decide +kernel
theorem at_232_102 : j_at 232 102 = some (.iconst 4, 0, 0, 4) := by decide +kernel
theorem at_232_103 : j_at 232 103 = some (.iaload, 0, 0, 0) := by decide +kernel
theorem at_232_104 : j_at 232 104 = some (.ireturn, 0, 0, 0) := by decide +kernel
theorem at_233_0 : j_at 233 0 = some (.iconst 0, 0, 0, 0) := by decide +kernel
theorem at_233_1 : j_at 233 1 = some (.istore_n 1, 0, 0, 0) := by decide +kernel
theorem at_233_2 : j_at 233 2 = some (.iload_n 1, 0, 0, 0) := by decide +kernel
theorem at_233_3 : j_at 233 3 = some (.aload_n 0, 0, 0, 0) := by decide +kernel
theorem at_233_4 : j_at 233 4 = some (.getfield 11, 12, 0, 0) := by decide +kernel
theorem at_233_7 : j_at 233 7 = some (.iconst 4, 0, 0, 4) := by decide +kernel
theorem at_233_8 : j_at 233 8 = some (.iaload, 0, 0, 0) := by decide +kernel
theorem at_233_9 : j_at 233 9 = some (.if_icmp .ge 56, 65, 0, 0) := by decide +kernel
theorem at_233_12 : j_at 233 12 = some (.aload_n 0, 0, 0, 0) := by decide +kernel
theorem at_233_13 : j_at 233 13 = some (.aload_n 0, 0, 0, 0) := by decide +kernel
theorem at_233_14 : j_at 233 14 = some (.getfield 34, 12, 10, 0) := by decide +kernel
theorem at_233_17 : j_at 233 17 = some (.aload_n 0, 0, 0, 0) := by decide +kernel
theorem at_233_18 : j_at 233 18 = some (.getfield 11, 12, 0, 0) := by decide +kernel
theorem at_233_21 : j_at 233 21 = some (.bipush 76, 0, 0, 76) := by decide +kernel
theorem at_233_23 : j_at 233 23 = some (.iconst 2, 0, 0, 2) := by decide +kernel
theorem at_233_24 : j_at 233 24 = some (.iload_n 1, 0, 0, 0) := by decide +kernel
theorem at_233_25 : j_at 233 25 = some (.imul, 0, 0, 0) := by decide +kernel
theorem at_233_26 : j_at 233 26 = some (.iadd, 0, 0, 0) := by decide +kernel
theorem at_233_27 : j_at 233 27 = some (.iaload, 0, 0, 0) := by decide +kernel
theorem at_233_28 : j_at 233 28 = some (.invokevirtual 314, 197, 2, 0) := by decide +kernel
theorem at_233_31 : j_at 233 31 = some (.aload_n 0, 0, 0, 0) := by decide +kernel
theorem at_233_32 : j_at 233 32 = some (.getfield 11, 12, 0, 0) := by decide +kernel
theorem at_233_35 : j_at 233 35 = some (.bipush 76, 0, 0, 76) := by decide +kernel
theorem at_233_37 : j_at 233 37 = some (.iconst 2, 0, 0, 2) := by decide +kernel
theorem at_233_38 : j_at 233 38 = some (.iload_n 1, 0, 0, 0) := by decide +kernel
theorem at_233_39 : j_at 233 39 = some (.imul, 0, 0, 0) := by decide +kernel
theorem at_233_40 : j_at 233 40 = some (.iadd, 0, 0, 0) := by decide +kernel
theorem at_233_41 : j_at 233 41 = some (.iconst 1, 0, 0, 1) := by decide +kernel
theorem at_233_42 : j_at 233 42 = some (.iadd, 0, 0, 0) := by decide +kernel
theorem at_233_43 : j_at 233 43 = some (.iaload, 0, 0, 0) := by decide +kernel
theorem at_233_44 : j_at 233 44 = some (.i2l, 0, 0, 0) := by decide +kernel
theorem at_233_45 : j_at 233 45 = some (.aload_n 0, 0, 0, 0) := by decide +kernel
theorem at_233_46 : j_at 233 46 = some (.getfield 34, 12, 10, 0) := by decide +kernel
theorem at_233_49 : j_at 233 49 = some (.getfield 197, 11, 13, 0) := by decide +kernel
theorem at_233_52 : j_at 233 52 = some (.lmul, 0, 0, 0) := by decide +kernel
theorem at_233_53 : j_at 233 53 = some (.lcmp, 0, 0, 0) := by decide +kernel
theorem at_233_54 : j_at 233 54 = some (.ifCond .eq 5, 59, 0, 0) := by decide +kernel
theorem at_233_57 : j_at 233 57 = some (.iconst 0, 0, 0, 0) := by decide +kernel
theorem at_233_58 : j_at 233 58 = some (.ireturn, 0, 0, 0) := by decide +kernel
theorem at_233_59 : j_at 233 59 = some (.iinc 1 1, 0, 0, 0) := by decide +kernel
theorem at_233_62 : j_at 233 62 = some (.goto (-60), 2, 0, 0) := by decide +kernel
theorem at_233_65 : j_at 233 65 = some (.iconst 1, 0, 0, 1) := by decide +kernel
theorem at_233_66 : j_at 233 66 = some (.ireturn, 0, 0, 0) := by decide +kernel
theorem at_234_0 : j_at 234 0 = some (.aload_n 0, 0, 0, 0) := by decide +kernel
theorem at_234_1 : j_at 234 1 = some (.iload_n 1, 0, 0, 0) := by decide +kernel
theorem at_234_2 : j_at 234 2 = some (.invokevirtual 124, 153, 1, 0) := by decide +kernel
theorem at_234_5 : j_at 234 5 = some (.ifCond .eq 13, 18, 0, 0) := by decide +kernel
theorem at_234_8 : j_at 234 8 = some (.iload_n 2, 0, 0, 0) := by decide +kernel
theorem at_234_9 : j_at 234 9 = some (.i2l, 0, 0, 0) := by decide +kernel
theorem at_234_10 : j_at 234 10 = some (.lconst 0, 0, 0, 0) := by decide +kernel
theorem at_234_11 : j_at 234 11 = some (.lconst 1, 0, 0, 1) := by decide +kernel
theorem at_234_12 : j_at 234 12 = some (.invokestatic 93, 150, 3, 0) := by decide +kernel
theorem at_234_15 : j_at 234 15 = some (.ifCond .ne 5, 20, 0, 0) := by decide +kernel
theorem at_234_18 : j_at 234 18 = some (.iconst (-1), 0, 0, -1) := by decide +kernel
theorem at_234_19 : j_at 234 19 = some (.ireturn, 0, 0, 0) := by decide +kernel
theorem at_234_20 : j_at 234 20 = some (.iconst 0, 0, 0, 0) := by decide +kernel
theorem at_234_21 : j_at 234 21 = some (.istore_n 3, 0, 0, 0) := by decide +kernel
theorem at_234_22 : j_at 234 22 = some (.bipush (-5), 0, 0, -5) := by decide +kernel
theorem at_234_24 : j_at 234 24 = some (.istore 4, 0, 0, 0) := by decide +kernel
theorem at_234_26 : j_at 234 26 = some (.bipush 45, 0, 0, 45) := by decide +kernel
theorem at_234_28 : j_at 234 28 = some (.istore 5, 0, 0, 0) := by decide +kernel
theorem at_234_30 : j_at 234 30 = some (.iload 5, 0, 0, 0) := by decide +kernel
theorem at_234_32 : j_at 234 32 = some (.ifCond .lt 36, 68, 0, 0) := by decide +kernel
theorem at_234_35 : j_at 234 35 = some (.aload_n 0, 0, 0, 0) := by decide +kernel
theorem at_234_36 : j_at 234 36 = some (.iload_n 1, 0, 0, 0) := by decide +kernel
theorem at_234_37 : j_at 234 37 = some (.iload 5, 0, 0, 0) := by decide +kernel
theorem at_234_39 : j_at 234 39 = some (.invokevirtual 403, 230, 2, 0) := by decide +kernel
theorem at_234_42 : j_at 234 42 = some (.ifCond .lt 20, 62, 0, 0) := by decide +kernel
theorem at_234_45 : j_at 234 45 = some (.aload_n 0, 0, 0, 0) := by decide +kernel
theorem at_234_46 : j_at 234 46 = some (.invokevirtual 406, 233, 0, 0) := by decide +kernel
theorem at_234_49 : j_at 234 49 = some (.ifCond .ne 6, 55, 0, 0) := by decide +kernel
theorem at_234_52 : j_at 234 52 = some (.goto 10, 62, 0, 0) := by decide +kernel
theorem at_234_55 : j_at 234 55 = some (.iinc 3 1, 0, 0, 0) := by decide +kernel
theorem at_234_58 : j_at 234 58 = some (.iload 5, 0, 0, 0) := by decide +kernel
theorem at_234_60 : j_at 234 60 = some (.istore 4, 0, 0, 0) := by decide +kernel
theorem at_234_62 : j_at 234 62 = some (.iinc 5 (-5), 0, 0, 0) := by decide +kernel
theorem at_234_65 : j_at 234 65 = some (.goto (-35), 30, 0, 0) := by decide +kernel
theorem at_234_68 : j_at 234 68 = some (.iload_n 2, 0, 0, 0) := by decide +kernel
theorem at_234_69 : j_at 234 69 = some (.ifCond .ne 7, 76, 0, 0) := by decide +kernel
theorem at_234_72 : j_at 234 72 = some (.iload_n 3, 0, 0, 0) := by decide +kernel
theorem at_234_73 : j_at 234 73 = some (.goto 5, 78, 0, 0) := by decide +kernel
theorem at_234_76 : j_at 234 76 = some (.iload 4, 0, 0, 0) := by decide +kernel
theorem at_234_78 : j_at 234 78 = some (.ireturn, 0, 0, 0) := by decide +kernel
theorem at_235_0 : j_at 235 0 = some (.aload_n 0, 0, 0, 0) := by decide +kernel
theorem at_235_1 : j_at 235 1 = some (.iload_n 1, 0, 0, 0) := by decide +kernel
theorem at_235_2 : j_at 235 2 = some (.invokevirtual 124, 153, 1, 0) := by decide +kernel
theorem at_235_5 : j_at 235 5 = some (.ifCond .eq 51, 56, 0, 0) := by decide +kernel
theorem at_235_8 : j_at 235 8 = some (.iload_n 2, 0, 0, 0) := by decide +kernel
theorem at_235_9 : j_at 235 9 = some (.i2l, 0, 0, 0) := by decide +kernel
theorem at_235_10 : j_at 235 10 = some (.ldc2_w 116, 0, 0, -99) := by decide +kernel
theorem at_235_13 : j_at 235 13 = some (.ldc2_w 118, 0, 0, 999) := by decide +kernel
theorem at_235_16 : j_at 235 16 = some (.invokestatic 93, 150, 3, 0) := by decide +kernel
theorem at_235_19 : j_at 235 19 = some (.ifCond .eq 37, 56, 0, 0) := by decide +kernel
theorem at_235_22 : j_at 235 22 = some (.iload_n 3, 0, 0, 0) := by decide +kernel
theorem at_235_23 : j_at 235 23 = some (.i2l, 0, 0, 0) := by decide +kernel
theorem at_235_24 : j_at 235 24 = some (.lconst 1, 0, 0, 1) := by decide +kernel
theorem at_235_25 : j_at 235 25 = some (.ldc2_w 409, 0, 0, 8) := by decide +kernel
theorem at_235_28 : j_at 235 28 = some (.invokestatic 93, 150, 3, 0) := by decide +kernel
theorem at_235_31 : j_at 235 31 = some (.ifCond .eq 25, 56, 0, 0) := by decide +kernel
theorem at_235_34 : j_at 235 34 = some (.iload_n 2, 0, 0, 0) := by decide +kernel
theorem at_235_35 : j_at 235 35 = some (.iload_n 3, 0, 0, 0) := by decide +kernel
theorem at_235_36 : j_at 235 36 = some (.iadd, 0, 0, 0) := by decide +kernel
theorem at_235_37 : j_at 235 37 = some (.sipush 1000, 0, 0, 1000) := by decide +kernel
theorem at_235_40 : j_at 235 40 = some (.if_icmp .gt 16, 56, 0, 0) := by decide +kernel
theorem at_235_43 : j_at 235 43 = some (.iload 4, 0, 0, 0) := by decide +kernel
theorem at_235_45 : j_at 235 45 = some (.ifCond .lt 11, 56, 0, 0) := by decide +kernel
theorem at_235_48 : j_at 235 48 = some (.iload 5, 0, 0, 0) := by decide +kernel
theorem at_235_50 : j_at 235 50 = some (.invokestatic 311, 196, 1, 0) := by decide +kernel
theorem at_235_53 : j_at 235 53 = some (.ifCond .ne 7, 60, 0, 0) := by decide +kernel
theorem at_235_56 : j_at 235 56 = some (.ldc2_w 306, 0, 0, -9223372036854775808) := by decide +kernel
theorem at_235_59 : j_at 235 59 = some (.lreturn, 0, 0, 0) := by decide +kernel
theorem at_235_60 : j_at 235 60 = some (.iconst 0, 0, 0, 0) := by decide +kernel
theorem at_235_61 : j_at 235 61 = some (.istore 6, 0, 0, 0) := by decide +kernel
theorem at_235_63 : j_at 235 63 = some (.iconst 0, 0, 0, 0) := by decide +kernel
theorem at_235_64 : j_at 235 64 = some (.istore 7, 0, 0, 0) := by decide +kernel
theorem at_235_66 : j_at 235 66 = some (.iload 7, 0, 0, 0) := by decide +kernel
theorem at_235_68 : j_at 235 68 = some (.iload_n 3, 0, 0, 0) := by decide +kernel
theorem at_235_69 : j_at 235 69 = some (.if_icmp .ge 39, 108, 0, 0) := by decide +kernel
theorem at_235_72 : j_at 235 72 = some (.iload 6, 0, 0, 0) := by decide +kernel
theorem at_235_74 : j_at 235 74 = some (.aload_n 0, 0, 0, 0) := by decide +kernel
theorem at_235_75 : j_at 235 75 = some (.iload_n 1, 0, 0, 0) := by decide +kernel
theorem at_235_76 : j_at 235 76 = some (.iload_n 2, 0, 0, 0) := by decide +kernel
theorem at_235_77 : j_at 235 77 = some (.iload 7, 0, 0, 0) := by decide +kernel
theorem at_235_79 : j_at 235 79 = some (.iadd, 0, 0, 0) := by decide +kernel
theorem at_235_80 : j_at 235 80 = some (.invokevirtual 403, 230, 2, 0) := by decide +kernel
theorem at_235_83 : j_at 235 83 = some (.i2l, 0, 0, 0) := by decide +kernel
theorem at_235_84 : j_at 235 84 = some (.lconst 0, 0, 0, 0) := by decide +kernel
theorem at_235_85 : j_at 235 85 = some (.iload 4, 0, 0, 0) := by decide +kernel
theorem at_235_87 : j_at 235 87 = some (.i2l, 0, 0, 0) := by decide +kernel
theorem at_235_88 : j_at 235 88 = some (.invokestatic 93, 150, 3, 0) := by decide +kernel
theorem at_235_91 : j_at 235 91 = some (.ifCond .eq 7, 98, 0, 0) := by decide +kernel
theorem at_235_94 : j_at 235 94 = some (.iconst 1, 0, 0, 1) := by decide +kernel
theorem at_235_95 : j_at 235 95 = some (.goto 4, 99, 0, 0) := by decide +kernel
theorem at_235_98 : j_at 235 98 = some (.iconst 0, 0, 0, 0) := by decide +kernel
theorem at_235_99 : j_at 235 99 = some (.iadd, 0, 0, 0) := by decide +kernel
theorem at_235_100 : j_at 235 100 = some (.istore 6, 0, 0, 0) := by decide +kernel
theorem at_235_102 : j_at 235 102 = some (.iinc 7 1, 0, 0, 0) := by decide +kernel
theorem at_235_105 : j_at 235 105 = some (.goto (-39), 66, 0, 0) := by decide +kernel
theorem at_235_108 : j_at 235 108 = some (.iload 6, 0, 0, 0) := by decide +kernel
theorem at_235_110 : j_at 235 110 = some (.i2l, 0, 0, 0) := by decide +kernel
theorem at_235_111 : j_at 235 111 = some (.iload_n 3, 0, 0, 0) := by decide +kernel
theorem at_235_112 : j_at 235 112 = some (.i2l, 0, 0, 0) := by decide +kernel
theorem at_235_113 : j_at 235 113 = some (.iload 5, 0, 0, 0) := by decide +kernel
theorem at_235_115 : j_at 235 115 = some (.invokestatic 317, 195, 3, 0) := by decide +kernel
theorem at_235_118 : j_at 235 118 = some (.lreturn, 0, 0, 0) := by decide +kernel
theorem at_236_0 : j_at 236 0 = some (.iload_n 1, 0, 0, 0) := by decide +kernel
theorem at_236_1 : j_at 236 1 = some (.invokestatic 311, 196, 1, 0) := by decide +kernel
theorem at_236_4 : j_at 236 4 = some (.ifCond .ne 7, 11, 0, 0) := by decide +kernel
theorem at_236_7 : j_at 236 7 = some (.ldc2_w 306, 0, 0, -9223372036854775808) := by decide +kernel
theorem at_236_10 : j_at 236 10 = some (.lreturn, 0, 0, 0) := by decide +kernel
theorem at_236_11 : j_at 236 11 = some (.iconst 0, 0, 0, 0) := by decide +kernel
theorem at_236_12 : j_at 236 12 = some (.istore_n 2, 0, 0, 0) := by decide +kernel
theorem at_236_13 : j_at 236 13 = some (.iconst 0, 0, 0, 0) := by decide +kernel
theorem at_236_14 : j_at 236 14 = some (.istore_n 3, 0, 0, 0) := by decide +kernel
theorem at_236_15 : j_at 236 15 = some (.iload_n 3, 0, 0, 0) := by decide +kernel
theorem at_236_16 : j_at 236 16 = some (.aload_n 0, 0, 0, 0) := by decide +kernel
theorem at_236_17 : j_at 236 17 = some (.invokevirtual 89, 151, 0, 0) := by decide +kernel
theorem at_236_20 : j_at 236 20 = some (.if_icmp .ge 21, 41, 0, 0) := by decide +kernel
theorem at_236_23 : j_at 236 23 = some (.iload_n 2, 0, 0, 0) := by decide +kernel
theorem at_236_24 : j_at 236 24 = some (.aload_n 0, 0, 0, 0) := by decide +kernel
theorem at_236_25 : j_at 236 25 = some (.getfield 11, 12, 0, 0) := by decide +kernel
theorem at_236_28 : j_at 236 28 = some (.bipush 7, 0, 0, 7) := by decide +kernel
theorem at_236_30 : j_at 236 30 = some (.iload_n 3, 0, 0, 0) := by decide +kernel
theorem at_236_31 : j_at 236 31 = some (.iadd, 0, 0, 0) := by decide +kernel
theorem at_236_32 : j_at 236 32 = some (.iaload, 0, 0, 0) := by decide +kernel
theorem at_236_33 : j_at 236 33 = some (.iadd, 0, 0, 0) := by decide +kernel
theorem at_236_34 : j_at 236 34 = some (.istore_n 2, 0, 0, 0) := by decide +kernel
theorem at_236_35 : j_at 236 35 = some (.iinc 3 1, 0, 0, 0) := by decide +kernel
theorem at_236_38 : j_at 236 38 = some (.goto (-23), 15, 0, 0) := by decide +kernel
theorem at_236_41 : j_at 236 41 = some (.iload_n 2, 0, 0, 0) := by decide +kernel
theorem at_236_42 : j_at 236 42 = some (.i2l, 0, 0, 0) := by decide +kernel
theorem at_236_43 : j_at 236 43 = some (.aload_n 0, 0, 0, 0) := by decide +kernel
theorem at_236_44 : j_at 236 44 = some (.invokevirtual 89, 151, 0, 0) := by decide +kernel
theorem at_236_47 : j_at 236 47 = some (.i2l, 0, 0, 0) := by decide +kernel
theorem at_236_48 : j_at 236 48 = some (.iload_n 1, 0, 0, 0) := by decide +kernel
theorem at_236_49 : j_at 236 49 = some (.invokestatic 317, 195, 3, 0) := by decide +kernel
theorem at_236_52 : j_at 236 52 = some (.lreturn, 0, 0, 0) := by decide +kernel
theorem at_237_0 : j_at 237 0 = some (.iconst 0, 0, 0, 0) := by decide +kernel
theorem at_237_1 : j_at 237 1 = some (.istore_n 1, 0, 0, 0) := by decide +kernel
theorem at_237_2 : j_at 237 2 = some (.iload_n 1, 0, 0, 0) := by decide +kernel
theorem at_237_3 : j_at 237 3 = some (.sipush 150, 0, 0, 150) := by decide +kernel
theorem at_237_6 : j_at 237 6 = some (.if_icmp .ge 21, 27, 0, 0) := by decide +kernel
theorem at_237_9 : j_at 237 9 = some (.aload_n 0, 0, 0, 0) := by decide +kernel
theorem at_237_10 : j_at 237 10 = some (.getfield 18, 12, 2, 0) := by decide +kernel
theorem at_237_13 : j_at 237 13 = some (.iload_n 1, 0, 0, 0) := by decide +kernel
theorem at_237_14 : j_at 237 14 = some (.aload_n 0, 0, 0, 0) := by decide +kernel
theorem at_237_15 : j_at 237 15 = some (.getfield 11, 12, 0, 0) := by decide +kernel
theorem at_237_18 : j_at 237 18 = some (.iload_n 1, 0, 0, 0) := by decide +kernel
theorem at_237_19 : j_at 237 19 = some (.iaload, 0, 0, 0) := by decide +kernel
theorem at_237_20 : j_at 237 20 = some (.iastore, 0, 0, 0) := by decide +kernel
theorem at_237_21 : j_at 237 21 = some (.iinc 1 1, 0, 0, 0) := by decide +kernel
theorem at_237_24 : j_at 237 24 = some (.goto (-22), 2, 0, 0) := by decide +kernel
theorem at_237_27 : j_at 237 27 = some (.return_, 0, 0, 0) := by decide +kernel
theorem at_238_0 : j_at 238 0 = some (.iconst 0, 0, 0, 0) := by decide +kernel
theorem at_238_1 : j_at 238 1 = some (.istore_n 1, 0, 0, 0) := by decide +kernel
theorem at_238_2 : j_at 238 2 = some (.iload_n 1, 0, 0, 0) := by decide +kernel
theorem at_238_3 : j_at 238 3 = some (.sipush 150, 0, 0, 150) := by decide +kernel
theorem at_238_6 : j_at 238 6 = some (.if_icmp .ge 21, 27, 0, 0) := by decide +kernel
theorem at_238_9 : j_at 238 9 = some (.aload_n 0, 0, 0, 0) := by decide +kernel
theorem at_238_10 : j_at 238 10 = some (.getfield 11, 12, 0, 0) := by decide +kernel
theorem at_238_13 : j_at 238 13 = some (.iload_n 1, 0, 0, 0) := by decide +kernel
theorem at_238_14 : j_at 238 14 = some (.aload_n 0, 0, 0, 0) := by decide +kernel
theorem at_238_15 : j_at 238 15 = some (.getfield 18, 12, 2, 0) := by decide +kernel
theorem at_238_18 : j_at 238 18 = some (.iload_n 1, 0, 0, 0) := by decide +kernel
theorem at_238_19 : j_at 238 19 = some (.iaload, 0, 0, 0) := by decide +kernel
theorem at_238_20 : j_at 238 20 = some (.iastore, 0, 0, 0) := by decide +kernel
theorem at_238_21 : j_at 238 21 = some (.iinc 1 1, 0, 0, 0) := by decide +kernel
theorem at_238_24 : j_at 238 24 = some (.goto (-22), 2, 0, 0) := by decide +kernel
theorem at_238_27 : j_at 238 27 = some (.return_, 0, 0, 0) := by decide +kernel
theorem at_239_0 : j_at 239 0 = some (.aload_n 0, 0, 0, 0) := by decide +kernel
theorem at_239_1 : j_at 239 1 = some (.aload_n 0, 0, 0, 0) := by decide +kernel
theorem at_239_2 : j_at 239 2 = some (.getfield 411, 12, 24, 0) := by decide +kernel
theorem at_239_5 : j_at 239 5 = some (.ldc_w 414, 0, 0, 1103515245) := by decide +kernel
theorem at_239_8 : j_at 239 8 = some (.imul, 0, 0, 0) := by decide +kernel
theorem at_239_9 : j_at 239 9 = some (.sipush 12345, 0, 0, 12345) := by decide +kernel
theorem at_239_12 : j_at 239 12 = some (.iadd, 0, 0, 0) := by decide +kernel
theorem at_239_13 : j_at 239 13 = some (.putfield 411, 12, 24, 0) := by decide +kernel
theorem at_239_16 : j_at 239 16 = some (.aload_n 0, 0, 0, 0) := by decide +kernel
theorem at_239_17 : j_at 239 17 = some (.getfield 411, 12, 24, 0) := by decide +kernel
theorem at_239_20 : j_at 239 20 = some (.bipush 9, 0, 0, 9) := by decide +kernel
theorem at_239_22 : j_at 239 22 = some (.iushr, 0, 0, 0) := by decide +kernel
theorem at_239_23 : j_at 239 23 = some (.iload_n 1, 0, 0, 0) := by decide +kernel
theorem at_239_24 : j_at 239 24 = some (.irem, 0, 0, 0) := by decide +kernel
theorem at_239_25 : j_at 239 25 = some (.ireturn, 0, 0, 0) := by decide +kernel
theorem at_240_0 : j_at 240 0 = some (.iload_n 2, 0, 0, 0) := by decide +kernel
theorem at_240_1 : j_at 240 1 = some (.i2l, 0, 0, 0) := by decide +kernel
theorem at_240_2 : j_at 240 2 = some (.lconst 1, 0, 0, 1) := by decide +kernel
theorem at_240_3 : j_at 240 3 = some (.ldc2_w 415, 0, 0, 4) := by decide +kernel
theorem at_240_6 : j_at 240 6 = some (.invokestatic 93, 150, 3, 0) := by decide +kernel
theorem at_240_9 : j_at 240 9 = some (.ifCond .ne 6, 15, 0, 0) := by decide +kernel
theorem at_240_12 : j_at 240 12 = some (.bipush (-2), 0, 0, -2) := by decide +kernel
theorem at_240_14 : j_at 240 14 = some (.ireturn, 0, 0, 0) := by decide +kernel
theorem at_240_15 : j_at 240 15 = some (.aload_n 0, 0, 0, 0) := by decide +kernel
theorem at_240_16 : j_at 240 16 = some (.invokevirtual 417, 237, 0, 0) := by decide +kernel
theorem at_240_19 : j_at 240 19 = some (.aload_n 0, 0, 0, 0) := by decide +kernel
theorem at_240_20 : j_at 240 20 = some (.iload_n 1, 0, 0, 0) := by decide +kernel
theorem at_240_21 : j_at 240 21 = some (.putfield 411, 12, 24, 0) := by decide +kernel
theorem at_240_24 : j_at 240 24 = some (.aload_n 0, 0, 0, 0) := by decide +kernel
theorem at_240_25 : j_at 240 25 = some (.getfield 11, 12, 0, 0) := by decide +kernel
theorem at_240_28 : j_at 240 28 = some (.iconst 1, 0, 0, 1) := by decide +kernel
theorem at_240_29 : j_at 240 29 = some (.iload_n 2, 0, 0, 0) := by decide +kernel
theorem at_240_30 : j_at 240 30 = some (.iastore, 0, 0, 0) := by decide +kernel
theorem at_240_31 : j_at 240 31 = some (.iconst 0, 0, 0, 0) := by decide +kernel
theorem at_240_32 : j_at 240 32 = some (.istore_n 3, 0, 0, 0) := by decide +kernel
theorem at_240_33 : j_at 240 33 = some (.iload_n 3, 0, 0, 0) := by decide +kernel
theorem at_240_34 : j_at 240 34 = some (.iload_n 2, 0, 0, 0) := by decide +kernel
theorem at_240_35 : j_at 240 35 = some (.if_icmp .ge 83, 118, 0, 0) := by decide +kernel
theorem at_240_38 : j_at 240 38 = some (.aload_n 0, 0, 0, 0) := by decide +kernel
theorem at_240_39 : j_at 240 39 = some (.getfield 11, 12, 0, 0) := by decide +kernel
theorem at_240_42 : j_at 240 42 = some (.bipush 12, 0, 0, 12) := by decide +kernel
theorem at_240_44 : j_at 240 44 = some (.bipush 7, 0, 0, 7) := by decide +kernel
theorem at_240_46 : j_at 240 46 = some (.iload_n 3, 0, 0, 0) := by decide +kernel
theorem at_240_47 : j_at 240 47 = some (.imul, 0, 0, 0) := by decide +kernel
theorem at_240_48 : j_at 240 48 = some (.iadd, 0, 0, 0) := by decide +kernel
theorem at_240_49 : j_at 240 49 = some (.iconst 0, 0, 0, 0) := by decide +kernel
theorem at_240_50 : j_at 240 50 = some (.iastore, 0, 0, 0) := by decide +kernel
theorem at_240_51 : j_at 240 51 = some (.iconst 0, 0, 0, 0) := by decide +kernel
theorem at_240_52 : j_at 240 52 = some (.istore 4, 0, 0, 0) := by decide +kernel
theorem at_240_54 : j_at 240 54 = some (.iload 4, 0, 0, 0) := by decide +kernel
theorem at_240_56 : j_at 240 56 = some (.aload_n 0, 0, 0, 0) := by decide +kernel
theorem at_240_57 : j_at 240 57 = some (.invokevirtual 89, 151, 0, 0) := by decide +kernel
theorem at_240_60 : j_at 240 60 = some (.if_icmp .ge 32, 92, 0, 0) := by decide +kernel
theorem at_240_63 : j_at 240 63 = some (.aload_n 0, 0, 0, 0) := by decide +kernel
theorem at_240_64 : j_at 240 64 = some (.getfield 11, 12, 0, 0) := by decide +kernel
theorem at_240_67 : j_at 240 67 = some (.bipush 12, 0, 0, 12) := by decide +kernel
theorem at_240_69 : j_at 240 69 = some (.bipush 7, 0, 0, 7) := by decide +kernel
theorem at_240_71 : j_at 240 71 = some (.iload_n 3, 0, 0, 0) := by decide +kernel
theorem at_240_72 : j_at 240 72 = some (.imul, 0, 0, 0) := by decide +kernel
theorem at_240_73 : j_at 240 73 = some (.iadd, 0, 0, 0) := by decide +kernel
theorem at_240_74 : j_at 240 74 = some (.iconst 2, 0, 0, 2) := by decide +kernel
theorem at_240_75 : j_at 240 75 = some (.iadd, 0, 0, 0) := by decide +kernel
theorem at_240_76 : j_at 240 76 = some (.iload 4, 0, 0, 0) := by decide +kernel
theorem at_240_78 : j_at 240 78 = some (.iadd, 0, 0, 0) := by decide +kernel
theorem at_240_79 : j_at 240 79 = some (.aload_n 0, 0, 0, 0) := by decide +kernel
theorem at_240_80 : j_at 240 80 = some (.bipush 10, 0, 0, 10) := by decide +kernel
theorem at_240_82 : j_at 240 82 = some (.invokevirtual 420, 239, 1, 0) := by decide +kernel
theorem at_240_85 : j_at 240 85 = some (.iastore, 0, 0, 0) := by decide +kernel
theorem at_240_86 : j_at 240 86 = some (.iinc 4 1, 0, 0, 0) := by decide +kernel
theorem at_240_89 : j_at 240 89 = some (.goto (-35), 54, 0, 0) := by decide +kernel
theorem at_240_92 : j_at 240 92 = some (.aload_n 0, 0, 0, 0) := by decide +kernel
theorem at_240_93 : j_at 240 93 = some (.getfield 11, 12, 0, 0) := by decide +kernel
theorem at_240_96 : j_at 240 96 = some (.bipush 12, 0, 0, 12) := by decide +kernel
theorem at_240_98 : j_at 240 98 = some (.bipush 7, 0, 0, 7) := by decide +kernel
theorem at_240_100 : j_at 240 100 = some (.iload_n 3, 0, 0, 0) := by decide +kernel
theorem at_240_101 : j_at 240 101 = some (.imul, 0, 0, 0) := by decide +kernel
theorem at_240_102 : j_at 240 102 = some (.iadd, 0, 0, 0) := by decide +kernel
theorem at_240_103 : j_at 240 103 = some (.iconst 1, 0, 0, 1) := by decide +kernel
theorem at_240_104 : j_at 240 104 = some (.iadd, 0, 0, 0) := by decide +kernel
theorem at_240_105 : j_at 240 105 = some (.aload_n 0, 0, 0, 0) := by decide +kernel
theorem at_240_106 : j_at 240 106 = some (.bipush 60, 0, 0, 60) := by decide +kernel
theorem at_240_108 : j_at 240 108 = some (.invokevirtual 420, 239, 1, 0) := by decide +kernel
theorem at_240_111 : j_at 240 111 = some (.iastore, 0, 0, 0) := by decide +kernel
theorem at_240_112 : j_at 240 112 = some (.iinc 3 1, 0, 0, 0) := by decide +kernel
theorem at_240_115 : j_at 240 115 = some (.goto (-82), 33, 0, 0) := by decide +kernel
theorem at_240_118 : j_at 240 118 = some (.aload_n 0, 0, 0, 0) := by decide +kernel
theorem at_240_119 : j_at 240 119 = some (.invokevirtual 400, 192, 0, 0) := by decide +kernel
theorem at_240_122 : j_at 240 122 = some (.istore_n 3, 0, 0, 0) := by decide +kernel
theorem at_240_123 : j_at 240 123 = some (.aload_n 0, 0, 0, 0) := by decide +kernel
theorem at_240_124 : j_at 240 124 = some (.invokevirtual 423, 238, 0, 0) := by decide +kernel
theorem at_240_127 : j_at 240 127 = some (.iload_n 3, 0, 0, 0) := by decide +kernel
theorem at_240_128 : j_at 240 128 = some (.ireturn, 0, 0, 0) := by decide +kernel
theorem at_241_0 : j_at 241 0 = some (.iconst 0, 0, 0, 0) := by decide +kernel
theorem at_241_1 : j_at 241 1 = some (.istore_n 2, 0, 0, 0) := by decide +kernel
theorem at_241_2 : j_at 241 2 = some (.iload_n 2, 0, 0, 0) := by decide +kernel
theorem at_241_3 : j_at 241 3 = some (.aload_n 0, 0, 0, 0) := by decide +kernel
theorem at_241_4 : j_at 241 4 = some (.getfield 11, 12, 0, 0) := by decide +kernel
theorem at_241_7 : j_at 241 7 = some (.bipush 6, 0, 0, 6) := by decide +kernel
theorem at_241_9 : j_at 241 9 = some (.iaload, 0, 0, 0) := by decide +kernel
theorem at_241_10 : j_at 241 10 = some (.if_icmp .ge 26, 36, 0, 0) := by decide +kernel
theorem at_241_13 : j_at 241 13 = some (.aload_n 0, 0, 0, 0) := by decide +kernel
theorem at_241_14 : j_at 241 14 = some (.getfield 11, 12, 0, 0) := by decide +kernel
theorem at_241_17 : j_at 241 17 = some (.bipush 110, 0, 0, 110) := by decide +kernel
theorem at_241_19 : j_at 241 19 = some (.iconst 2, 0, 0, 2) := by decide +kernel
theorem at_241_20 : j_at 241 20 = some (.iload_n 2, 0, 0, 0) := by decide +kernel
theorem at_241_21 : j_at 241 21 = some (.imul, 0, 0, 0) := by decide +kernel
theorem at_241_22 : j_at 241 22 = some (.iadd, 0, 0, 0) := by decide +kernel
theorem at_241_23 : j_at 241 23 = some (.iaload, 0, 0, 0) := by decide +kernel
theorem at_241_24 : j_at 241 24 = some (.iload_n 1, 0, 0, 0) := by decide +kernel
theorem at_241_25 : j_at 241 25 = some (.if_icmp .ne 5, 30, 0, 0) := by decide +kernel
theorem at_241_28 : j_at 241 28 = some (.iload_n 2, 0, 0, 0) := by decide +kernel
theorem at_241_29 : j_at 241 29 = some (.ireturn, 0, 0, 0) := by decide +kernel
theorem at_241_30 : j_at 241 30 = some (.iinc 2 1, 0, 0, 0) := by decide +kernel
theorem at_241_33 : j_at 241 33 = some (.goto (-31), 2, 0, 0) := by decide +kernel
theorem at_241_36 : j_at 241 36 = some (.iconst (-1), 0, 0, -1) := by decide +kernel
theorem at_241_37 : j_at 241 37 = some (.ireturn, 0, 0, 0) := by decide +kernel
theorem at_242_0 : j_at 242 0 = some (.aload_n 0, 0, 0, 0) := by decide +kernel
theorem at_242_1 : j_at 242 1 = some (.iload_n 1, 0, 0, 0) := by decide +kernel
theorem at_242_2 : j_at 242 2 = some (.invokevirtual 365, 211, 1, 0) := by decide +kernel
theorem at_242_5 : j_at 242 5 = some (.ifCond .eq 15, 20, 0, 0) := by decide +kernel
theorem at_242_8 : j_at 242 8 = some (.iload_n 2, 0, 0, 0) := by decide +kernel
theorem at_242_9 : j_at 242 9 = some (.i2l, 0, 0, 0) := by decide +kernel
theorem at_242_10 : j_at 242 10 = some (.lconst 0, 0, 0, 0) := by decide +kernel
theorem at_242_11 : j_at 242 11 = some (.ldc2_w 118, 0, 0, 999) := by decide +kernel
theorem at_242_14 : j_at 242 14 = some (.invokestatic 93, 150, 3, 0) := by decide +kernel
theorem at_242_17 : j_at 242 17 = some (.ifCond .ne 6, 23, 0, 0) := by decide +kernel
theorem at_242_20 : j_at 242 20 = some (.bipush (-2), 0, 0, -2) := by decide +kernel
theorem at_242_22 : j_at 242 22 = some (.ireturn, 0, 0, 0) := by decide +kernel
theorem at_242_23 : j_at 242 23 = some (.aload_n 0, 0, 0, 0) := by decide +kernel
theorem at_242_24 : j_at 242 24 = some (.iload_n 1, 0, 0, 0) := by decide +kernel
theorem at_242_25 : j_at 242 25 = some (.invokevirtual 426, 241, 1, 0) := by decide +kernel
theorem at_242_28 : j_at 242 28 = some (.istore_n 3, 0, 0, 0) := by decide +kernel
theorem at_242_29 : j_at 242 29 = some (.iload_n 3, 0, 0, 0) := by decide +kernel
theorem at_242_30 : j_at 242 30 = some (.ifCond .ge 18, 48, 0, 0) := by decide +kernel
theorem at_242_33 : j_at 242 33 = some (.aload_n 0, 0, 0, 0) := by decide +kernel
theorem at_242_34 : j_at 242 34 = some (.getfield 11, 12, 0, 0) := by decide +kernel
theorem at_242_37 : j_at 242 37 = some (.bipush 6, 0, 0, 6) := by decide +kernel
theorem at_242_39 : j_at 242 39 = some (.iaload, 0, 0, 0) := by decide +kernel
theorem at_242_40 : j_at 242 40 = some (.bipush 20, 0, 0, 20) := by decide +kernel
theorem at_242_42 : j_at 242 42 = some (.if_icmp .ne 6, 48, 0, 0) := by decide +kernel
theorem at_242_45 : j_at 242 45 = some (.bipush (-4), 0, 0, -4) := by decide +kernel
theorem at_242_47 : j_at 242 47 = some (.ireturn, 0, 0, 0) := by decide +kernel
theorem at_242_48 : j_at 242 48 = some (.iload_n 3, 0, 0, 0) := by decide +kernel
theorem at_242_49 : j_at 242 49 = some (.ifCond .ge 8, 57, 0, 0) := by decide +kernel
theorem at_242_52 : j_at 242 52 = some (.bipush (-5), 0, 0, -5) := by decide +kernel
theorem at_242_54 : j_at 242 54 = some (.goto 16, 70, 0, 0) := by decide +kernel
theorem at_242_57 : j_at 242 57 = some (.aload_n 0, 0, 0, 0) := by decide +kernel
theorem at_242_58 : j_at 242 58 = some (.getfield 11, 12, 0, 0) := by decide +kernel
theorem at_242_61 : j_at 242 61 = some (.bipush 110, 0, 0, 110) := by decide +kernel
theorem at_242_63 : j_at 242 63 = some (.iconst 2, 0, 0, 2) := by decide +kernel
theorem at_242_64 : j_at 242 64 = some (.iload_n 3, 0, 0, 0) := by decide +kernel
theorem at_242_65 : j_at 242 65 = some (.imul, 0, 0, 0) := by decide +kernel
theorem at_242_66 : j_at 242 66 = some (.iadd, 0, 0, 0) := by decide +kernel
theorem at_242_67 : j_at 242 67 = some (.iconst 1, 0, 0, 1) := by decide +kernel
theorem at_242_68 : j_at 242 68 = some (.iadd, 0, 0, 0) := by decide +kernel
theorem at_242_69 : j_at 242 69 = some (.iaload, 0, 0, 0) := by decide +kernel
theorem at_242_70 : j_at 242 70 = some (.istore 4, 0, 0, 0) := by decide +kernel
theorem at_242_72 : j_at 242 72 = some (.iload_n 3, 0, 0, 0) := by decide +kernel
theorem at_242_73 : j_at 242 73 = some (.ifCond .ge 22, 95, 0, 0) := by decide +kernel
theorem at_242_76 : j_at 242 76 = some (.aload_n 0, 0, 0, 0) := by decide +kernel
theorem at_242_77 : j_at 242 77 = some (.getfield 11, 12, 0, 0) := by decide +kernel
theorem at_242_80 : j_at 242 80 = some (.bipush 6, 0, 0, 6) := by decide +kernel
theorem at_242_82 : j_at 242 82 = some (.iaload, 0, 0, 0) := by decide +kernel
theorem at_242_83 : j_at 242 83 = some (.istore_n 3, 0, 0, 0) := by decide +kernel
theorem at_242_84 : j_at 242 84 = some (.aload_n 0, 0, 0, 0) := by decide +kernel
theorem at_242_85 : j_at 242 85 = some (.getfield 11, 12, 0, 0) := by decide +kernel
theorem at_242_88 : j_at 242 88 = some (.bipush 6, 0, 0, 6) := by decide +kernel
theorem at_242_90 : j_at 242 90 = some (.dup2, 0, 0, 0) := by decide +kernel
theorem at_242_91 : j_at 242 91 = some (.iaload, 0, 0, 0) := by decide +kernel
theorem at_242_92 : j_at 242 92 = some (.iconst 1, 0, 0, 1) := by decide +kernel
theorem at_242_93 : j_at 242 93 = some (.iadd, 0, 0, 0) := by decide +kernel
theorem at_242_94 : j_at 242 94 = some (.iastore, 0, 0, 0) := by decide +kernel
theorem at_242_95 : j_at 242 95 = some (.aload_n 0, 0, 0, 0) := by decide +kernel
theorem at_242_96 : j_at 242 96 = some (.getfield 11, 12, 0, 0) := by decide +kernel
theorem at_242_99 : j_at 242 99 = some (.bipush 110, 0, 0, 110) := by decide +kernel
theorem at_242_101 : j_at 242 101 = some (.iconst 2, 0, 0, 2) := by decide +kernel
theorem at_242_102 : j_at 242 102 = some (.iload_n 3, 0, 0, 0) := by decide +kernel
theorem at_242_103 : j_at 242 103 = some (.imul, 0, 0, 0) := by decide +kernel
theorem at_242_104 : j_at 242 104 = some (.iadd, 0, 0, 0) := by decide +kernel
theorem at_242_105 : j_at 242 105 = some (.iload_n 1, 0, 0, 0) := by decide +kernel
theorem at_242_106 : j_at 242 106 = some (.iastore, 0, 0, 0) := by decide +kernel
theorem at_242_107 : j_at 242 107 = some (.aload_n 0, 0, 0, 0) := by decide +kernel
theorem at_242_108 : j_at 242 108 = some (.getfield 11, 12, 0, 0) := by decide +kernel
theorem at_242_111 : j_at 242 111 = some (.bipush 110, 0, 0, 110) := by decide +kernel
theorem at_242_113 : j_at 242 113 = some (.iconst 2, 0, 0, 2) := by decide +kernel
theorem at_242_114 : j_at 242 114 = some (.iload_n 3, 0, 0, 0) := by decide +kernel
theorem at_242_115 : j_at 242 115 = some (.imul, 0, 0, 0) := by decide +kernel
theorem at_242_116 : j_at 242 116 = some (.iadd, 0, 0, 0) := by decide +kernel
theorem at_242_117 : j_at 242 117 = some (.iconst 1, 0, 0, 1) := by decide +kernel
theorem at_242_118 : j_at 242 118 = some (.iadd, 0, 0, 0) := by decide +kernel
theorem at_242_119 : j_at 242 119 = some (.iload_n 2, 0, 0, 0) := by decide +kernel
theorem at_242_120 : j_at 242 120 = some (.iastore, 0, 0, 0) := by decide +kernel
theorem at_242_121 : j_at 242 121 = some (.iload 4, 0, 0, 0) := by decide +kernel
theorem at_242_123 : j_at 242 123 = some (.ireturn, 0, 0, 0) := by decide +kernel
theorem at_243_0 : j_at 243 0 = some (.aload_n 0, 0, 0, 0) := by decide +kernel
theorem at_243_1 : j_at 243 1 = some (.aload_n 0, 0, 0, 0) := by decide +kernel
theorem at_243_2 : j_at 243 2 = some (.getfield 11, 12, 0, 0) := by decide +kernel
theorem at_243_5 : j_at 243 5 = some (.bipush 110, 0, 0, 110) := by decide +kernel
theorem at_243_7 : j_at 243 7 = some (.iconst 2, 0, 0, 2) := by decide +kernel
theorem at_243_8 : j_at 243 8 = some (.iload_n 1, 0, 0, 0) := by decide +kernel
theorem at_243_9 : j_at 243 9 = some (.imul, 0, 0, 0) := by decide +kernel
theorem at_243_10 : j_at 243 10 = some (.iadd, 0, 0, 0) := by decide +kernel
theorem at_243_11 : j_at 243 11 = some (.iaload, 0, 0, 0) := by decide +kernel
theorem at_243_12 : j_at 243 12 = some (.invokevirtual 353, 213, 1, 0) := by decide +kernel
theorem at_243_15 : j_at 243 15 = some (.aload_n 0, 0, 0, 0) := by decide +kernel
theorem at_243_16 : j_at 243 16 = some (.aload_n 0, 0, 0, 0) := by decide +kernel
theorem at_243_17 : j_at 243 17 = some (.getfield 11, 12, 0, 0) := by decide +kernel
theorem at_243_20 : j_at 243 20 = some (.bipush 110, 0, 0, 110) := by decide +kernel
theorem at_243_22 : j_at 243 22 = some (.iconst 2, 0, 0, 2) := by decide +kernel
theorem at_243_23 : j_at 243 23 = some (.iload_n 2, 0, 0, 0) := by decide +kernel
theorem at_243_24 : j_at 243 24 = some (.imul, 0, 0, 0) := by decide +kernel
theorem at_243_25 : j_at 243 25 = some (.iadd, 0, 0, 0) := by decide +kernel
theorem at_243_26 : j_at 243 26 = some (.iaload, 0, 0, 0) := by decide +kernel
theorem at_243_27 : j_at 243 27 = some (.invokevirtual 353, 213, 1, 0) := by decide +kernel
theorem at_243_30 : j_at 243 30 = some (.isub, 0, 0, 0) := by decide +kernel
theorem at_243_31 : j_at 243 31 = some (.istore_n 3, 0, 0, 0) := by decide +kernel
theorem at_243_32 : j_at 243 32 = some (.iload_n 3, 0, 0, 0) := by decide +kernel
theorem at_243_33 : j_at 243 33 = some (.ifCond .lt 32, 65, 0, 0) := by decide +kernel
theorem at_243_36 : j_at 243 36 = some (.iload_n 3, 0, 0, 0) := by decide +kernel
theorem at_243_37 : j_at 243 37 = some (.ifCond .ne 32, 69, 0, 0) := by decide +kernel
theorem at_243_40 : j_at 243 40 = some (.aload_n 0, 0, 0, 0) := by decide +kernel
theorem at_243_41 : j_at 243 41 = some (.getfield 11, 12, 0, 0) := by decide +kernel
theorem at_243_44 : j_at 243 44 = some (.bipush 110, 0, 0, 110) := by decide +kernel
theorem at_243_46 : j_at 243 46 = some (.iconst 2, 0, 0, 2) := by decide +kernel
theorem at_243_47 : j_at 243 47 = some (.iload_n 1, 0, 0, 0) := by decide +kernel
theorem at_243_48 : j_at 243 48 = some (.imul, 0, 0, 0) := by decide +kernel
theorem at_243_49 : j_at 243 49 = some (.iadd, 0, 0, 0) := by decide +kernel
theorem at_243_50 : j_at 243 50 = some (.iaload, 0, 0, 0) := by decide +kernel
theorem at_243_51 : j_at 243 51 = some (.aload_n 0, 0, 0, 0) := by decide +kernel
theorem at_243_52 : j_at 243 52 = some (.getfield 11, 12, 0, 0) := by decide +kernel
theorem at_243_55 : j_at 243 55 = some (.bipush 110, 0, 0, 110) := by decide +kernel
theorem at_243_57 : j_at 243 57 = some (.iconst 2, 0, 0, 2) := by decide +kernel
theorem at_243_58 : j_at 243 58 = some (.iload_n 2, 0, 0, 0) := by decide +kernel
theorem at_243_59 : j_at 243 59 = some (.imul, 0, 0, 0) := by decide +kernel
theorem at_243_60 : j_at 243 60 = some (.iadd, 0, 0, 0) := by decide +kernel
theorem at_243_61 : j_at 243 61 = some (.iaload, 0, 0, 0) := by decide +kernel
theorem at_243_62 : j_at 243 62 = some (.if_icmp .ge 7, 69, 0, 0) := by decide +kernel
theorem at_243_65 : j_at 243 65 = some (.iconst 1, 0, 0, 1) := by decide +kernel
theorem at_243_66 : j_at 243 66 = some (.goto 4, 70, 0, 0) := by decide +kernel
theorem at_243_69 : j_at 243 69 = some (.iconst 0, 0, 0, 0) := by decide +kernel
theorem at_243_70 : j_at 243 70 = some (.ireturn, 0, 0, 0) := by decide +kernel
theorem at_244_0 : j_at 244 0 = some (.iconst 0, 0, 0, 0) := by decide +kernel
theorem at_244_1 : j_at 244 1 = some (.istore_n 2, 0, 0, 0) := by decide +kernel
theorem at_244_2 : j_at 244 2 = some (.iconst 0, 0, 0, 0) := by decide +kernel
theorem at_244_3 : j_at 244 3 = some (.istore_n 3, 0, 0, 0) := by decide +kernel
theorem at_244_4 : j_at 244 4 = some (.iload_n 3, 0, 0, 0) := by decide +kernel
theorem at_244_5 : j_at 244 5 = some (.aload_n 0, 0, 0, 0) := by decide +kernel
theorem at_244_6 : j_at 244 6 = some (.getfield 11, 12, 0, 0) := by decide +kernel
theorem at_244_9 : j_at 244 9 = some (.bipush 6, 0, 0, 6) := by decide +kernel
theorem at_244_11 : j_at 244 11 = some (.iaload, 0, 0, 0) := by decide +kernel
theorem at_244_12 : j_at 244 12 = some (.if_icmp .ge 26, 38, 0, 0) := by decide +kernel
theorem at_244_15 : j_at 244 15 = some (.iload_n 2, 0, 0, 0) := by decide +kernel
theorem at_244_16 : j_at 244 16 = some (.aload_n 0, 0, 0, 0) := by decide +kernel
theorem at_244_17 : j_at 244 17 = some (.iload_n 3, 0, 0, 0) := by decide +kernel
theorem at_244_18 : j_at 244 18 = some (.iload_n 1, 0, 0, 0) := by decide +kernel
theorem at_244_19 : j_at 244 19 = some (.invokevirtual 429, 243, 2, 0) := by decide +kernel
theorem at_244_22 : j_at 244 22 = some (.ifCond .eq 7, 29, 0, 0) := by decide +kernel
theorem at_244_25 : j_at 244 25 = some (.iconst 1, 0, 0, 1) := by decide +kernel
theorem at_244_26 : j_at 244 26 = some (.goto 4, 30, 0, 0) := by decide +kernel
theorem at_244_29 : j_at 244 29 = some (.iconst 0, 0, 0, 0) := by decide +kernel
theorem at_244_30 : j_at 244 30 = some (.iadd, 0, 0, 0) := by decide +kernel
theorem at_244_31 : j_at 244 31 = some (.istore_n 2, 0, 0, 0) := by decide +kernel
theorem at_244_32 : j_at 244 32 = some (.iinc 3 1, 0, 0, 0) := by decide +kernel
theorem at_244_35 : j_at 244 35 = some (.goto (-31), 4, 0, 0) := by decide +kernel
theorem at_244_38 : j_at 244 38 = some (.iload_n 2, 0, 0, 0) := by decide +kernel
theorem at_244_39 : j_at 244 39 = some (.ireturn, 0, 0, 0) := by decide +kernel
theorem at_245_0 : j_at 245 0 = some (.iload_n 2, 0, 0, 0) := by decide +kernel
theorem at_245_1 : j_at 245 1 = some (.i2l, 0, 0, 0) := by decide +kernel
theorem at_245_2 : j_at 245 2 = some (.lconst 0, 0, 0, 0) := by decide +kernel
theorem at_245_3 : j_at 245 3 = some (.ldc2_w 432, 0, 0, 2) := by decide +kernel
theorem at_245_6 : j_at 245 6 = some (.invokestatic 93, 150, 3, 0) := by decide +kernel
theorem at_245_9 : j_at 245 9 = some (.ifCond .ne 5, 14, 0, 0) := by decide +kernel
theorem at_245_12 : j_at 245 12 = some (.iconst (-1), 0, 0, -1) := by decide +kernel
theorem at_245_13 : j_at 245 13 = some (.ireturn, 0, 0, 0) := by decide +kernel
theorem at_245_14 : j_at 245 14 = some (.iconst 0, 0, 0, 0) := by decide +kernel
theorem at_245_15 : j_at 245 15 = some (.istore_n 3, 0, 0, 0) := by decide +kernel
theorem at_245_16 : j_at 245 16 = some (.iload_n 3, 0, 0, 0) := by decide +kernel
theorem at_245_17 : j_at 245 17 = some (.aload_n 0, 0, 0, 0) := by decide +kernel
theorem at_245_18 : j_at 245 18 = some (.getfield 11, 12, 0, 0) := by decide +kernel
theorem at_245_21 : j_at 245 21 = some (.bipush 6, 0, 0, 6) := by decide +kernel
theorem at_245_23 : j_at 245 23 = some (.iaload, 0, 0, 0) := by decide +kernel
theorem at_245_24 : j_at 245 24 = some (.if_icmp .ge 55, 79, 0, 0) := by decide +kernel
theorem at_245_27 : j_at 245 27 = some (.aload_n 0, 0, 0, 0) := by decide +kernel
theorem at_245_28 : j_at 245 28 = some (.iload_n 3, 0, 0, 0) := by decide +kernel
theorem at_245_29 : j_at 245 29 = some (.invokevirtual 434, 244, 1, 0) := by decide +kernel
theorem at_245_32 : j_at 245 32 = some (.iload_n 1, 0, 0, 0) := by decide +kernel
theorem at_245_33 : j_at 245 33 = some (.if_icmp .ne 40, 73, 0, 0) := by decide +kernel
theorem at_245_36 : j_at 245 36 = some (.iload_n 2, 0, 0, 0) := by decide +kernel
theorem at_245_37 : j_at 245 37 = some (.iconst 2, 0, 0, 2) := by decide +kernel
theorem at_245_38 : j_at 245 38 = some (.if_icmp .ne 21, 59, 0, 0) := by decide +kernel
theorem at_245_41 : j_at 245 41 = some (.aload_n 0, 0, 0, 0) := by decide +kernel
theorem at_245_42 : j_at 245 42 = some (.aload_n 0, 0, 0, 0) := by decide +kernel
theorem at_245_43 : j_at 245 43 = some (.getfield 11, 12, 0, 0) := by decide +kernel
theorem at_245_46 : j_at 245 46 = some (.bipush 110, 0, 0, 110) := by decide +kernel
theorem at_245_48 : j_at 245 48 = some (.iconst 2, 0, 0, 2) := by decide +kernel
theorem at_245_49 : j_at 245 49 = some (.iload_n 3, 0, 0, 0) := by decide +kernel
theorem at_245_50 : j_at 245 50 = some (.imul, 0, 0, 0) := by decide +kernel
theorem at_245_51 : j_at 245 51 = some (.iadd, 0, 0, 0) := by decide +kernel
theorem at_245_52 : j_at 245 52 = some (.iaload, 0, 0, 0) := by decide +kernel
theorem at_245_53 : j_at 245 53 = some (.invokevirtual 353, 213, 1, 0) := by decide +kernel
theorem at_245_56 : j_at 245 56 = some (.goto 16, 72, 0, 0) := by decide +kernel
theorem at_245_59 : j_at 245 59 = some (.aload_n 0, 0, 0, 0) := by decide +kernel
theorem at_245_60 : j_at 245 60 = some (.getfield 11, 12, 0, 0) := by decide +kernel
theorem at_245_63 : j_at 245 63 = some (.bipush 110, 0, 0, 110) := by decide +kernel
theorem at_245_65 : j_at 245 65 = some (.iconst 2, 0, 0, 2) := by decide +kernel
theorem at_245_66 : j_at 245 66 = some (.iload_n 3, 0, 0, 0) := by decide +kernel
theorem at_245_67 : j_at 245 67 = some (.imul, 0, 0, 0) := by decide +kernel
theorem at_245_68 : j_at 245 68 = some (.iadd, 0, 0, 0) := by decide +kernel
theorem at_245_69 : j_at 245 69 = some (.iload_n 2, 0, 0, 0) := by decide +kernel
theorem at_245_70 : j_at 245 70 = some (.iadd, 0, 0, 0) := by decide +kernel
theorem at_245_71 : j_at 245 71 = some (.iaload, 0, 0, 0) := by decide +kernel
theorem at_245_72 : j_at 245 72 = some (.ireturn, 0, 0, 0) := by decide +kernel
theorem at_245_73 : j_at 245 73 = some (.iinc 3 1, 0, 0, 0) := by decide +kernel
theorem at_245_76 : j_at 245 76 = some (.goto (-60), 16, 0, 0) := by decide +kernel
theorem at_245_79 : j_at 245 79 = some (.bipush (-2), 0, 0, -2) := by decide +kernel
theorem at_245_81 : j_at 245 81 = some (.ireturn, 0, 0, 0) := by decide +kernel
theorem at_246_0 : j_at 246 0 = some (.iconst (-1), 0, 0, -1) := by decide +kernel
theorem at_246_1 : j_at 246 1 = some (.istore_n 2, 0, 0, 0) := by decide +kernel
theorem at_246_2 : j_at 246 2 = some (.iconst 0, 0, 0, 0) := by decide +kernel
theorem at_246_3 : j_at 246 3 = some (.istore_n 3, 0, 0, 0) := by decide +kernel
theorem at_246_4 : j_at 246 4 = some (.iload_n 3, 0, 0, 0) := by decide +kernel
theorem at_246_5 : j_at 246 5 = some (.aload_n 0, 0, 0, 0) := by decide +kernel
theorem at_246_6 : j_at 246 6 = some (.getfield 11, 12, 0, 0) := by decide +kernel
theorem at_246_9 : j_at 246 9 = some (.bipush 6, 0, 0, 6) := by decide +kernel
theorem at_246_11 : j_at 246 11 = some (.iaload, 0, 0, 0) := by decide +kernel
theorem at_246_12 : j_at 246 12 = some (.if_icmp .ge 43, 55, 0, 0) := by decide +kernel
theorem at_246_15 : j_at 246 15 = some (.aload_n 0, 0, 0, 0) := by decide +kernel
theorem at_246_16 : j_at 246 16 = some (.aload_n 0, 0, 0, 0) := by decide +kernel
theorem at_246_17 : j_at 246 17 = some (.getfield 11, 12, 0, 0) := by decide +kernel
theorem at_246_20 : j_at 246 20 = some (.bipush 110, 0, 0, 110) := by decide +kernel
theorem at_246_22 : j_at 246 22 = some (.iconst 2, 0, 0, 2) := by decide +kernel
theorem at_246_23 : j_at 246 23 = some (.iload_n 3, 0, 0, 0) := by decide +kernel
theorem at_246_24 : j_at 246 24 = some (.imul, 0, 0, 0) := by decide +kernel
theorem at_246_25 : j_at 246 25 = some (.iadd, 0, 0, 0) := by decide +kernel
theorem at_246_26 : j_at 246 26 = some (.iaload, 0, 0, 0) := by decide +kernel
theorem at_246_27 : j_at 246 27 = some (.invokevirtual 353, 213, 1, 0) := by decide +kernel
theorem at_246_30 : j_at 246 30 = some (.iload_n 1, 0, 0, 0) := by decide +kernel
theorem at_246_31 : j_at 246 31 = some (.if_icmp .gt 18, 49, 0, 0) := by decide +kernel
theorem at_246_34 : j_at 246 34 = some (.iload_n 2, 0, 0, 0) := by decide +kernel
theorem at_246_35 : j_at 246 35 = some (.ifCond .lt 12, 47, 0, 0) := by decide +kernel
theorem at_246_38 : j_at 246 38 = some (.aload_n 0, 0, 0, 0) := by decide +kernel
theorem at_246_39 : j_at 246 39 = some (.iload_n 2, 0, 0, 0) := by decide +kernel
theorem at_246_40 : j_at 246 40 = some (.iload_n 3, 0, 0, 0) := by decide +kernel
theorem at_246_41 : j_at 246 41 = some (.invokevirtual 429, 243, 2, 0) := by decide +kernel
theorem at_246_44 : j_at 246 44 = some (.ifCond .eq 5, 49, 0, 0) := by decide +kernel
theorem at_246_47 : j_at 246 47 = some (.iload_n 3, 0, 0, 0) := by decide +kernel
theorem at_246_48 : j_at 246 48 = some (.istore_n 2, 0, 0, 0) := by decide +kernel
theorem at_246_49 : j_at 246 49 = some (.iinc 3 1, 0, 0, 0) := by decide +kernel
theorem at_246_52 : j_at 246 52 = some (.goto (-48), 4, 0, 0) := by decide +kernel
theorem at_246_55 : j_at 246 55 = some (.iload_n 2, 0, 0, 0) := by decide +kernel
theorem at_246_56 : j_at 246 56 = some (.ifCond .ge 8, 64, 0, 0) := by decide +kernel
theorem at_246_59 : j_at 246 59 = some (.bipush (-5), 0, 0, -5) := by decide +kernel
theorem at_246_61 : j_at 246 61 = some (.goto 14, 75, 0, 0) := by decide +kernel
theorem at_246_64 : j_at 246 64 = some (.aload_n 0, 0, 0, 0) := by decide +kernel
theorem at_246_65 : j_at 246 65 = some (.getfield 11, 12, 0, 0) := by decide +kernel
theorem at_246_68 : j_at 246 68 = some (.bipush 110, 0, 0, 110) := by decide +kernel
theorem at_246_70 : j_at 246 70 = some (.iconst 2, 0, 0, 2) := by decide +kernel
theorem at_246_71 : j_at 246 71 = some (.iload_n 2, 0, 0, 0) := by decide +kernel
theorem at_246_72 : j_at 246 72 = some (.imul, 0, 0, 0) := by decide +kernel
theorem at_246_73 : j_at 246 73 = some (.iadd, 0, 0, 0) := by decide +kernel
theorem at_246_74 : j_at 246 74 = some (.iaload, 0, 0, 0) := by decide +kernel
theorem at_246_75 : j_at 246 75 = some (.ireturn, 0, 0, 0) := by decide +kernel
theorem at_247_0 : j_at 247 0 = some (.aload_n 0, 0, 0, 0) := by decide +kernel
theorem at_247_1 : j_at 247 1 = some (.getfield 11, 12, 0, 0) := by decide +kernel
theorem at_247_4 : j_at 247 4 = some (.bipush 110, 0, 0, 110) := by decide +kernel
theorem at_247_6 : j_at 247 6 = some (.iconst 2, 0, 0, 2) := by decide +kernel
theorem at_247_7 : j_at 247 7 = some (.iload_n 1, 0, 0, 0) := by decide +kernel
theorem at_247_8 : j_at 247 8 = some (.imul, 0, 0, 0) := by decide +kernel
theorem at_247_9 : j_at 247 9 = some (.iadd, 0, 0, 0) := by decide +kernel
theorem at_247_10 : j_at 247 10 = some (.iconst 1, 0, 0, 1) := by decide +kernel
theorem at_247_11 : j_at 247 11 = some (.iadd, 0, 0, 0) := by decide +kernel
theorem at_247_12 : j_at 247 12 = some (.iaload, 0, 0, 0) := by decide +kernel
theorem at_247_13 : j_at 247 13 = some (.aload_n 0, 0, 0, 0) := by decide +kernel
theorem at_247_14 : j_at 247 14 = some (.aload_n 0, 0, 0, 0) := by decide +kernel
theorem at_247_15 : j_at 247 15 = some (.getfield 11, 12, 0, 0) := by decide +kernel
theorem at_247_18 : j_at 247 18 = some (.bipush 110, 0, 0, 110) := by decide +kernel
theorem at_247_20 : j_at 247 20 = some (.iconst 2, 0, 0, 2) := by decide +kernel
theorem at_247_21 : j_at 247 21 = some (.iload_n 1, 0, 0, 0) := by decide +kernel
theorem at_247_22 : j_at 247 22 = some (.imul, 0, 0, 0) := by decide +kernel
theorem at_247_23 : j_at 247 23 = some (.iadd, 0, 0, 0) := by decide +kernel
theorem at_247_24 : j_at 247 24 = some (.iaload, 0, 0, 0) := by decide +kernel
theorem at_247_25 : j_at 247 25 = some (.invokevirtual 353, 213, 1, 0) := by decide +kernel
theorem at_247_28 : j_at 247 28 = some (.isub, 0, 0, 0) := by decide +kernel
theorem at_247_29 : j_at 247 29 = some (.ireturn, 0, 0, 0) := by decide +kernel
theorem at_248_0 : j_at 248 0 = some (.iconst (-1), 0, 0, -1) := by decide +kernel
theorem at_248_1 : j_at 248 1 = some (.istore_n 1, 0, 0, 0) := by decide +kernel
theorem at_248_2 : j_at 248 2 = some (.iconst 0, 0, 0, 0) := by decide +kernel
theorem at_248_3 : j_at 248 3 = some (.istore_n 2, 0, 0, 0) := by decide +kernel
theorem at_248_4 : j_at 248 4 = some (.iload_n 2, 0, 0, 0) := by decide +kernel
theorem at_248_5 : j_at 248 5 = some (.aload_n 0, 0, 0, 0) := by decide +kernel
theorem at_248_6 : j_at 248 6 = some (.getfield 11, 12, 0, 0) := by decide +kernel
theorem at_248_9 : j_at 248 9 = some (.bipush 6, 0, 0, 6) := by decide +kernel
theorem at_248_11 : j_at 248 11 = some (.iaload, 0, 0, 0) := by decide +kernel
theorem at_248_12 : j_at 248 12 = some (.if_icmp .ge 50, 62, 0, 0) := by decide +kernel
theorem at_248_15 : j_at 248 15 = some (.iload_n 1, 0, 0, 0) := by decide +kernel
theorem at_248_16 : j_at 248 16 = some (.ifCond .lt 38, 54, 0, 0) := by decide +kernel
theorem at_248_19 : j_at 248 19 = some (.aload_n 0, 0, 0, 0) := by decide +kernel
theorem at_248_20 : j_at 248 20 = some (.iload_n 2, 0, 0, 0) := by decide +kernel
theorem at_248_21 : j_at 248 21 = some (.invokevirtual 437, 247, 1, 0) := by decide +kernel
theorem at_248_24 : j_at 248 24 = some (.aload_n 0, 0, 0, 0) := by decide +kernel
theorem at_248_25 : j_at 248 25 = some (.iload_n 1, 0, 0, 0) := by decide +kernel
theorem at_248_26 : j_at 248 26 = some (.invokevirtual 437, 247, 1, 0) := by decide +kernel
theorem at_248_29 : j_at 248 29 = some (.if_icmp .gt 25, 54, 0, 0) := by decide +kernel
theorem at_248_32 : j_at 248 32 = some (.aload_n 0, 0, 0, 0) := by decide +kernel
theorem at_248_33 : j_at 248 33 = some (.iload_n 2, 0, 0, 0) := by decide +kernel
theorem at_248_34 : j_at 248 34 = some (.invokevirtual 437, 247, 1, 0) := by decide +kernel
theorem at_248_37 : j_at 248 37 = some (.aload_n 0, 0, 0, 0) := by decide +kernel
theorem at_248_38 : j_at 248 38 = some (.iload_n 1, 0, 0, 0) := by decide +kernel
theorem at_248_39 : j_at 248 39 = some (.invokevirtual 437, 247, 1, 0) := by decide +kernel
theorem at_248_42 : j_at 248 42 = some (.if_icmp .ne 14, 56, 0, 0) := by decide +kernel
theorem at_248_45 : j_at 248 45 = some (.aload_n 0, 0, 0, 0) := by decide +kernel
theorem at_248_46 : j_at 248 46 = some (.iload_n 2, 0, 0, 0) := by decide +kernel
theorem at_248_47 : j_at 248 47 = some (.iload_n 1, 0, 0, 0) := by decide +kernel
theorem at_248_48 : j_at 248 48 = some (.invokevirtual 429, 243, 2, 0) := by decide +kernel
theorem at_248_51 : j_at 248 51 = some (.ifCond .eq 5, 56, 0, 0) := by decide +kernel
theorem at_248_54 : j_at 248 54 = some (.iload_n 2, 0, 0, 0) := by decide +kernel
theorem at_248_55 : j_at 248 55 = some (.istore_n 1, 0, 0, 0) := by decide +kernel
theorem at_248_56 : j_at 248 56 = some (.iinc 2 1, 0, 0, 0) := by decide +kernel
theorem at_248_59 : j_at 248 59 = some (.goto (-55), 4, 0, 0) := by decide +kernel
theorem at_248_62 : j_at 248 62 = some (.iload_n 1, 0, 0, 0) := by decide +kernel
theorem at_248_63 : j_at 248 63 = some (.ifCond .ge 8, 71, 0, 0) := by decide +kernel
theorem at_248_66 : j_at 248 66 = some (.bipush (-5), 0, 0, -5) := by decide +kernel
theorem at_248_68 : j_at 248 68 = some (.goto 14, 82, 0, 0) := by decide +kernel
theorem at_248_71 : j_at 248 71 = some (.aload_n 0, 0, 0, 0) := by decide +kernel
theorem at_248_72 : j_at 248 72 = some (.getfield 11, 12, 0, 0) := by decide +kernel
theorem at_248_75 : j_at 248 75 = some (.bipush 110, 0, 0, 110) := by decide +kernel
theorem at_248_77 : j_at 248 77 = some (.iconst 2, 0, 0, 2) := by decide +kernel
theorem at_248_78 : j_at 248 78 = some (.iload_n 1, 0, 0, 0) := by decide +kernel
theorem at_248_79 : j_at 248 79 = some (.imul, 0, 0, 0) := by decide +kernel
theorem at_248_80 : j_at 248 80 = some (.iadd, 0, 0, 0) := by decide +kernel
theorem at_248_81 : j_at 248 81 = some (.iaload, 0, 0, 0) := by decide +kernel
theorem at_248_82 : j_at 248 82 = some (.ireturn, 0, 0, 0) := by decide +kernel
theorem at_249_0 : j_at 249 0 = some (.iload_n 0, 0, 0, 0) := by decide +kernel
theorem at_249_1 : j_at 249 1 = some (.ifCond .ne 17, 18, 0, 0) := by decide +kernel
theorem at_249_4 : j_at 249 4 = some (.iload_n 1, 0, 0, 0) := by decide +kernel
theorem at_249_5 : j_at 249 5 = some (.i2l, 0, 0, 0) := by decide +kernel
theorem at_249_6 : j_at 249 6 = some (.ldc2_w 116, 0, 0, -99) := by decide +kernel
theorem at_249_9 : j_at 249 9 = some (.ldc2_w 118, 0, 0, 999) := by decide +kernel
theorem at_249_12 : j_at 249 12 = some (.invokestatic 93, 150, 3, 0) := by decide +kernel
theorem at_249_15 : j_at 249 15 = some (.goto 31, 46, 0, 0) := by decide +kernel
theorem at_249_18 : j_at 249 18 = some (.iload_n 0, 0, 0, 0) := by decide +kernel
theorem at_249_19 : j_at 249 19 = some (.iconst 1, 0, 0, 1) := by decide +kernel
theorem at_249_20 : j_at 249 20 = some (.if_icmp .ne 15, 35, 0, 0) := by decide +kernel
theorem at_249_23 : j_at 249 23 = some (.iload_n 1, 0, 0, 0) := by decide +kernel
theorem at_249_24 : j_at 249 24 = some (.i2l, 0, 0, 0) := by decide +kernel
theorem at_249_25 : j_at 249 25 = some (.lconst 0, 0, 0, 0) := by decide +kernel
theorem at_249_26 : j_at 249 26 = some (.ldc2_w 114, 0, 0, 99) := by decide +kernel
theorem at_249_29 : j_at 249 29 = some (.invokestatic 93, 150, 3, 0) := by decide +kernel
theorem at_249_32 : j_at 249 32 = some (.goto 14, 46, 0, 0) := by decide +kernel
theorem at_249_35 : j_at 249 35 = some (.iload_n 1, 0, 0, 0) := by decide +kernel
theorem at_249_36 : j_at 249 36 = some (.i2l, 0, 0, 0) := by decide +kernel
theorem at_249_37 : j_at 249 37 = some (.ldc2_w 127, 0, 0, -9) := by decide +kernel
theorem at_249_40 : j_at 249 40 = some (.ldc2_w 129, 0, 0, 9) := by decide +kernel
theorem at_249_43 : j_at 249 43 = some (.invokestatic 93, 150, 3, 0) := by decide +kernel
theorem at_249_46 : j_at 249 46 = some (.ireturn, 0, 0, 0) := by decide +kernel
theorem at_250_0 : j_at 250 0 = some (.iload_n 1, 0, 0, 0) := by decide +kernel
theorem at_250_1 : j_at 250 1 = some (.iconst (-1), 0, 0, -1) := by decide +kernel
theorem at_250_2 : j_at 250 2 = some (.if_icmp .ne 12, 14, 0, 0) := by decide +kernel
theorem at_250_5 : j_at 250 5 = some (.aload_n 0, 0, 0, 0) := by decide +kernel
theorem at_250_6 : j_at 250 6 = some (.getfield 11, 12, 0, 0) := by decide +kernel
theorem at_250_9 : j_at 250 9 = some (.iconst 5, 0, 0, 5) := by decide +kernel
theorem at_250_10 : j_at 250 10 = some (.iconst 0, 0, 0, 0) := by decide +kernel
theorem at_250_11 : j_at 250 11 = some (.iastore, 0, 0, 0) := by decide +kernel
theorem at_250_12 : j_at 250 12 = some (.iconst 0, 0, 0, 0) := by decide +kernel
theorem at_250_13 : j_at 250 13 = some (.ireturn, 0, 0, 0) := by decide +kernel
theorem at_250_14 : j_at 250 14 = some (.iload_n 1, 0, 0, 0) := by decide +kernel
theorem at_250_15 : j_at 250 15 = some (.i2l, 0, 0, 0) := by decide +kernel
theorem at_250_16 : j_at 250 16 = some (.lconst 0, 0, 0, 0) := by decide +kernel
theorem at_250_17 : j_at 250 17 = some (.ldc2_w 432, 0, 0, 2) := by decide +kernel
theorem at_250_20 : j_at 250 20 = some (.invokestatic 93, 150, 3, 0) := by decide +kernel
theorem at_250_23 : j_at 250 23 = some (.ifCond .eq 27, 50, 0, 0) := by decide +kernel
theorem at_250_26 : j_at 250 26 = some (.iload_n 1, 0, 0, 0) := by decide +kernel
theorem at_250_27 : j_at 250 27 = some (.iconst 1, 0, 0, 1) := by decide +kernel
theorem at_250_28 : j_at 250 28 = some (.if_icmp .ne 14, 42, 0, 0) := by decide +kernel
theorem at_250_31 : j_at 250 31 = some (.aload_n 0, 0, 0, 0) := by decide +kernel
theorem at_250_32 : j_at 250 32 = some (.iload_n 2, 0, 0, 0) := by decide +kernel
theorem at_250_33 : j_at 250 33 = some (.invokevirtual 110, 152, 1, 0) := by decide +kernel
theorem at_250_36 : j_at 250 36 = some (.ifCond .ne 16, 52, 0, 0) := by decide +kernel
theorem at_250_39 : j_at 250 39 = some (.goto 11, 50, 0, 0) := by decide +kernel
theorem at_250_42 : j_at 250 42 = some (.aload_n 0, 0, 0, 0) := by decide +kernel
theorem at_250_43 : j_at 250 43 = some (.iload_n 2, 0, 0, 0) := by decide +kernel
theorem at_250_44 : j_at 250 44 = some (.invokevirtual 124, 153, 1, 0) := by decide +kernel
theorem at_250_47 : j_at 250 47 = some (.ifCond .ne 5, 52, 0, 0) := by decide +kernel
theorem at_250_50 : j_at 250 50 = some (.iconst (-1), 0, 0, -1) := by decide +kernel
theorem at_250_51 : j_at 250 51 = some (.ireturn, 0, 0, 0) := by decide +kernel
theorem at_250_52 : j_at 250 52 = some (.iload_n 1, 0, 0, 0) := by decide +kernel
theorem at_250_53 : j_at 250 53 = some (.iload_n 3, 0, 0, 0) := by decide +kernel
theorem at_250_54 : j_at 250 54 = some (.invokestatic 440, 249, 2, 0) := by decide +kernel
theorem at_250_57 : j_at 250 57 = some (.ifCond .ne 6, 63, 0, 0) := by decide +kernel
theorem at_250_60 : j_at 250 60 = some (.bipush (-2), 0, 0, -2) := by decide +kernel
theorem at_250_62 : j_at 250 62 = some (.ireturn, 0, 0, 0) := by decide +kernel
theorem at_250_63 : j_at 250 63 = some (.aload_n 0, 0, 0, 0) := by decide +kernel
theorem at_250_64 : j_at 250 64 = some (.getfield 11, 12, 0, 0) := by decide +kernel
theorem at_250_67 : j_at 250 67 = some (.iconst 5, 0, 0, 5) := by decide +kernel
theorem at_250_68 : j_at 250 68 = some (.iaload, 0, 0, 0) := by decide +kernel
theorem at_250_69 : j_at 250 69 = some (.bipush 8, 0, 0, 8) := by decide +kernel
theorem at_250_71 : j_at 250 71 = some (.if_icmp .ne 6, 77, 0, 0) := by decide +kernel
theorem at_250_74 : j_at 250 74 = some (.bipush (-4), 0, 0, -4) := by decide +kernel
theorem at_250_76 : j_at 250 76 = some (.ireturn, 0, 0, 0) := by decide +kernel
theorem at_250_77 : j_at 250 77 = some (.bipush 86, 0, 0, 86) := by decide +kernel
theorem at_250_79 : j_at 250 79 = some (.iconst 3, 0, 0, 3) := by decide +kernel
theorem at_250_80 : j_at 250 80 = some (.aload_n 0, 0, 0, 0) := by decide +kernel
theorem at_250_81 : j_at 250 81 = some (.getfield 11, 12, 0, 0) := by decide +kernel
theorem at_250_84 : j_at 250 84 = some (.iconst 5, 0, 0, 5) := by decide +kernel
theorem at_250_85 : j_at 250 85 = some (.iaload, 0, 0, 0) := by decide +kernel
theorem at_250_86 : j_at 250 86 = some (.imul, 0, 0, 0) := by decide +kernel
theorem at_250_87 : j_at 250 87 = some (.iadd, 0, 0, 0) := by decide +kernel
theorem at_250_88 : j_at 250 88 = some (.istore 4, 0, 0, 0) := by decide +kernel
theorem at_250_90 : j_at 250 90 = some (.aload_n 0, 0, 0, 0) := by decide +kernel
theorem at_250_91 : j_at 250 91 = some (.getfield 11, 12, 0, 0) := by decide +kernel
theorem at_250_94 : j_at 250 94 = some (.iload 4, 0, 0, 0) := by decide +kernel
theorem at_250_96 : j_at 250 96 = some (.iload_n 1, 0, 0, 0) := by decide +kernel
theorem at_250_97 : j_at 250 97 = some (.iastore, 0, 0, 0) := by decide +kernel
theorem at_250_98 : j_at 250 98 = some (.aload_n 0, 0, 0, 0) := by decide +kernel
theorem at_250_99 : j_at 250 99 = some (.getfield 11, 12, 0, 0) := by decide +kernel
theorem at_250_102 : j_at 250 102 = some (.iload 4, 0, 0, 0) := by decide +kernel
theorem at_250_104 : j_at 250 104 = some (.iconst 1, 0, 0, 1) := by decide +kernel
theorem at_250_105 : j_at 250 105 = some (.iadd, 0, 0, 0) := by decide +kernel
theorem at_250_106 : j_at 250 106 = some (.iload_n 2, 0, 0, 0) := by decide +kernel
theorem at_250_107 : j_at 250 107 = some (.iastore, 0, 0, 0) := by decide +kernel
theorem at_250_108 : j_at 250 108 = some (.aload_n 0, 0, 0, 0) := by decide +kernel
theorem at_250_109 : j_at 250 109 = some (.getfield 11, 12, 0, 0) := by decide +kernel
theorem at_250_112 : j_at 250 112 = some (.iload 4, 0, 0, 0) := by decide +kernel
theorem at_250_114 : j_at 250 114 = some (.iconst 2, 0, 0, 2) := by decide +kernel
theorem at_250_115 : j_at 250 115 = some (.iadd, 0, 0, 0) := by decide +kernel
theorem at_250_116 : j_at 250 116 = some (.iload_n 3, 0, 0, 0) := by decide +kernel
theorem at_250_117 : j_at 250 117 = some (.iastore, 0, 0, 0) := by decide +kernel
theorem at_250_118 : j_at 250 118 = some (.aload_n 0, 0, 0, 0) := by decide +kernel
theorem at_250_119 : j_at 250 119 = some (.getfield 11, 12, 0, 0) := by decide +kernel
theorem at_250_122 : j_at 250 122 = some (.iconst 5, 0, 0, 5) := by decide +kernel
theorem at_250_123 : j_at 250 123 = some (.dup2, 0, 0, 0) := by decide +kernel
theorem at_250_124 : j_at 250 124 = some (.iaload, 0, 0, 0) := by decide +kernel
theorem at_250_125 : j_at 250 125 = some (.iconst 1, 0, 0, 1) := by decide +kernel
theorem at_250_126 : j_at 250 126 = some (.iadd, 0, 0, 0) := by decide +kernel
theorem at_250_127 : j_at 250 127 = some (.iastore, 0, 0, 0) := by decide +kernel
theorem at_250_128 : j_at 250 128 = some (.aload_n 0, 0, 0, 0) := by decide +kernel
theorem at_250_129 : j_at 250 129 = some (.getfield 11, 12, 0, 0) := by decide +kernel
theorem at_250_132 : j_at 250 132 = some (.iconst 5, 0, 0, 5) := by decide +kernel
theorem at_250_133 : j_at 250 133 = some (.iaload, 0, 0, 0) := by decide +kernel
theorem at_250_134 : j_at 250 134 = some (.ireturn, 0, 0, 0) := by decide +kernel
theorem at_251_0 : j_at 251 0 = some (.iload_n 1, 0, 0, 0) := by decide +kernel
theorem at_251_1 : j_at 251 1 = some (.iconst 1, 0, 0, 1) := by decide +kernel
theorem at_251_2 : j_at 251 2 = some (.if_icmp .ne 21, 23, 0, 0) := by decide +kernel
theorem at_251_5 : j_at 251 5 = some (.aload_n 0, 0, 0, 0) := by decide +kernel
theorem at_251_6 : j_at 251 6 = some (.iload_n 2, 0, 0, 0) := by decide +kernel
theorem at_251_7 : j_at 251 7 = some (.invokevirtual 110, 152, 1, 0) := by decide +kernel
theorem at_251_10 : j_at 251 10 = some (.ifCond .eq 13, 23, 0, 0) := by decide +kernel
theorem at_251_13 : j_at 251 13 = some (.aload_n 0, 0, 0, 0) := by decide +kernel
theorem at_251_14 : j_at 251 14 = some (.getfield 11, 12, 0, 0) := by decide +kernel
theorem at_251_17 : j_at 251 17 = some (.bipush 7, 0, 0, 7) := by decide +kernel
theorem at_251_19 : j_at 251 19 = some (.iload_n 2, 0, 0, 0) := by decide +kernel
theorem at_251_20 : j_at 251 20 = some (.iadd, 0, 0, 0) := by decide +kernel
theorem at_251_21 : j_at 251 21 = some (.iload_n 3, 0, 0, 0) := by decide +kernel
theorem at_251_22 : j_at 251 22 = some (.iastore, 0, 0, 0) := by decide +kernel
theorem at_251_23 : j_at 251 23 = some (.iload_n 1, 0, 0, 0) := by decide +kernel
theorem at_251_24 : j_at 251 24 = some (.iconst 1, 0, 0, 1) := by decide +kernel
theorem at_251_25 : j_at 251 25 = some (.if_icmp .eq 34, 59, 0, 0) := by decide +kernel
theorem at_251_28 : j_at 251 28 = some (.aload_n 0, 0, 0, 0) := by decide +kernel
theorem at_251_29 : j_at 251 29 = some (.iload_n 2, 0, 0, 0) := by decide +kernel
theorem at_251_30 : j_at 251 30 = some (.invokevirtual 124, 153, 1, 0) := by decide +kernel
theorem at_251_33 : j_at 251 33 = some (.ifCond .eq 26, 59, 0, 0) := by decide +kernel
theorem at_251_36 : j_at 251 36 = some (.aload_n 0, 0, 0, 0) := by decide +kernel
theorem at_251_37 : j_at 251 37 = some (.getfield 11, 12, 0, 0) := by decide +kernel
theorem at_251_40 : j_at 251 40 = some (.bipush 12, 0, 0, 12) := by decide +kernel
theorem at_251_42 : j_at 251 42 = some (.bipush 7, 0, 0, 7) := by decide +kernel
theorem at_251_44 : j_at 251 44 = some (.iload_n 2, 0, 0, 0) := by decide +kernel
theorem at_251_45 : j_at 251 45 = some (.imul, 0, 0, 0) := by decide +kernel
theorem at_251_46 : j_at 251 46 = some (.iadd, 0, 0, 0) := by decide +kernel
theorem at_251_47 : j_at 251 47 = some (.iload_n 1, 0, 0, 0) := by decide +kernel
theorem at_251_48 : j_at 251 48 = some (.ifCond .ne 7, 55, 0, 0) := by decide +kernel
theorem at_251_51 : j_at 251 51 = some (.iconst 1, 0, 0, 1) := by decide +kernel
theorem at_251_52 : j_at 251 52 = some (.goto 4, 56, 0, 0) := by decide +kernel
theorem at_251_55 : j_at 251 55 = some (.iconst 2, 0, 0, 2) := by decide +kernel
theorem at_251_56 : j_at 251 56 = some (.iadd, 0, 0, 0) := by decide +kernel
theorem at_251_57 : j_at 251 57 = some (.iload_n 3, 0, 0, 0) := by decide +kernel
theorem at_251_58 : j_at 251 58 = some (.iastore, 0, 0, 0) := by decide +kernel
theorem at_251_59 : j_at 251 59 = some (.return_, 0, 0, 0) := by decide +kernel
theorem at_252_0 : j_at 252 0 = some (.aload_n 0, 0, 0, 0) := by decide +kernel
theorem at_252_1 : j_at 252 1 = some (.invokevirtual 417, 237, 0, 0) := by decide +kernel
theorem at_252_4 : j_at 252 4 = some (.iconst 0, 0, 0, 0) := by decide +kernel
theorem at_252_5 : j_at 252 5 = some (.istore_n 1, 0, 0, 0) := by decide +kernel
theorem at_252_6 : j_at 252 6 = some (.iload_n 1, 0, 0, 0) := by decide +kernel
theorem at_252_7 : j_at 252 7 = some (.aload_n 0, 0, 0, 0) := by decide +kernel
theorem at_252_8 : j_at 252 8 = some (.getfield 18, 12, 2, 0) := by decide +kernel
theorem at_252_11 : j_at 252 11 = some (.iconst 5, 0, 0, 5) := by decide +kernel
theorem at_252_12 : j_at 252 12 = some (.iaload, 0, 0, 0) := by decide +kernel
theorem at_252_13 : j_at 252 13 = some (.if_icmp .ge 50, 63, 0, 0) := by decide +kernel
theorem at_252_16 : j_at 252 16 = some (.aload_n 0, 0, 0, 0) := by decide +kernel
theorem at_252_17 : j_at 252 17 = some (.aload_n 0, 0, 0, 0) := by decide +kernel
theorem at_252_18 : j_at 252 18 = some (.getfield 18, 12, 2, 0) := by decide +kernel
theorem at_252_21 : j_at 252 21 = some (.bipush 86, 0, 0, 86) := by decide +kernel
theorem at_252_23 : j_at 252 23 = some (.iconst 3, 0, 0, 3) := by decide +kernel
theorem at_252_24 : j_at 252 24 = some (.iload_n 1, 0, 0, 0) := by decide +kernel
theorem at_252_25 : j_at 252 25 = some (.imul, 0, 0, 0) := by decide +kernel
theorem at_252_26 : j_at 252 26 = some (.iadd, 0, 0, 0) := by decide +kernel
theorem at_252_27 : j_at 252 27 = some (.iaload, 0, 0, 0) := by decide +kernel
theorem at_252_28 : j_at 252 28 = some (.aload_n 0, 0, 0, 0) := by decide +kernel
theorem at_252_29 : j_at 252 29 = some (.getfield 18, 12, 2, 0) := by decide +kernel
theorem at_252_32 : j_at 252 32 = some (.bipush 86, 0, 0, 86) := by decide +kernel
theorem at_252_34 : j_at 252 34 = some (.iconst 3, 0, 0, 3) := by decide +kernel
theorem at_252_35 : j_at 252 35 = some (.iload_n 1, 0, 0, 0) := by decide +kernel
theorem at_252_36 : j_at 252 36 = some (.imul, 0, 0, 0) := by decide +kernel
theorem at_252_37 : j_at 252 37 = some (.iadd, 0, 0, 0) := by decide +kernel
theorem at_252_38 : j_at 252 38 = some (.iconst 1, 0, 0, 1) := by decide +kernel
theorem at_252_39 : j_at 252 39 = some (.iadd, 0, 0, 0) := by decide +kernel
theorem at_252_40 : j_at 252 40 = some (.iaload, 0, 0, 0) := by decide +kernel
theorem at_252_41 : j_at 252 41 = some (.aload_n 0, 0, 0, 0) := by decide +kernel
theorem at_252_42 : j_at 252 42 = some (.getfield 18, 12, 2, 0) := by decide +kernel
theorem at_252_45 : j_at 252 45 = some (.bipush 86, 0, 0, 86) := by decide +kernel
theorem at_252_47 : j_at 252 47 = some (.iconst 3, 0, 0, 3) := by decide +kernel
theorem at_252_48 : j_at 252 48 = some (.iload_n 1, 0, 0, 0) := by decide +kernel
theorem at_252_49 : j_at 252 49 = some (.imul, 0, 0, 0) := by decide +kernel
theorem at_252_50 : j_at 252 50 = some (.iadd, 0, 0, 0) := by decide +kernel
theorem at_252_51 : j_at 252 51 = some (.iconst 2, 0, 0, 2) := by decide +kernel
theorem at_252_52 : j_at 252 52 = some (.iadd, 0, 0, 0) := by decide +kernel
theorem at_252_53 : j_at 252 53 = some (.iaload, 0, 0, 0) := by decide +kernel
theorem at_252_54 : j_at 252 54 = some (.invokevirtual 443, 251, 3, 0) := by decide +kernel
theorem at_252_57 : j_at 252 57 = some (.iinc 1 1, 0, 0, 0) := by decide +kernel
theorem at_252_60 : j_at 252 60 = some (.goto (-54), 6, 0, 0) := by decide +kernel
theorem at_252_63 : j_at 252 63 = some (.aload_n 0, 0, 0, 0) := by decide +kernel
theorem at_252_64 : j_at 252 64 = some (.invokevirtual 400, 192, 0, 0) := by decide +kernel
theorem at_252_67 : j_at 252 67 = some (.istore_n 1, 0, 0, 0) := by decide +kernel
theorem at_252_68 : j_at 252 68 = some (.aload_n 0, 0, 0, 0) := by decide +kernel
theorem at_252_69 : j_at 252 69 = some (.invokevirtual 423, 238, 0, 0) := by decide +kernel
theorem at_252_72 : j_at 252 72 = some (.iload_n 1, 0, 0, 0) := by decide +kernel
theorem at_252_73 : j_at 252 73 = some (.ireturn, 0, 0, 0) := by decide +kernel
theorem at_253_0 : j_at 253 0 = some (.iload_n 0, 0, 0, 0) := by decide +kernel
theorem at_253_1 : j_at 253 1 = some (.i2l, 0, 0, 0) := by decide +kernel
theorem at_253_2 : j_at 253 2 = some (.lconst 0, 0, 0, 0) := by decide +kernel
theorem at_253_3 : j_at 253 3 = some (.ldc2_w 108, 0, 0, 5) := by decide +kernel
theorem at_253_6 : j_at 253 6 = some (.invokestatic 93, 150, 3, 0) := by decide +kernel
theorem at_253_9 : j_at 253 9 = some (.ireturn, 0, 0, 0) := by decide +kernel
theorem at_254_0 : j_at 254 0 = some (.iload_n 1, 0, 0, 0) := by decide +kernel
theorem at_254_1 : j_at 254 1 = some (.invokestatic 447, 253, 1, 0) := by decide +kernel
theorem at_254_4 : j_at 254 4 = some (.ifCond .ne 5, 9, 0, 0) := by decide +kernel
theorem at_254_7 : j_at 254 7 = some (.iconst (-1), 0, 0, -1) := by decide +kernel
theorem at_254_8 : j_at 254 8 = some (.ireturn, 0, 0, 0) := by decide +kernel
theorem at_254_9 : j_at 254 9 = some (.aload_n 0, 0, 0, 0) := by decide +kernel
theorem at_254_10 : j_at 254 10 = some (.getfield 69, 12, 25, 0) := by decide +kernel
theorem at_254_13 : j_at 254 13 = some (.iload_n 1, 0, 0, 0) := by decide +kernel
theorem at_254_14 : j_at 254 14 = some (.iaload, 0, 0, 0) := by decide +kernel
theorem at_254_15 : j_at 254 15 = some (.ifCond .lt 16, 31, 0, 0) := by decide +kernel
theorem at_254_18 : j_at 254 18 = some (.aload_n 0, 0, 0, 0) := by decide +kernel
theorem at_254_19 : j_at 254 19 = some (.getfield 69, 12, 25, 0) := by decide +kernel
theorem at_254_22 : j_at 254 22 = some (.iload_n 1, 0, 0, 0) := by decide +kernel
theorem at_254_23 : j_at 254 23 = some (.iaload, 0, 0, 0) := by decide +kernel
theorem at_254_24 : j_at 254 24 = some (.iconst 2, 0, 0, 2) := by decide +kernel
theorem at_254_25 : j_at 254 25 = some (.if_icmp .eq 6, 31, 0, 0) := by decide +kernel
theorem at_254_28 : j_at 254 28 = some (.bipush (-12), 0, 0, -12) := by decide +kernel
theorem at_254_30 : j_at 254 30 = some (.ireturn, 0, 0, 0) := by decide +kernel
theorem at_254_31 : j_at 254 31 = some (.aload_n 0, 0, 0, 0) := by decide +kernel
theorem at_254_32 : j_at 254 32 = some (.getfield 30, 12, 9, 0) := by decide +kernel
theorem at_254_35 : j_at 254 35 = some (.getfield 85, 11, 18, 0) := by decide +kernel
theorem at_254_38 : j_at 254 38 = some (.ifCond .eq 13, 51, 0, 0) := by decide +kernel
theorem at_254_41 : j_at 254 41 = some (.aload_n 0, 0, 0, 0) := by decide +kernel
theorem at_254_42 : j_at 254 42 = some (.getfield 30, 12, 9, 0) := by decide +kernel
theorem at_254_45 : j_at 254 45 = some (.getfield 200, 11, 19, 0) := by decide +kernel
theorem at_254_48 : j_at 254 48 = some (.ifCond .ne 6, 54, 0, 0) := by decide +kernel
theorem at_254_51 : j_at 254 51 = some (.bipush (-3), 0, 0, -3) := by decide +kernel
theorem at_254_53 : j_at 254 53 = some (.ireturn, 0, 0, 0) := by decide +kernel
theorem at_254_54 : j_at 254 54 = some (.iconst 0, 0, 0, 0) := by decide +kernel
theorem at_254_55 : j_at 254 55 = some (.istore_n 3, 0, 0, 0) := by decide +kernel
theorem at_254_56 : j_at 254 56 = some (.iload_n 3, 0, 0, 0) := by decide +kernel
theorem at_254_57 : j_at 254 57 = some (.aload_n 0, 0, 0, 0) := by decide +kernel
theorem at_254_58 : j_at 254 58 = some (.invokevirtual 89, 151, 0, 0) := by decide +kernel
theorem at_254_61 : j_at 254 61 = some (.if_icmp .ge 75, 136, 0, 0) := by decide +kernel
theorem at_254_64 : j_at 254 64 = some (.iload_n 2, 0, 0, 0) := by decide +kernel
theorem at_254_65 : j_at 254 65 = some (.ifCond .lt 24, 89, 0, 0) := by decide +kernel
theorem at_254_68 : j_at 254 68 = some (.aload_n 0, 0, 0, 0) := by decide +kernel
theorem at_254_69 : j_at 254 69 = some (.getfield 69, 12, 25, 0) := by decide +kernel
theorem at_254_72 : j_at 254 72 = some (.iload_n 1, 0, 0, 0) := by decide +kernel
theorem at_254_73 : j_at 254 73 = some (.iaload, 0, 0, 0) := by decide +kernel
theorem at_254_74 : j_at 254 74 = some (.ifCond .lt 15, 89, 0, 0) := by decide +kernel
theorem at_254_77 : j_at 254 77 = some (.iload_n 2, 0, 0, 0) := by decide +kernel
theorem at_254_78 : j_at 254 78 = some (.aload_n 0, 0, 0, 0) := by decide +kernel
theorem at_254_79 : j_at 254 79 = some (.getfield 72, 12, 26, 0) := by decide +kernel
theorem at_254_82 : j_at 254 82 = some (.iload_n 1, 0, 0, 0) := by decide +kernel
theorem at_254_83 : j_at 254 83 = some (.iaload, 0, 0, 0) := by decide +kernel
theorem at_254_84 : j_at 254 84 = some (.iload_n 3, 0, 0, 0) := by decide +kernel
theorem at_254_85 : j_at 254 85 = some (.isub, 0, 0, 0) := by decide +kernel
theorem at_254_86 : j_at 254 86 = some (.if_icmp .lt 8, 94, 0, 0) := by decide +kernel
theorem at_254_89 : j_at 254 89 = some (.bipush 100, 0, 0, 100) := by decide +kernel
theorem at_254_91 : j_at 254 91 = some (.iload_n 3, 0, 0, 0) := by decide +kernel
theorem at_254_92 : j_at 254 92 = some (.iadd, 0, 0, 0) := by decide +kernel
theorem at_254_93 : j_at 254 93 = some (.ireturn, 0, 0, 0) := by decide +kernel
theorem at_254_94 : j_at 254 94 = some (.aload_n 0, 0, 0, 0) := by decide +kernel
theorem at_254_95 : j_at 254 95 = some (.getfield 75, 12, 27, 0) := by decide +kernel
theorem at_254_98 : j_at 254 98 = some (.bipush 60, 0, 0, 60) := by decide +kernel
theorem at_254_100 : j_at 254 100 = some (.iload_n 1, 0, 0, 0) := by decide +kernel
theorem at_254_101 : j_at 254 101 = some (.imul, 0, 0, 0) := by decide +kernel
theorem at_254_102 : j_at 254 102 = some (.iload_n 2, 0, 0, 0) := by decide +kernel
theorem at_254_103 : j_at 254 103 = some (.iadd, 0, 0, 0) := by decide +kernel
theorem at_254_104 : j_at 254 104 = some (.iload_n 3, 0, 0, 0) := by decide +kernel
theorem at_254_105 : j_at 254 105 = some (.iadd, 0, 0, 0) := by decide +kernel
theorem at_254_106 : j_at 254 106 = some (.laload, 0, 0, 0) := by decide +kernel
theorem at_254_107 : j_at 254 107 = some (.aload_n 0, 0, 0, 0) := by decide +kernel
theorem at_254_108 : j_at 254 108 = some (.getfield 30, 12, 9, 0) := by decide +kernel
theorem at_254_111 : j_at 254 111 = some (.getfield 197, 11, 13, 0) := by decide +kernel
theorem at_254_114 : j_at 254 114 = some (.lmul, 0, 0, 0) := by decide +kernel
theorem at_254_115 : j_at 254 115 = some (.aload_n 0, 0, 0, 0) := by decide +kernel
theorem at_254_116 : j_at 254 116 = some (.aload_n 0, 0, 0, 0) := by decide +kernel
theorem at_254_117 : j_at 254 117 = some (.getfield 30, 12, 9, 0) := by decide +kernel
theorem at_254_120 : j_at 254 120 = some (.iload_n 3, 0, 0, 0) := by decide +kernel
theorem at_254_121 : j_at 254 121 = some (.invokevirtual 314, 197, 2, 0) := by decide +kernel
theorem at_254_124 : j_at 254 124 = some (.lcmp, 0, 0, 0) := by decide +kernel
theorem at_254_125 : j_at 254 125 = some (.ifCond .eq 5, 130, 0, 0) := by decide +kernel
theorem at_254_128 : j_at 254 128 = some (.iload_n 3, 0, 0, 0) := by decide +kernel
theorem at_254_129 : j_at 254 129 = some (.ireturn, 0, 0, 0) := by decide +kernel
theorem at_254_130 : j_at 254 130 = some (.iinc 3 1, 0, 0, 0) := by decide +kernel
theorem at_254_133 : j_at 254 133 = some (.goto (-77), 56, 0, 0) := by decide +kernel
theorem at_254_136 : j_at 254 136 = some (.bipush (-5), 0, 0, -5) := by decide +kernel
theorem at_254_138 : j_at 254 138 = some (.ireturn, 0, 0, 0) := by decide +kernel
theorem at_255_0 : j_at 255 0 = some (.iconst 0, 0, 0, 0) := by decide +kernel
theorem at_255_1 : j_at 255 1 = some (.istore_n 1, 0, 0, 0) := by decide +kernel
theorem at_255_2 : j_at 255 2 = some (.iload_n 1, 0, 0, 0) := by decide +kernel
theorem at_255_3 : j_at 255 3 = some (.sipush 150, 0, 0, 150) := by decide +kernel
theorem at_255_6 : j_at 255 6 = some (.if_icmp .ge 21, 27, 0, 0) := by decide +kernel
theorem at_255_9 : j_at 255 9 = some (.aload_n 0, 0, 0, 0) := by decide +kernel
theorem at_255_10 : j_at 255 10 = some (.getfield 15, 12, 1, 0) := by decide +kernel
theorem at_255_13 : j_at 255 13 = some (.iload_n 1, 0, 0, 0) := by decide +kernel
theorem at_255_14 : j_at 255 14 = some (.aload_n 0, 0, 0, 0) := by decide +kernel
theorem at_255_15 : j_at 255 15 = some (.getfield 11, 12, 0, 0) := by decide +kernel
theorem at_255_18 : j_at 255 18 = some (.iload_n 1, 0, 0, 0) := by decide +kernel
theorem at_255_19 : j_at 255 19 = some (.iaload, 0, 0, 0) := by decide +kernel
theorem at_255_20 : j_at 255 20 = some (.iastore, 0, 0, 0) := by decide +kernel
theorem at_255_21 : j_at 255 21 = some (.iinc 1 1, 0, 0, 0) := by decide +kernel
theorem at_255_24 : j_at 255 24 = some (.goto (-22), 2, 0, 0) := by decide +kernel
theorem at_255_27 : j_at 255 27 = some (.aload_n 0, 0, 0, 0) := by decide +kernel
theorem at_255_28 : j_at 255 28 = some (.iconst 1, 0, 0, 1) := by decide +kernel
theorem at_255_29 : j_at 255 29 = some (.putfield 450, 12, 3, 0) := by decide +kernel
theorem at_255_32 : j_at 255 32 = some (.aload_n 0, 0, 0, 0) := by decide +kernel
theorem at_255_33 : j_at 255 33 = some (.getfield 11, 12, 0, 0) := by decide +kernel
theorem at_255_36 : j_at 255 36 = some (.iconst 1, 0, 0, 1) := by decide +kernel
theorem at_255_37 : j_at 255 37 = some (.iaload, 0, 0, 0) := by decide +kernel
theorem at_255_38 : j_at 255 38 = some (.ireturn, 0, 0, 0) := by decide +kernel
theorem at_256_0 : j_at 256 0 = some (.aload_n 0, 0, 0, 0) := by decide +kernel
theorem at_256_1 : j_at 256 1 = some (.getfield 450, 12, 3, 0) := by decide +kernel
theorem at_256_4 : j_at 256 4 = some (.ifCond .ne 6, 10, 0, 0) := by decide +kernel
theorem at_256_7 : j_at 256 7 = some (.bipush (-3), 0, 0, -3) := by decide +kernel
theorem at_256_9 : j_at 256 9 = some (.ireturn, 0, 0, 0) := by decide +kernel
theorem at_256_10 : j_at 256 10 = some (.iconst 0, 0, 0, 0) := by decide +kernel
theorem at_256_11 : j_at 256 11 = some (.istore_n 1, 0, 0, 0) := by decide +kernel
theorem at_256_12 : j_at 256 12 = some (.iload_n 1, 0, 0, 0) := by decide +kernel
theorem at_256_13 : j_at 256 13 = some (.sipush 150, 0, 0, 150) := by decide +kernel
theorem at_256_16 : j_at 256 16 = some (.if_icmp .ge 21, 37, 0, 0) := by decide +kernel
theorem at_256_19 : j_at 256 19 = some (.aload_n 0, 0, 0, 0) := by decide +kernel
theorem at_256_20 : j_at 256 20 = some (.getfield 11, 12, 0, 0) := by decide +kernel
theorem at_256_23 : j_at 256 23 = some (.iload_n 1, 0, 0, 0) := by decide +kernel
theorem at_256_24 : j_at 256 24 = some (.aload_n 0, 0, 0, 0) := by decide +kernel
theorem at_256_25 : j_at 256 25 = some (.getfield 15, 12, 1, 0) := by decide +kernel
theorem at_256_28 : j_at 256 28 = some (.iload_n 1, 0, 0, 0) := by decide +kernel
theorem at_256_29 : j_at 256 29 = some (.iaload, 0, 0, 0) := by decide +kernel
theorem at_256_30 : j_at 256 30 = some (.iastore, 0, 0, 0) := by decide +kernel
theorem at_256_31 : j_at 256 31 = some (.iinc 1 1, 0, 0, 0) := by decide +kernel
theorem at_256_34 : j_at 256 34 = some (.goto (-22), 12, 0, 0) := by decide +kernel
theorem at_256_37 : j_at 256 37 = some (.aload_n 0, 0, 0, 0) := by decide +kernel
theorem at_256_38 : j_at 256 38 = some (.getfield 30, 12, 9, 0) := by decide +kernel
theorem at_256_41 : j_at 256 41 = some (.iconst 0, 0, 0, 0) := by decide +kernel
theorem at_256_42 : j_at 256 42 = some (.putfield 85, 11, 18, 0) := by decide +kernel
theorem at_256_45 : j_at 256 45 = some (.aload_n 0, 0, 0, 0) := by decide +kernel
theorem at_256_46 : j_at 256 46 = some (.getfield 11, 12, 0, 0) := by decide +kernel
theorem at_256_49 : j_at 256 49 = some (.iconst 1, 0, 0, 1) := by decide +kernel
theorem at_256_50 : j_at 256 50 = some (.iaload, 0, 0, 0) := by decide +kernel
theorem at_256_51 : j_at 256 51 = some (.ireturn, 0, 0, 0) := by decide +kernel
theorem at_257_0 : j_at 257 0 = some (.aload_n 0, 0, 0, 0) := by decide +kernel
theorem at_257_1 : j_at 257 1 = some (.getfield 30, 12, 9, 0) := by decide +kernel
theorem at_257_4 : j_at 257 4 = some (.getfield 85, 11, 18, 0) := by decide +kernel
theorem at_257_7 : j_at 257 7 = some (.istore_n 2, 0, 0, 0) := by decide +kernel
theorem at_257_8 : j_at 257 8 = some (.iload_n 1, 0, 0, 0) := by decide +kernel
theorem at_257_9 : j_at 257 9 = some (.tableswitch 149 0 9 #[55, 60, 67, 83, 99, 115, 122, 129, 137, 142], 0, 0, 0) := by decide +kernel
theorem at_257_64 : j_at 257 64 = some (.aload_n 0, 0, 0, 0) := by decide +kernel
theorem at_257_65 : j_at 257 65 = some (.invokevirtual 89, 151, 0, 0) := by decide +kernel
theorem at_257_68 : j_at 257 68 = some (.ireturn, 0, 0, 0) := by decide +kernel
theorem at_257_69 : j_at 257 69 = some (.aload_n 0, 0, 0, 0) := by decide +kernel
theorem at_257_70 : j_at 257 70 = some (.getfield 11, 12, 0, 0) := by decide +kernel
theorem at_257_73 : j_at 257 73 = some (.iconst 1, 0, 0, 1) := by decide +kernel
theorem at_257_74 : j_at 257 74 = some (.iaload, 0, 0, 0) := by decide +kernel
theorem at_257_75 : j_at 257 75 = some (.ireturn, 0, 0, 0) := by decide +kernel
theorem at_257_76 : j_at 257 76 = some (.iload_n 2, 0, 0, 0) := by decide +kernel
theorem at_257_77 : j_at 257 77 = some (.ifCond .eq 13, 90, 0, 0) := by decide +kernel
theorem at_257_80 : j_at 257 80 = some (.aload_n 0, 0, 0, 0) := by decide +kernel
theorem at_257_81 : j_at 257 81 = some (.getfield 30, 12, 9, 0) := by decide +kernel
theorem at_257_84 : j_at 257 84 = some (.getfield 178, 11, 15, 0) := by decide +kernel
theorem at_257_87 : j_at 257 87 = some (.goto 4, 91, 0, 0) := by decide +kernel
theorem at_257_90 : j_at 257 90 = some (.iconst 0, 0, 0, 0) := by decide +kernel
theorem at_257_91 : j_at 257 91 = some (.ireturn, 0, 0, 0) := by decide +kernel
theorem at_257_92 : j_at 257 92 = some (.iload_n 2, 0, 0, 0) := by decide +kernel
theorem at_257_93 : j_at 257 93 = some (.ifCond .eq 13, 106, 0, 0) := by decide +kernel
theorem at_257_96 : j_at 257 96 = some (.aload_n 0, 0, 0, 0) := by decide +kernel
theorem at_257_97 : j_at 257 97 = some (.getfield 30, 12, 9, 0) := by decide +kernel
theorem at_257_100 : j_at 257 100 = some (.getfield 187, 11, 16, 0) := by decide +kernel
theorem at_257_103 : j_at 257 103 = some (.goto 4, 107, 0, 0) := by decide +kernel
theorem at_257_106 : j_at 257 106 = some (.iconst 0, 0, 0, 0) := by decide +kernel
theorem at_257_107 : j_at 257 107 = some (.ireturn, 0, 0, 0) := by decide +kernel
theorem at_257_108 : j_at 257 108 = some (.iload_n 2, 0, 0, 0) := by decide +kernel
theorem at_257_109 : j_at 257 109 = some (.ifCond .eq 13, 122, 0, 0) := by decide +kernel
theorem at_257_112 : j_at 257 112 = some (.aload_n 0, 0, 0, 0) := by decide +kernel
theorem at_257_113 : j_at 257 113 = some (.getfield 30, 12, 9, 0) := by decide +kernel
theorem at_257_116 : j_at 257 116 = some (.getfield 190, 11, 17, 0) := by decide +kernel
theorem at_257_119 : j_at 257 119 = some (.goto 4, 123, 0, 0) := by decide +kernel
theorem at_257_122 : j_at 257 122 = some (.iconst 0, 0, 0, 0) := by decide +kernel
theorem at_257_123 : j_at 257 123 = some (.ireturn, 0, 0, 0) := by decide +kernel
theorem at_257_124 : j_at 257 124 = some (.aload_n 0, 0, 0, 0) := by decide +kernel
theorem at_257_125 : j_at 257 125 = some (.getfield 11, 12, 0, 0) := by decide +kernel
theorem at_257_128 : j_at 257 128 = some (.iconst 4, 0, 0, 4) := by decide +kernel
theorem at_257_129 : j_at 257 129 = some (.iaload, 0, 0, 0) := by decide +kernel
theorem at_257_130 : j_at 257 130 = some (.ireturn, 0, 0, 0) := by decide +kernel
theorem at_257_131 : j_at 257 131 = some (.aload_n 0, 0, 0, 0) := by decide +kernel
theorem at_257_132 : j_at 257 132 = some (.getfield 11, 12, 0, 0) := by decide +kernel
theorem at_257_135 : j_at 257 135 = some (.iconst 5, 0, 0, 5) := by decide +kernel
theorem at_257_136 : j_at 257 136 = some (.iaload, 0, 0, 0) := by decide +kernel
theorem at_257_137 : j_at 257 137 = some (.ireturn, 0, 0, 0) := by decide +kernel
theorem at_257_138 : j_at 257 138 = some (.aload_n 0, 0, 0, 0) := by decide +kernel
theorem at_257_139 : j_at 257 139 = some (.getfield 11, 12, 0, 0) := by decide +kernel
theorem at_257_142 : j_at 257 142 = some (.bipush 6, 0, 0, 6) := by decide +kernel
theorem at_257_144 : j_at 257 144 = some (.iaload, 0, 0, 0) := by decide +kernel
theorem at_257_145 : j_at 257 145 = some (.ireturn, 0, 0, 0) := by decide +kernel
theorem at_257_146 : j_at 257 146 = some (.aload_n 0, 0, 0, 0) := by decide +kernel
theorem at_257_147 : j_at 257 147 = some (.getfield 133, 12, 6, 0) := by decide +kernel
theorem at_257_150 : j_at 257 150 = some (.ireturn, 0, 0, 0) := by decide +kernel
theorem at_257_151 : j_at 257 151 = some (.aload_n 0, 0, 0, 0) := by decide +kernel
theorem at_257_152 : j_at 257 152 = some (.getfield 11, 12, 0, 0) := by decide +kernel
theorem at_257_155 : j_at 257 155 = some (.iconst 3, 0, 0, 3) := by decide +kernel
theorem at_257_156 : j_at 257 156 = some (.iaload, 0, 0, 0) := by decide +kernel
theorem at_257_157 : j_at 257 157 = some (.ireturn, 0, 0, 0) := by decide +kernel
theorem at_257_158 : j_at 257 158 = some (.bipush (-2), 0, 0, -2) := by decide +kernel
theorem at_257_160 : j_at 257 160 = some (.ireturn, 0, 0, 0) := by decide +kernel
theorem at_258_0 : j_at 258 0 = some (.iload_n 1, 0, 0, 0) := by decide +kernel
theorem at_258_1 : j_at 258 1 = some (.invokestatic 447, 253, 1, 0) := by decide +kernel
theorem at_258_4 : j_at 258 4 = some (.ifCond .ne 5, 9, 0, 0) := by decide +kernel
theorem at_258_7 : j_at 258 7 = some (.iconst (-1), 0, 0, -1) := by decide +kernel
theorem at_258_8 : j_at 258 8 = some (.ireturn, 0, 0, 0) := by decide +kernel
theorem at_258_9 : j_at 258 9 = some (.iload_n 2, 0, 0, 0) := by decide +kernel
theorem at_258_10 : j_at 258 10 = some (.i2l, 0, 0, 0) := by decide +kernel
theorem at_258_11 : j_at 258 11 = some (.ldc2_w 242, 0, 0, -1) := by decide +kernel
theorem at_258_14 : j_at 258 14 = some (.ldc2_w 415, 0, 0, 4) := by decide +kernel
theorem at_258_17 : j_at 258 17 = some (.invokestatic 93, 150, 3, 0) := by decide +kernel
theorem at_258_20 : j_at 258 20 = some (.ifCond .eq 13, 33, 0, 0) := by decide +kernel
theorem at_258_23 : j_at 258 23 = some (.iload_n 2, 0, 0, 0) := by decide +kernel
theorem at_258_24 : j_at 258 24 = some (.ifCond .lt 12, 36, 0, 0) := by decide +kernel
theorem at_258_27 : j_at 258 27 = some (.iload_n 3, 0, 0, 0) := by decide +kernel
theorem at_258_28 : j_at 258 28 = some (.bipush 60, 0, 0, 60) := by decide +kernel
theorem at_258_30 : j_at 258 30 = some (.if_icmp .le 6, 36, 0, 0) := by decide +kernel
theorem at_258_33 : j_at 258 33 = some (.bipush (-2), 0, 0, -2) := by decide +kernel
theorem at_258_35 : j_at 258 35 = some (.ireturn, 0, 0, 0) := by decide +kernel
theorem at_258_36 : j_at 258 36 = some (.iload_n 2, 0, 0, 0) := by decide +kernel
theorem at_258_37 : j_at 258 37 = some (.ifCond .lt 10, 47, 0, 0) := by decide +kernel
theorem at_258_40 : j_at 258 40 = some (.iload_n 3, 0, 0, 0) := by decide +kernel
theorem at_258_41 : j_at 258 41 = some (.ifCond .ge 6, 47, 0, 0) := by decide +kernel
theorem at_258_44 : j_at 258 44 = some (.bipush (-14), 0, 0, -14) := by decide +kernel
theorem at_258_46 : j_at 258 46 = some (.ireturn, 0, 0, 0) := by decide +kernel
theorem at_258_47 : j_at 258 47 = some (.aload_n 0, 0, 0, 0) := by decide +kernel
theorem at_258_48 : j_at 258 48 = some (.getfield 69, 12, 25, 0) := by decide +kernel
theorem at_258_51 : j_at 258 51 = some (.iload_n 1, 0, 0, 0) := by decide +kernel
theorem at_258_52 : j_at 258 52 = some (.iload_n 2, 0, 0, 0) := by decide +kernel
theorem at_258_53 : j_at 258 53 = some (.iastore, 0, 0, 0) := by decide +kernel
theorem at_258_54 : j_at 258 54 = some (.aload_n 0, 0, 0, 0) := by decide +kernel
theorem at_258_55 : j_at 258 55 = some (.getfield 72, 12, 26, 0) := by decide +kernel
theorem at_258_58 : j_at 258 58 = some (.iload_n 1, 0, 0, 0) := by decide +kernel
theorem at_258_59 : j_at 258 59 = some (.iload_n 2, 0, 0, 0) := by decide +kernel
theorem at_258_60 : j_at 258 60 = some (.ifCond .ge 7, 67, 0, 0) := by decide +kernel
theorem at_258_63 : j_at 258 63 = some (.iconst 0, 0, 0, 0) := by decide +kernel
theorem at_258_64 : j_at 258 64 = some (.goto 4, 68, 0, 0) := by decide +kernel
theorem at_258_67 : j_at 258 67 = some (.iload_n 3, 0, 0, 0) := by decide +kernel
theorem at_258_68 : j_at 258 68 = some (.iastore, 0, 0, 0) := by decide +kernel
theorem at_258_69 : j_at 258 69 = some (.iconst 0, 0, 0, 0) := by decide +kernel
theorem at_258_70 : j_at 258 70 = some (.istore 4, 0, 0, 0) := by decide +kernel
theorem at_258_72 : j_at 258 72 = some (.iload 4, 0, 0, 0) := by decide +kernel
theorem at_258_74 : j_at 258 74 = some (.aload_n 0, 0, 0, 0) := by decide +kernel
theorem at_258_75 : j_at 258 75 = some (.getfield 72, 12, 26, 0) := by decide +kernel
theorem at_258_78 : j_at 258 78 = some (.iload_n 1, 0, 0, 0) := by decide +kernel
theorem at_258_79 : j_at 258 79 = some (.iaload, 0, 0, 0) := by decide +kernel
theorem at_258_80 : j_at 258 80 = some (.if_icmp .ge 22, 102, 0, 0) := by decide +kernel
theorem at_258_83 : j_at 258 83 = some (.aload_n 0, 0, 0, 0) := by decide +kernel
theorem at_258_84 : j_at 258 84 = some (.getfield 75, 12, 27, 0) := by decide +kernel
theorem at_258_87 : j_at 258 87 = some (.bipush 60, 0, 0, 60) := by decide +kernel
theorem at_258_89 : j_at 258 89 = some (.iload_n 1, 0, 0, 0) := by decide +kernel
theorem at_258_90 : j_at 258 90 = some (.imul, 0, 0, 0) := by decide +kernel
theorem at_258_91 : j_at 258 91 = some (.iload 4, 0, 0, 0) := by decide +kernel
theorem at_258_93 : j_at 258 93 = some (.iadd, 0, 0, 0) := by decide +kernel
theorem at_258_94 : j_at 258 94 = some (.lconst 0, 0, 0, 0) := by decide +kernel
theorem at_258_95 : j_at 258 95 = some (.lastore, 0, 0, 0) := by decide +kernel
theorem at_258_96 : j_at 258 96 = some (.iinc 4 1, 0, 0, 0) := by decide +kernel
theorem at_258_99 : j_at 258 99 = some (.goto (-27), 72, 0, 0) := by decide +kernel
theorem at_258_102 : j_at 258 102 = some (.iconst 1, 0, 0, 1) := by decide +kernel
theorem at_258_103 : j_at 258 103 = some (.ireturn, 0, 0, 0) := by decide +kernel
theorem at_259_0 : j_at 259 0 = some (.iload_n 0, 0, 0, 0) := by decide +kernel
theorem at_259_1 : j_at 259 1 = some (.tableswitch 47 0 3 #[31, 36, 41, 45], 0, 0, 0) := by decide +kernel
theorem at_259_32 : j_at 259 32 = some (.lload_n 1, 0, 0, 0) := by decide +kernel
theorem at_259_33 : j_at 259 33 = some (.l2i, 0, 0, 0) := by decide +kernel
theorem at_259_34 : j_at 259 34 = some (.i2b, 0, 0, 0) := by decide +kernel
theorem at_259_35 : j_at 259 35 = some (.i2l, 0, 0, 0) := by decide +kernel
theorem at_259_36 : j_at 259 36 = some (.lreturn, 0, 0, 0) := by decide +kernel
theorem at_259_37 : j_at 259 37 = some (.lload_n 1, 0, 0, 0) := by decide +kernel
theorem at_259_38 : j_at 259 38 = some (.l2i, 0, 0, 0) := by decide +kernel
theorem at_259_39 : j_at 259 39 = some (.i2s, 0, 0, 0) := by decide +kernel
theorem at_259_40 : j_at 259 40 = some (.i2l, 0, 0, 0) := by decide +kernel
theorem at_259_41 : j_at 259 41 = some (.lreturn, 0, 0, 0) := by decide +kernel
theorem at_259_42 : j_at 259 42 = some (.lload_n 1, 0, 0, 0) := by decide +kernel
theorem at_259_43 : j_at 259 43 = some (.l2i, 0, 0, 0) := by decide +kernel
theorem at_259_44 : j_at 259 44 = some (.i2l, 0, 0, 0) := by decide +kernel
theorem at_259_45 : j_at 259 45 = some (.lreturn, 0, 0, 0) := by decide +kernel
theorem at_259_46 : j_at 259 46 = some (.lload_n 1, 0, 0, 0) := by decide +kernel
theorem at_259_47 : j_at 259 47 = some (.lreturn, 0, 0, 0) := by decide +kernel
theorem at_259_48 : j_at 259 48 = some (.lload_n 1, 0, 0, 0) := by decide +kernel
theorem at_259_49 : j_at 259 49 = some (.lconst 0, 0, 0, 0) := by decide +kernel
theorem at_259_50 : j_at 259 50 = some (.lcmp, 0, 0, 0) := by decide +kernel
theorem at_259_51 : j_at 259 51 = some (.ifCond .eq 7, 58, 0, 0) := by decide +kernel
theorem at_259_54 : j_at 259 54 = some (.lconst 1, 0, 0, 1) := by decide +kernel
theorem at_259_55 : j_at 259 55 = some (.goto 4, 59, 0, 0) := by decide +kernel
theorem at_259_58 : j_at 259 58 = some (.lconst 0, 0, 0, 0) := by decide +kernel
theorem at_259_59 : j_at 259 59 = some (.lreturn, 0, 0, 0) := by decide +kernel
theorem at_260_0 : j_at 260 0 = some (.iload_n 1, 0, 0, 0) := by decide +kernel
theorem at_260_1 : j_at 260 1 = some (.invokestatic 447, 253, 1, 0) := by decide +kernel
theorem at_260_4 : j_at 260 4 = some (.ifCond .ne 5, 9, 0, 0) := by decide +kernel
theorem at_260_7 : j_at 260 7 = some (.iconst (-1), 0, 0, -1) := by decide +kernel
theorem at_260_8 : j_at 260 8 = some (.ireturn, 0, 0, 0) := by decide +kernel
theorem at_260_9 : j_at 260 9 = some (.aload_n 0, 0, 0, 0) := by decide +kernel
theorem at_260_10 : j_at 260 10 = some (.getfield 69, 12, 25, 0) := by decide +kernel
theorem at_260_13 : j_at 260 13 = some (.iload_n 1, 0, 0, 0) := by decide +kernel
theorem at_260_14 : j_at 260 14 = some (.iaload, 0, 0, 0) := by decide +kernel
theorem at_260_15 : j_at 260 15 = some (.ifCond .ge 6, 21, 0, 0) := by decide +kernel
theorem at_260_18 : j_at 260 18 = some (.bipush (-11), 0, 0, -11) := by decide +kernel
theorem at_260_20 : j_at 260 20 = some (.ireturn, 0, 0, 0) := by decide +kernel
theorem at_260_21 : j_at 260 21 = some (.iload_n 2, 0, 0, 0) := by decide +kernel
theorem at_260_22 : j_at 260 22 = some (.i2l, 0, 0, 0) := by decide +kernel
theorem at_260_23 : j_at 260 23 = some (.lconst 0, 0, 0, 0) := by decide +kernel
theorem at_260_24 : j_at 260 24 = some (.aload_n 0, 0, 0, 0) := by decide +kernel
theorem at_260_25 : j_at 260 25 = some (.getfield 72, 12, 26, 0) := by decide +kernel
theorem at_260_28 : j_at 260 28 = some (.iload_n 1, 0, 0, 0) := by decide +kernel
theorem at_260_29 : j_at 260 29 = some (.iaload, 0, 0, 0) := by decide +kernel
theorem at_260_30 : j_at 260 30 = some (.iconst 1, 0, 0, 1) := by decide +kernel
theorem at_260_31 : j_at 260 31 = some (.isub, 0, 0, 0) := by decide +kernel
theorem at_260_32 : j_at 260 32 = some (.i2l, 0, 0, 0) := by decide +kernel
theorem at_260_33 : j_at 260 33 = some (.invokestatic 93, 150, 3, 0) := by decide +kernel
theorem at_260_36 : j_at 260 36 = some (.ifCond .ne 6, 42, 0, 0) := by decide +kernel
theorem at_260_39 : j_at 260 39 = some (.bipush (-13), 0, 0, -13) := by decide +kernel
theorem at_260_41 : j_at 260 41 = some (.ireturn, 0, 0, 0) := by decide +kernel
theorem at_260_42 : j_at 260 42 = some (.aload_n 0, 0, 0, 0) := by decide +kernel
theorem at_260_43 : j_at 260 43 = some (.getfield 75, 12, 27, 0) := by decide +kernel
theorem at_260_46 : j_at 260 46 = some (.bipush 60, 0, 0, 60) := by decide +kernel
theorem at_260_48 : j_at 260 48 = some (.iload_n 1, 0, 0, 0) := by decide +kernel
theorem at_260_49 : j_at 260 49 = some (.imul, 0, 0, 0) := by decide +kernel
theorem at_260_50 : j_at 260 50 = some (.iload_n 2, 0, 0, 0) := by decide +kernel
theorem at_260_51 : j_at 260 51 = some (.iadd, 0, 0, 0) := by decide +kernel
theorem at_260_52 : j_at 260 52 = some (.aload_n 0, 0, 0, 0) := by decide +kernel
theorem at_260_53 : j_at 260 53 = some (.getfield 69, 12, 25, 0) := by decide +kernel
theorem at_260_56 : j_at 260 56 = some (.iload_n 1, 0, 0, 0) := by decide +kernel
theorem at_260_57 : j_at 260 57 = some (.iaload, 0, 0, 0) := by decide +kernel
theorem at_260_58 : j_at 260 58 = some (.lload_n 3, 0, 0, 0) := by decide +kernel
theorem at_260_59 : j_at 260 59 = some (.invokestatic 453, 259, 2, 0) := by decide +kernel
theorem at_260_62 : j_at 260 62 = some (.lastore, 0, 0, 0) := by decide +kernel
theorem at_260_63 : j_at 260 63 = some (.iconst 1, 0, 0, 1) := by decide +kernel
theorem at_260_64 : j_at 260 64 = some (.ireturn, 0, 0, 0) := by decide +kernel
theorem at_261_0 : j_at 261 0 = some (.iload_n 1, 0, 0, 0) := by decide +kernel
theorem at_261_1 : j_at 261 1 = some (.invokestatic 447, 253, 1, 0) := by decide +kernel
theorem at_261_4 : j_at 261 4 = some (.ifCond .eq 44, 48, 0, 0) := by decide +kernel
theorem at_261_7 : j_at 261 7 = some (.aload_n 0, 0, 0, 0) := by decide +kernel
theorem at_261_8 : j_at 261 8 = some (.getfield 69, 12, 25, 0) := by decide +kernel
theorem at_261_11 : j_at 261 11 = some (.iload_n 1, 0, 0, 0) := by decide +kernel
theorem at_261_12 : j_at 261 12 = some (.iaload, 0, 0, 0) := by decide +kernel
theorem at_261_13 : j_at 261 13 = some (.ifCond .lt 35, 48, 0, 0) := by decide +kernel
theorem at_261_16 : j_at 261 16 = some (.iload_n 2, 0, 0, 0) := by decide +kernel
theorem at_261_17 : j_at 261 17 = some (.i2l, 0, 0, 0) := by decide +kernel
theorem at_261_18 : j_at 261 18 = some (.lconst 0, 0, 0, 0) := by decide +kernel
theorem at_261_19 : j_at 261 19 = some (.aload_n 0, 0, 0, 0) := by decide +kernel
theorem at_261_20 : j_at 261 20 = some (.getfield 72, 12, 26, 0) := by decide +kernel
theorem at_261_23 : j_at 261 23 = some (.iload_n 1, 0, 0, 0) := by decide +kernel
theorem at_261_24 : j_at 261 24 = some (.iaload, 0, 0, 0) := by decide +kernel
theorem at_261_25 : j_at 261 25 = some (.iconst 1, 0, 0, 1) := by decide +kernel
theorem at_261_26 : j_at 261 26 = some (.isub, 0, 0, 0) := by decide +kernel
theorem at_261_27 : j_at 261 27 = some (.i2l, 0, 0, 0) := by decide +kernel
theorem at_261_28 : j_at 261 28 = some (.invokestatic 93, 150, 3, 0) := by decide +kernel
theorem at_261_31 : j_at 261 31 = some (.ifCond .eq 17, 48, 0, 0) := by decide +kernel
theorem at_261_34 : j_at 261 34 = some (.aload_n 0, 0, 0, 0) := by decide +kernel
theorem at_261_35 : j_at 261 35 = some (.getfield 75, 12, 27, 0) := by decide +kernel
theorem at_261_38 : j_at 261 38 = some (.bipush 60, 0, 0, 60) := by decide +kernel
theorem at_261_40 : j_at 261 40 = some (.iload_n 1, 0, 0, 0) := by decide +kernel
theorem at_261_41 : j_at 261 41 = some (.imul, 0, 0, 0) := by decide +kernel
theorem at_261_42 : j_at 261 42 = some (.iload_n 2, 0, 0, 0) := by decide +kernel
theorem at_261_43 : j_at 261 43 = some (.iadd, 0, 0, 0) := by decide +kernel
theorem at_261_44 : j_at 261 44 = some (.laload, 0, 0, 0) := by decide +kernel
theorem at_261_45 : j_at 261 45 = some (.goto 6, 51, 0, 0) := by decide +kernel
theorem at_261_48 : j_at 261 48 = some (.ldc2_w 306, 0, 0, -9223372036854775808) := by decide +kernel
theorem at_261_51 : j_at 261 51 = some (.lreturn, 0, 0, 0) := by decide +kernel
theorem at_262_0 : j_at 262 0 = some (.iload_n 1, 0, 0, 0) := by decide +kernel
theorem at_262_1 : j_at 262 1 = some (.invokestatic 447, 253, 1, 0) := by decide +kernel
theorem at_262_4 : j_at 262 4 = some (.ifCond .eq 10, 14, 0, 0) := by decide +kernel
theorem at_262_7 : j_at 262 7 = some (.iload_n 3, 0, 0, 0) := by decide +kernel
theorem at_262_8 : j_at 262 8 = some (.invokestatic 447, 253, 1, 0) := by decide +kernel
theorem at_262_11 : j_at 262 11 = some (.ifCond .ne 5, 16, 0, 0) := by decide +kernel
theorem at_262_14 : j_at 262 14 = some (.iconst (-1), 0, 0, -1) := by decide +kernel
theorem at_262_15 : j_at 262 15 = some (.ireturn, 0, 0, 0) := by decide +kernel
theorem at_262_16 : j_at 262 16 = some (.aload_n 0, 0, 0, 0) := by decide +kernel
theorem at_262_17 : j_at 262 17 = some (.getfield 69, 12, 25, 0) := by decide +kernel
theorem at_262_20 : j_at 262 20 = some (.iload_n 1, 0, 0, 0) := by decide +kernel
theorem at_262_21 : j_at 262 21 = some (.iaload, 0, 0, 0) := by decide +kernel
theorem at_262_22 : j_at 262 22 = some (.ifCond .lt 12, 34, 0, 0) := by decide +kernel
theorem at_262_25 : j_at 262 25 = some (.aload_n 0, 0, 0, 0) := by decide +kernel
theorem at_262_26 : j_at 262 26 = some (.getfield 69, 12, 25, 0) := by decide +kernel
theorem at_262_29 : j_at 262 29 = some (.iload_n 3, 0, 0, 0) := by decide +kernel
theorem at_262_30 : j_at 262 30 = some (.iaload, 0, 0, 0) := by decide +kernel
theorem at_262_31 : j_at 262 31 = some (.ifCond .ge 6, 37, 0, 0) := by decide +kernel
theorem at_262_34 : j_at 262 34 = some (.bipush (-11), 0, 0, -11) := by decide +kernel
theorem at_262_36 : j_at 262 36 = some (.ireturn, 0, 0, 0) := by decide +kernel
theorem at_262_37 : j_at 262 37 = some (.aload_n 0, 0, 0, 0) := by decide +kernel
theorem at_262_38 : j_at 262 38 = some (.getfield 69, 12, 25, 0) := by decide +kernel
theorem at_262_41 : j_at 262 41 = some (.iload_n 1, 0, 0, 0) := by decide +kernel
theorem at_262_42 : j_at 262 42 = some (.iaload, 0, 0, 0) := by decide +kernel
theorem at_262_43 : j_at 262 43 = some (.aload_n 0, 0, 0, 0) := by decide +kernel
theorem at_262_44 : j_at 262 44 = some (.getfield 69, 12, 25, 0) := by decide +kernel
theorem at_262_47 : j_at 262 47 = some (.iload_n 3, 0, 0, 0) := by decide +kernel
theorem at_262_48 : j_at 262 48 = some (.iaload, 0, 0, 0) := by decide +kernel
theorem at_262_49 : j_at 262 49 = some (.if_icmp .eq 6, 55, 0, 0) := by decide +kernel
theorem at_262_52 : j_at 262 52 = some (.bipush (-12), 0, 0, -12) := by decide +kernel
theorem at_262_54 : j_at 262 54 = some (.ireturn, 0, 0, 0) := by decide +kernel
theorem at_262_55 : j_at 262 55 = some (.iload 5, 0, 0, 0) := by decide +kernel
theorem at_262_57 : j_at 262 57 = some (.ifCond .lt 39, 96, 0, 0) := by decide +kernel
theorem at_262_60 : j_at 262 60 = some (.iload_n 2, 0, 0, 0) := by decide +kernel
theorem at_262_61 : j_at 262 61 = some (.ifCond .lt 35, 96, 0, 0) := by decide +kernel
theorem at_262_64 : j_at 262 64 = some (.iload 4, 0, 0, 0) := by decide +kernel
theorem at_262_66 : j_at 262 66 = some (.ifCond .lt 30, 96, 0, 0) := by decide +kernel
theorem at_262_69 : j_at 262 69 = some (.iload_n 2, 0, 0, 0) := by decide +kernel
theorem at_262_70 : j_at 262 70 = some (.aload_n 0, 0, 0, 0) := by decide +kernel
theorem at_262_71 : j_at 262 71 = some (.getfield 72, 12, 26, 0) := by decide +kernel
theorem at_262_74 : j_at 262 74 = some (.iload_n 1, 0, 0, 0) := by decide +kernel
theorem at_262_75 : j_at 262 75 = some (.iaload, 0, 0, 0) := by decide +kernel
theorem at_262_76 : j_at 262 76 = some (.iload 5, 0, 0, 0) := by decide +kernel
theorem at_262_78 : j_at 262 78 = some (.isub, 0, 0, 0) := by decide +kernel
theorem at_262_79 : j_at 262 79 = some (.if_icmp .gt 17, 96, 0, 0) := by decide +kernel
theorem at_262_82 : j_at 262 82 = some (.iload 4, 0, 0, 0) := by decide +kernel
theorem at_262_84 : j_at 262 84 = some (.aload_n 0, 0, 0, 0) := by decide +kernel
theorem at_262_85 : j_at 262 85 = some (.getfield 72, 12, 26, 0) := by decide +kernel
theorem at_262_88 : j_at 262 88 = some (.iload_n 3, 0, 0, 0) := by decide +kernel
theorem at_262_89 : j_at 262 89 = some (.iaload, 0, 0, 0) := by decide +kernel
theorem at_262_90 : j_at 262 90 = some (.iload 5, 0, 0, 0) := by decide +kernel
theorem at_262_92 : j_at 262 92 = some (.isub, 0, 0, 0) := by decide +kernel
theorem at_262_93 : j_at 262 93 = some (.if_icmp .le 6, 99, 0, 0) := by decide +kernel
theorem at_262_96 : j_at 262 96 = some (.bipush (-13), 0, 0, -13) := by decide +kernel
theorem at_262_98 : j_at 262 98 = some (.ireturn, 0, 0, 0) := by decide +kernel
theorem at_262_99 : j_at 262 99 = some (.iconst 0, 0, 0, 0) := by decide +kernel
theorem at_262_100 : j_at 262 100 = some (.istore 6, 0, 0, 0) := by decide +kernel
theorem at_262_102 : j_at 262 102 = some (.iload 6, 0, 0, 0) := by decide +kernel
theorem at_262_104 : j_at 262 104 = some (.iload 5, 0, 0, 0) := by decide +kernel
theorem at_262_106 : j_at 262 106 = some (.if_icmp .ge 30, 136, 0, 0) := by decide +kernel
theorem at_262_109 : j_at 262 109 = some (.aload_n 0, 0, 0, 0) := by decide +kernel
theorem at_262_110 : j_at 262 110 = some (.getfield 78, 12, 28, 0) := by decide +kernel
theorem at_262_113 : j_at 262 113 = some (.iload 6, 0, 0, 0) := by decide +kernel
theorem at_262_115 : j_at 262 115 = some (.aload_n 0, 0, 0, 0) := by decide +kernel
theorem at_262_116 : j_at 262 116 = some (.getfield 75, 12, 27, 0) := by decide +kernel
theorem at_262_119 : j_at 262 119 = some (.bipush 60, 0, 0, 60) := by decide +kernel
theorem at_262_121 : j_at 262 121 = some (.iload_n 1, 0, 0, 0) := by decide +kernel
theorem at_262_122 : j_at 262 122 = some (.imul, 0, 0, 0) := by decide +kernel
theorem at_262_123 : j_at 262 123 = some (.iload_n 2, 0, 0, 0) := by decide +kernel
theorem at_262_124 : j_at 262 124 = some (.iadd, 0, 0, 0) := by decide +kernel
theorem at_262_125 : j_at 262 125 = some (.iload 6, 0, 0, 0) := by decide +kernel
theorem at_262_127 : j_at 262 127 = some (.iadd, 0, 0, 0) := by decide +kernel
theorem at_262_128 : j_at 262 128 = some (.laload, 0, 0, 0) := by decide +kernel
theorem at_262_129 : j_at 262 129 = some (.lastore, 0, 0, 0) := by decide +kernel
theorem at_262_130 : j_at 262 130 = some (.iinc 6 1, 0, 0, 0) := by decide +kernel
theorem at_262_133 : j_at 262 133 = some (.goto (-31), 102, 0, 0) := by decide +kernel
theorem at_262_136 : j_at 262 136 = some (.iconst 0, 0, 0, 0) := by decide +kernel
theorem at_262_137 : j_at 262 137 = some (.istore 6, 0, 0, 0) := by decide +kernel
theorem at_262_139 : j_at 262 139 = some (.iload 6, 0, 0, 0) := by decide +kernel
theorem at_262_141 : j_at 262 141 = some (.iload 5, 0, 0, 0) := by decide +kernel
theorem at_262_143 : j_at 262 143 = some (.if_icmp .ge 31, 174, 0, 0) := by decide +kernel
theorem at_262_146 : j_at 262 146 = some (.aload_n 0, 0, 0, 0) := by decide +kernel
theorem at_262_147 : j_at 262 147 = some (.getfield 75, 12, 27, 0) := by decide +kernel
theorem at_262_150 : j_at 262 150 = some (.bipush 60, 0, 0, 60) := by decide +kernel
theorem at_262_152 : j_at 262 152 = some (.iload_n 3, 0, 0, 0) := by decide +kernel
theorem at_262_153 : j_at 262 153 = some (.imul, 0, 0, 0) := by decide +kernel
theorem at_262_154 : j_at 262 154 = some (.iload 4, 0, 0, 0) := by decide +kernel
theorem at_262_156 : j_at 262 156 = some (.iadd, 0, 0, 0) := by decide +kernel
theorem at_262_157 : j_at 262 157 = some (.iload 6, 0, 0, 0) := by decide +kernel
theorem at_262_159 : j_at 262 159 = some (.iadd, 0, 0, 0) := by decide +kernel
theorem at_262_160 : j_at 262 160 = some (.aload_n 0, 0, 0, 0) := by decide +kernel
theorem at_262_161 : j_at 262 161 = some (.getfield 78, 12, 28, 0) := by decide +kernel
theorem at_262_164 : j_at 262 164 = some (.iload 6, 0, 0, 0) := by decide +kernel
theorem at_262_166 : j_at 262 166 = some (.laload, 0, 0, 0) := by decide +kernel
theorem at_262_167 : j_at 262 167 = some (.lastore, 0, 0, 0) := by decide +kernel
theorem at_262_168 : j_at 262 168 = some (.iinc 6 1, 0, 0, 0) := by decide +kernel
theorem at_262_171 : j_at 262 171 = some (.goto (-32), 139, 0, 0) := by decide +kernel
theorem at_262_174 : j_at 262 174 = some (.iload 5, 0, 0, 0) := by decide +kernel
theorem at_262_176 : j_at 262 176 = some (.ireturn, 0, 0, 0) := by decide +kernel
theorem at_263_0 : j_at 263 0 = some (.iload_n 0, 0, 0, 0) := by decide +kernel
theorem at_263_1 : j_at 263 1 = some (.iload_n 1, 0, 0, 0) := by decide +kernel
theorem at_263_2 : j_at 263 2 = some (.idiv, 0, 0, 0) := by decide +kernel
theorem at_263_3 : j_at 263 3 = some (.istore_n 2, 0, 0, 0) := by decide +kernel
theorem at_263_4 : j_at 263 4 = some (.iload_n 0, 0, 0, 0) := by decide +kernel
theorem at_263_5 : j_at 263 5 = some (.iload_n 1, 0, 0, 0) := by decide +kernel
theorem at_263_6 : j_at 263 6 = some (.ixor, 0, 0, 0) := by decide +kernel
theorem at_263_7 : j_at 263 7 = some (.ifCond .ge 14, 21, 0, 0) := by decide +kernel
theorem at_263_10 : j_at 263 10 = some (.iload_n 2, 0, 0, 0) := by decide +kernel
theorem at_263_11 : j_at 263 11 = some (.iload_n 1, 0, 0, 0) := by decide +kernel
theorem at_263_12 : j_at 263 12 = some (.imul, 0, 0, 0) := by decide +kernel
theorem at_263_13 : j_at 263 13 = some (.iload_n 0, 0, 0, 0) := by decide +kernel
theorem at_263_14 : j_at 263 14 = some (.if_icmp .eq 7, 21, 0, 0) := by decide +kernel
theorem at_263_17 : j_at 263 17 = some (.iload_n 2, 0, 0, 0) := by decide +kernel
theorem at_263_18 : j_at 263 18 = some (.iconst 1, 0, 0, 1) := by decide +kernel
theorem at_263_19 : j_at 263 19 = some (.isub, 0, 0, 0) := by decide +kernel
theorem at_263_20 : j_at 263 20 = some (.ireturn, 0, 0, 0) := by decide +kernel
theorem at_263_21 : j_at 263 21 = some (.iload_n 2, 0, 0, 0) := by decide +kernel
theorem at_263_22 : j_at 263 22 = some (.ireturn, 0, 0, 0) := by decide +kernel
theorem at_264_0 : j_at 264 0 = some (.lload_n 0, 0, 0, 0) := by decide +kernel
theorem at_264_1 : j_at 264 1 = some (.iload_n 2, 0, 0, 0) := by decide +kernel
theorem at_264_2 : j_at 264 2 = some (.i2l, 0, 0, 0) := by decide +kernel
theorem at_264_3 : j_at 264 3 = some (.invokestatic 143, 265, 2, 0) := by decide +kernel
theorem at_264_6 : j_at 264 6 = some (.lreturn, 0, 0, 0) := by decide +kernel
theorem at_265_0 : j_at 265 0 = some (.lload_n 0, 0, 0, 0) := by decide +kernel
theorem at_265_1 : j_at 265 1 = some (.lload_n 2, 0, 0, 0) := by decide +kernel
theorem at_265_2 : j_at 265 2 = some (.ldiv, 0, 0, 0) := by decide +kernel
theorem at_265_3 : j_at 265 3 = some (.lstore 4, 0, 0, 0) := by decide +kernel
theorem at_265_5 : j_at 265 5 = some (.lload_n 0, 0, 0, 0) := by decide +kernel
theorem at_265_6 : j_at 265 6 = some (.lload_n 2, 0, 0, 0) := by decide +kernel
theorem at_265_7 : j_at 265 7 = some (.lxor, 0, 0, 0) := by decide +kernel
theorem at_265_8 : j_at 265 8 = some (.lconst 0, 0, 0, 0) := by decide +kernel
theorem at_265_9 : j_at 265 9 = some (.lcmp, 0, 0, 0) := by decide +kernel
theorem at_265_10 : j_at 265 10 = some (.ifCond .ge 17, 27, 0, 0) := by decide +kernel
theorem at_265_13 : j_at 265 13 = some (.lload 4, 0, 0, 0) := by decide +kernel
theorem at_265_15 : j_at 265 15 = some (.lload_n 2, 0, 0, 0) := by decide +kernel
theorem at_265_16 : j_at 265 16 = some (.lmul, 0, 0, 0) := by decide +kernel
theorem at_265_17 : j_at 265 17 = some (.lload_n 0, 0, 0, 0) := by decide +kernel
theorem at_265_18 : j_at 265 18 = some (.lcmp, 0, 0, 0) := by decide +kernel
theorem at_265_19 : j_at 265 19 = some (.ifCond .eq 8, 27, 0, 0) := by decide +kernel
theorem at_265_22 : j_at 265 22 = some (.lload 4, 0, 0, 0) := by decide +kernel
theorem at_265_24 : j_at 265 24 = some (.lconst 1, 0, 0, 1) := by decide +kernel
theorem at_265_25 : j_at 265 25 = some (.lsub, 0, 0, 0) := by decide +kernel
theorem at_265_26 : j_at 265 26 = some (.lreturn, 0, 0, 0) := by decide +kernel
theorem at_265_27 : j_at 265 27 = some (.lload 4, 0, 0, 0) := by decide +kernel
theorem at_265_29 : j_at 265 29 = some (.lreturn, 0, 0, 0) := by decide +kernel
theorem at_266_0 : j_at 266 0 = some (.lload_n 0, 0, 0, 0) := by decide +kernel
theorem at_266_1 : j_at 266 1 = some (.lload_n 2, 0, 0, 0) := by decide +kernel
theorem at_266_2 : j_at 266 2 = some (.lrem, 0, 0, 0) := by decide +kernel
theorem at_266_3 : j_at 266 3 = some (.lstore 4, 0, 0, 0) := by decide +kernel
theorem at_266_5 : j_at 266 5 = some (.lload_n 0, 0, 0, 0) := by decide +kernel
theorem at_266_6 : j_at 266 6 = some (.lload_n 2, 0, 0, 0) := by decide +kernel
theorem at_266_7 : j_at 266 7 = some (.lxor, 0, 0, 0) := by decide +kernel
theorem at_266_8 : j_at 266 8 = some (.lconst 0, 0, 0, 0) := by decide +kernel
theorem at_266_9 : j_at 266 9 = some (.lcmp, 0, 0, 0) := by decide +kernel
theorem at_266_10 : j_at 266 10 = some (.ifCond .ge 15, 25, 0, 0) := by decide +kernel
theorem at_266_13 : j_at 266 13 = some (.lload 4, 0, 0, 0) := by decide +kernel
theorem at_266_15 : j_at 266 15 = some (.lconst 0, 0, 0, 0) := by decide +kernel
theorem at_266_16 : j_at 266 16 = some (.lcmp, 0, 0, 0) := by decide +kernel
theorem at_266_17 : j_at 266 17 = some (.ifCond .eq 8, 25, 0, 0) := by decide +kernel
theorem at_266_20 : j_at 266 20 = some (.lload 4, 0, 0, 0) := by decide +kernel
theorem at_266_22 : j_at 266 22 = some (.lload_n 2, 0, 0, 0) := by decide +kernel
theorem at_266_23 : j_at 266 23 = some (.ladd, 0, 0, 0) := by decide +kernel
theorem at_266_24 : j_at 266 24 = some (.lreturn, 0, 0, 0) := by decide +kernel
theorem at_266_25 : j_at 266 25 = some (.lload 4, 0, 0, 0) := by decide +kernel
theorem at_266_27 : j_at 266 27 = some (.lreturn, 0, 0, 0) := by decide +kernel
theorem at_267_0 : j_at 267 0 = some (.lload_n 0, 0, 0, 0) := by decide +kernel
theorem at_267_1 : j_at 267 1 = some (.lconst 0, 0, 0, 0) := by decide +kernel
theorem at_267_2 : j_at 267 2 = some (.lcmp, 0, 0, 0) := by decide +kernel
theorem at_267_3 : j_at 267 3 = some (.ifCond .ge 8, 11, 0, 0) := by decide +kernel
theorem at_267_6 : j_at 267 6 = some (.lload_n 0, 0, 0, 0) := by decide +kernel
theorem at_267_7 : j_at 267 7 = some (.lneg, 0, 0, 0) := by decide +kernel
theorem at_267_8 : j_at 267 8 = some (.goto 4, 12, 0, 0) := by decide +kernel
theorem at_267_11 : j_at 267 11 = some (.lload_n 0, 0, 0, 0) := by decide +kernel
theorem at_267_12 : j_at 267 12 = some (.lreturn, 0, 0, 0) := by decide +kernel
theorem at_268_0 : j_at 268 0 = some (.iload_n 0, 0, 0, 0) := by decide +kernel
theorem at_268_1 : j_at 268 1 = some (.iload_n 1, 0, 0, 0) := by decide +kernel
theorem at_268_2 : j_at 268 2 = some (.if_icmp .gt 7, 9, 0, 0) := by decide +kernel
theorem at_268_5 : j_at 268 5 = some (.iload_n 0, 0, 0, 0) := by decide +kernel
theorem at_268_6 : j_at 268 6 = some (.goto 4, 10, 0, 0) := by decide +kernel
theorem at_268_9 : j_at 268 9 = some (.iload_n 1, 0, 0, 0) := by decide +kernel
theorem at_268_10 : j_at 268 10 = some (.ireturn, 0, 0, 0) := by decide +kernel
theorem at_269_0 : j_at 269 0 = some (.iconst 0, 0, 0, 0) := by decide +kernel
theorem at_269_1 : j_at 269 1 = some (.istore_n 3, 0, 0, 0) := by decide +kernel
theorem at_269_2 : j_at 269 2 = some (.aload_n 0, 0, 0, 0) := by decide +kernel
theorem at_269_3 : j_at 269 3 = some (.arraylength, 0, 0, 0) := by decide +kernel
theorem at_269_4 : j_at 269 4 = some (.istore 4, 0, 0, 0) := by decide +kernel
theorem at_269_6 : j_at 269 6 = some (.iload_n 3, 0, 0, 0) := by decide +kernel
theorem at_269_7 : j_at 269 7 = some (.iload 4, 0, 0, 0) := by decide +kernel
theorem at_269_9 : j_at 269 9 = some (.if_icmp .ge 13, 22, 0, 0) := by decide +kernel
theorem at_269_12 : j_at 269 12 = some (.aload_n 0, 0, 0, 0) := by decide +kernel
theorem at_269_13 : j_at 269 13 = some (.iload_n 3, 0, 0, 0) := by decide +kernel
theorem at_269_14 : j_at 269 14 = some (.lload_n 1, 0, 0, 0) := by decide +kernel
theorem at_269_15 : j_at 269 15 = some (.lastore, 0, 0, 0) := by decide +kernel
theorem at_269_16 : j_at 269 16 = some (.iinc 3 1, 0, 0, 0) := by decide +kernel
theorem at_269_19 : j_at 269 19 = some (.goto (-13), 6, 0, 0) := by decide +kernel
theorem at_269_22 : j_at 269 22 = some (.return_, 0, 0, 0) := by decide +kernel
theorem at_270_0 : j_at 270 0 = some (.iconst 0, 0, 0, 0) := by decide +kernel
theorem at_270_1 : j_at 270 1 = some (.istore_n 2, 0, 0, 0) := by decide +kernel
theorem at_270_2 : j_at 270 2 = some (.aload_n 0, 0, 0, 0) := by decide +kernel
theorem at_270_3 : j_at 270 3 = some (.arraylength, 0, 0, 0) := by decide +kernel
theorem at_270_4 : j_at 270 4 = some (.istore_n 3, 0, 0, 0) := by decide +kernel
theorem at_270_5 : j_at 270 5 = some (.iload_n 2, 0, 0, 0) := by decide +kernel
theorem at_270_6 : j_at 270 6 = some (.iload_n 3, 0, 0, 0) := by decide +kernel
theorem at_270_7 : j_at 270 7 = some (.if_icmp .ge 13, 20, 0, 0) := by decide +kernel
theorem at_270_10 : j_at 270 10 = some (.aload_n 0, 0, 0, 0) := by decide +kernel
theorem at_270_11 : j_at 270 11 = some (.iload_n 2, 0, 0, 0) := by decide +kernel
theorem at_270_12 : j_at 270 12 = some (.iload_n 1, 0, 0, 0) := by decide +kernel
theorem at_270_13 : j_at 270 13 = some (.iastore, 0, 0, 0) := by decide +kernel
theorem at_270_14 : j_at 270 14 = some (.iinc 2 1, 0, 0, 0) := by decide +kernel
theorem at_270_17 : j_at 270 17 = some (.goto (-12), 5, 0, 0) := by decide +kernel
theorem at_270_20 : j_at 270 20 = some (.return_, 0, 0, 0) := by decide +kernel
theorem at_271_0 : j_at 271 0 = some (.new 7, 10, 0, 0) := by decide +kernel
theorem at_271_3 : j_at 271 3 = some (.dup, 0, 0, 0) := by decide +kernel
theorem at_271_4 : j_at 271 4 = some (.invokespecial 9, 87, 0, 0) := by decide +kernel
theorem at_271_7 : j_at 271 7 = some (.astore_n 1, 0, 0, 0) := by decide +kernel
theorem at_271_8 : j_at 271 8 = some (.new 10, 12, 0, 0) := by decide +kernel
theorem at_271_11 : j_at 271 11 = some (.dup, 0, 0, 0) := by decide +kernel
theorem at_271_12 : j_at 271 12 = some (.invokespecial 12, 148, 0, 0) := by decide +kernel
theorem at_271_15 : j_at 271 15 = some (.astore_n 2, 0, 0, 0) := by decide +kernel
theorem at_271_16 : j_at 271 16 = some (.iconst 0, 0, 0, 0) := by decide +kernel
theorem at_271_17 : j_at 271 17 = some (.istore_n 3, 0, 0, 0) := by decide +kernel
theorem at_271_18 : j_at 271 18 = some (.iload_n 3, 0, 0, 0) := by decide +kernel
theorem at_271_19 : j_at 271 19 = some (.aload_n 0, 0, 0, 0) := by decide +kernel
theorem at_271_20 : j_at 271 20 = some (.arraylength, 0, 0, 0) := by decide +kernel
theorem at_271_21 : j_at 271 21 = some (.bipush 6, 0, 0, 6) := by decide +kernel
theorem at_271_23 : j_at 271 23 = some (.isub, 0, 0, 0) := by decide +kernel
theorem at_271_24 : j_at 271 24 = some (.if_icmp .gt 1619, 1643, 0, 0) := by decide +kernel
theorem at_271_27 : j_at 271 27 = some (.aload_n 0, 0, 0, 0) := by decide +kernel
theorem at_271_28 : j_at 271 28 = some (.iload_n 3, 0, 0, 0) := by decide +kernel
theorem at_271_29 : j_at 271 29 = some (.iaload, 0, 0, 0) := by decide +kernel
theorem at_271_30 : j_at 271 30 = some (.bipush 63, 0, 0, 63) := by decide +kernel
theorem at_271_32 : j_at 271 32 = some (.iand, 0, 0, 0) := by decide +kernel
theorem at_271_33 : j_at 271 33 = some (.tableswitch 1604 0 46 #[203, 226, 259, 292, 335, 368, 381, 404, 417, 450, 473, 507, 541, 565, 599, 633, 677, 700, 733, 756, 780, 793, 816, 839, 862, 885, 908, 931, 964, 997, 1030, 1094, 1118, 1151, 1184, 1217, 1240, 1253, 1296, 1309, 1342, 1355, 1368, 1391, 1434, 1507, 1541], 0, 0, 0) := by decide +kernel
theorem at_271_236 : j_at 271 236 = some (.aload_n 1, 0, 0, 0) := by decide +kernel
theorem at_271_237 : j_at 271 237 = some (.aload_n 0, 0, 0, 0) := by decide +kernel
theorem at_271_238 : j_at 271 238 = some (.iload_n 3, 0, 0, 0) := by decide +kernel
theorem at_271_239 : j_at 271 239 = some (.iconst 1, 0, 0, 1) := by decide +kernel
theorem at_271_240 : j_at 271 240 = some (.iadd, 0, 0, 0) := by decide +kernel
theorem at_271_241 : j_at 271 241 = some (.iaload, 0, 0, 0) := by decide +kernel
theorem at_271_242 : j_at 271 242 = some (.invokevirtual 13, 88, 1, 0) := by decide +kernel
theorem at_271_245 : j_at 271 245 = some (.aload_n 2, 0, 0, 0) := by decide +kernel
theorem at_271_246 : j_at 271 246 = some (.aload_n 0, 0, 0, 0) := by decide +kernel
theorem at_271_247 : j_at 271 247 = some (.iload_n 3, 0, 0, 0) := by decide +kernel
theorem at_271_248 : j_at 271 248 = some (.iconst 1, 0, 0, 1) := by decide +kernel
theorem at_271_249 : j_at 271 249 = some (.iadd, 0, 0, 0) := by decide +kernel
theorem at_271_250 : j_at 271 250 = some (.iaload, 0, 0, 0) := by decide +kernel
theorem at_271_251 : j_at 271 251 = some (.invokevirtual 17, 159, 1, 0) := by decide +kernel
theorem at_271_254 : j_at 271 254 = some (.if_icmp .eq 1383, 1637, 0, 0) := by decide +kernel
theorem at_271_257 : j_at 271 257 = some (.iconst 0, 0, 0, 0) := by decide +kernel
theorem at_271_258 : j_at 271 258 = some (.ireturn, 0, 0, 0) := by decide +kernel
theorem at_271_259 : j_at 271 259 = some (.aload_n 1, 0, 0, 0) := by decide +kernel
theorem at_271_260 : j_at 271 260 = some (.aload_n 0, 0, 0, 0) := by decide +kernel
theorem at_271_261 : j_at 271 261 = some (.iload_n 3, 0, 0, 0) := by decide +kernel
theorem at_271_262 : j_at 271 262 = some (.iconst 1, 0, 0, 1) := by decide +kernel
theorem at_271_263 : j_at 271 263 = some (.iadd, 0, 0, 0) := by decide +kernel
theorem at_271_264 : j_at 271 264 = some (.iaload, 0, 0, 0) := by decide +kernel
theorem at_271_265 : j_at 271 265 = some (.aload_n 0, 0, 0, 0) := by decide +kernel
theorem at_271_266 : j_at 271 266 = some (.iload_n 3, 0, 0, 0) := by decide +kernel
theorem at_271_267 : j_at 271 267 = some (.iconst 2, 0, 0, 2) := by decide +kernel
theorem at_271_268 : j_at 271 268 = some (.iadd, 0, 0, 0) := by decide +kernel
theorem at_271_269 : j_at 271 269 = some (.iaload, 0, 0, 0) := by decide +kernel
theorem at_271_270 : j_at 271 270 = some (.invokevirtual 18, 89, 2, 0) := by decide +kernel
theorem at_271_273 : j_at 271 273 = some (.aload_n 2, 0, 0, 0) := by decide +kernel
theorem at_271_274 : j_at 271 274 = some (.aload_n 0, 0, 0, 0) := by decide +kernel
theorem at_271_275 : j_at 271 275 = some (.iload_n 3, 0, 0, 0) := by decide +kernel
theorem at_271_276 : j_at 271 276 = some (.iconst 1, 0, 0, 1) := by decide +kernel
theorem at_271_277 : j_at 271 277 = some (.iadd, 0, 0, 0) := by decide +kernel
theorem at_271_278 : j_at 271 278 = some (.iaload, 0, 0, 0) := by decide +kernel
theorem at_271_279 : j_at 271 279 = some (.aload_n 0, 0, 0, 0) := by decide +kernel
theorem at_271_280 : j_at 271 280 = some (.iload_n 3, 0, 0, 0) := by decide +kernel
theorem at_271_281 : j_at 271 281 = some (.iconst 2, 0, 0, 2) := by decide +kernel
theorem at_271_282 : j_at 271 282 = some (.iadd, 0, 0, 0) := by decide +kernel
theorem at_271_283 : j_at 271 283 = some (.iaload, 0, 0, 0) := by decide +kernel
theorem at_271_284 : j_at 271 284 = some (.invokevirtual 22, 160, 2, 0) := by decide +kernel
theorem at_271_287 : j_at 271 287 = some (.if_icmp .eq 1350, 1637, 0, 0) := by decide +kernel
theorem at_271_290 : j_at 271 290 = some (.iconst 0, 0, 0, 0) := by decide +kernel
theorem at_271_291 : j_at 271 291 = some (.ireturn, 0, 0, 0) := by decide +kernel
theorem at_271_292 : j_at 271 292 = some (.aload_n 1, 0, 0, 0) := by decide +kernel
theorem at_271_293 : j_at 271 293 = some (.aload_n 0, 0, 0, 0) := by decide +kernel
theorem at_271_294 : j_at 271 294 = some (.iload_n 3, 0, 0, 0) := by decide +kernel
theorem at_271_295 : j_at 271 295 = some (.iconst 1, 0, 0, 1) := by decide +kernel
theorem at_271_296 : j_at 271 296 = some (.iadd, 0, 0, 0) := by decide +kernel
theorem at_271_297 : j_at 271 297 = some (.iaload, 0, 0, 0) := by decide +kernel
theorem at_271_298 : j_at 271 298 = some (.aload_n 0, 0, 0, 0) := by decide +kernel
theorem at_271_299 : j_at 271 299 = some (.iload_n 3, 0, 0, 0) := by decide +kernel
theorem at_271_300 : j_at 271 300 = some (.iconst 2, 0, 0, 2) := by decide +kernel
theorem at_271_301 : j_at 271 301 = some (.iadd, 0, 0, 0) := by decide +kernel
theorem at_271_302 : j_at 271 302 = some (.iaload, 0, 0, 0) := by decide +kernel
theorem at_271_303 : j_at 271 303 = some (.invokevirtual 23, 90, 2, 0) := by decide +kernel
theorem at_271_306 : j_at 271 306 = some (.aload_n 2, 0, 0, 0) := by decide +kernel
theorem at_271_307 : j_at 271 307 = some (.aload_n 0, 0, 0, 0) := by decide +kernel
theorem at_271_308 : j_at 271 308 = some (.iload_n 3, 0, 0, 0) := by decide +kernel
theorem at_271_309 : j_at 271 309 = some (.iconst 1, 0, 0, 1) := by decide +kernel
theorem at_271_310 : j_at 271 310 = some (.iadd, 0, 0, 0) := by decide +kernel
theorem at_271_311 : j_at 271 311 = some (.iaload, 0, 0, 0) := by decide +kernel
theorem at_271_312 : j_at 271 312 = some (.aload_n 0, 0, 0, 0) := by decide +kernel
theorem at_271_313 : j_at 271 313 = some (.iload_n 3, 0, 0, 0) := by decide +kernel
theorem at_271_314 : j_at 271 314 = some (.iconst 2, 0, 0, 2) := by decide +kernel
theorem at_271_315 : j_at 271 315 = some (.iadd, 0, 0, 0) := by decide +kernel
theorem at_271_316 : j_at 271 316 = some (.iaload, 0, 0, 0) := by decide +kernel
theorem at_271_317 : j_at 271 317 = some (.invokevirtual 26, 162, 2, 0) := by decide +kernel
theorem at_271_320 : j_at 271 320 = some (.if_icmp .eq 1317, 1637, 0, 0) := by decide +kernel
theorem at_271_323 : j_at 271 323 = some (.iconst 0, 0, 0, 0) := by decide +kernel
theorem at_271_324 : j_at 271 324 = some (.ireturn, 0, 0, 0) := by decide +kernel
theorem at_271_325 : j_at 271 325 = some (.aload_n 1, 0, 0, 0) := by decide +kernel
theorem at_271_326 : j_at 271 326 = some (.aload_n 0, 0, 0, 0) := by decide +kernel
theorem at_271_327 : j_at 271 327 = some (.iload_n 3, 0, 0, 0) := by decide +kernel
theorem at_271_328 : j_at 271 328 = some (.iconst 1, 0, 0, 1) := by decide +kernel
theorem at_271_329 : j_at 271 329 = some (.iadd, 0, 0, 0) := by decide +kernel
theorem at_271_330 : j_at 271 330 = some (.iaload, 0, 0, 0) := by decide +kernel
theorem at_271_331 : j_at 271 331 = some (.aload_n 0, 0, 0, 0) := by decide +kernel
theorem at_271_332 : j_at 271 332 = some (.iload_n 3, 0, 0, 0) := by decide +kernel
theorem at_271_333 : j_at 271 333 = some (.iconst 2, 0, 0, 2) := by decide +kernel
theorem at_271_334 : j_at 271 334 = some (.iadd, 0, 0, 0) := by decide +kernel
theorem at_271_335 : j_at 271 335 = some (.iaload, 0, 0, 0) := by decide +kernel
theorem at_271_336 : j_at 271 336 = some (.aload_n 0, 0, 0, 0) := by decide +kernel
theorem at_271_337 : j_at 271 337 = some (.iload_n 3, 0, 0, 0) := by decide +kernel
theorem at_271_338 : j_at 271 338 = some (.iconst 3, 0, 0, 3) := by decide +kernel
theorem at_271_339 : j_at 271 339 = some (.iadd, 0, 0, 0) := by decide +kernel
theorem at_271_340 : j_at 271 340 = some (.iaload, 0, 0, 0) := by decide +kernel
theorem at_271_341 : j_at 271 341 = some (.invokevirtual 27, 91, 3, 0) := by decide +kernel
theorem at_271_344 : j_at 271 344 = some (.aload_n 2, 0, 0, 0) := by decide +kernel
theorem at_271_345 : j_at 271 345 = some (.aload_n 0, 0, 0, 0) := by decide +kernel
theorem at_271_346 : j_at 271 346 = some (.iload_n 3, 0, 0, 0) := by decide +kernel
theorem at_271_347 : j_at 271 347 = some (.iconst 1, 0, 0, 1) := by decide +kernel
theorem at_271_348 : j_at 271 348 = some (.iadd, 0, 0, 0) := by decide +kernel
theorem at_271_349 : j_at 271 349 = some (.iaload, 0, 0, 0) := by decide +kernel
theorem at_271_350 : j_at 271 350 = some (.aload_n 0, 0, 0, 0) := by decide +kernel
theorem at_271_351 : j_at 271 351 = some (.iload_n 3, 0, 0, 0) := by decide +kernel
theorem at_271_352 : j_at 271 352 = some (.iconst 2, 0, 0, 2) := by decide +kernel
theorem at_271_353 : j_at 271 353 = some (.iadd, 0, 0, 0) := by decide +kernel
theorem at_271_354 : j_at 271 354 = some (.iaload, 0, 0, 0) := by decide +kernel
theorem at_271_355 : j_at 271 355 = some (.aload_n 0, 0, 0, 0) := by decide +kernel
theorem at_271_356 : j_at 271 356 = some (.iload_n 3, 0, 0, 0) := by decide +kernel
theorem at_271_357 : j_at 271 357 = some (.iconst 3, 0, 0, 3) := by decide +kernel
theorem at_271_358 : j_at 271 358 = some (.iadd, 0, 0, 0) := by decide +kernel
theorem at_271_359 : j_at 271 359 = some (.iaload, 0, 0, 0) := by decide +kernel
theorem at_271_360 : j_at 271 360 = some (.invokevirtual 31, 163, 3, 0) := by decide +kernel
theorem at_271_363 : j_at 271 363 = some (.if_icmp .eq 1274, 1637, 0, 0) := by decide +kernel
theorem at_271_366 : j_at 271 366 = some (.iconst 0, 0, 0, 0) := by decide +kernel
theorem at_271_367 : j_at 271 367 = some (.ireturn, 0, 0, 0) := by decide +kernel
theorem at_271_368 : j_at 271 368 = some (.aload_n 1, 0, 0, 0) := by decide +kernel
theorem at_271_369 : j_at 271 369 = some (.aload_n 0, 0, 0, 0) := by decide +kernel
theorem at_271_370 : j_at 271 370 = some (.iload_n 3, 0, 0, 0) := by decide +kernel
theorem at_271_371 : j_at 271 371 = some (.iconst 1, 0, 0, 1) := by decide +kernel
theorem at_271_372 : j_at 271 372 = some (.iadd, 0, 0, 0) := by decide +kernel
theorem at_271_373 : j_at 271 373 = some (.iaload, 0, 0, 0) := by decide +kernel
theorem at_271_374 : j_at 271 374 = some (.aload_n 0, 0, 0, 0) := by decide +kernel
theorem at_271_375 : j_at 271 375 = some (.iload_n 3, 0, 0, 0) := by decide +kernel
theorem at_271_376 : j_at 271 376 = some (.iconst 2, 0, 0, 2) := by decide +kernel
theorem at_271_377 : j_at 271 377 = some (.iadd, 0, 0, 0) := by decide +kernel
theorem at_271_378 : j_at 271 378 = some (.iaload, 0, 0, 0) := by decide +kernel
theorem at_271_379 : j_at 271 379 = some (.invokevirtual 32, 92, 2, 0) := by decide +kernel
theorem at_271_382 : j_at 271 382 = some (.aload_n 2, 0, 0, 0) := by decide +kernel
theorem at_271_383 : j_at 271 383 = some (.aload_n 0, 0, 0, 0) := by decide +kernel
theorem at_271_384 : j_at 271 384 = some (.iload_n 3, 0, 0, 0) := by decide +kernel
theorem at_271_385 : j_at 271 385 = some (.iconst 1, 0, 0, 1) := by decide +kernel
theorem at_271_386 : j_at 271 386 = some (.iadd, 0, 0, 0) := by decide +kernel
theorem at_271_387 : j_at 271 387 = some (.iaload, 0, 0, 0) := by decide +kernel
theorem at_271_388 : j_at 271 388 = some (.aload_n 0, 0, 0, 0) := by decide +kernel
theorem at_271_389 : j_at 271 389 = some (.iload_n 3, 0, 0, 0) := by decide +kernel
theorem at_271_390 : j_at 271 390 = some (.iconst 2, 0, 0, 2) := by decide +kernel
theorem at_271_391 : j_at 271 391 = some (.iadd, 0, 0, 0) := by decide +kernel
theorem at_271_392 : j_at 271 392 = some (.iaload, 0, 0, 0) := by decide +kernel
theorem at_271_393 : j_at 271 393 = some (.invokevirtual 35, 164, 2, 0) := by decide +kernel
theorem at_271_396 : j_at 271 396 = some (.if_icmp .eq 1241, 1637, 0, 0) := by decide +kernel
theorem at_271_399 : j_at 271 399 = some (.iconst 0, 0, 0, 0) := by decide +kernel
theorem at_271_400 : j_at 271 400 = some (.ireturn, 0, 0, 0) := by decide +kernel
theorem at_271_401 : j_at 271 401 = some (.aload_n 1, 0, 0, 0) := by decide +kernel
theorem at_271_402 : j_at 271 402 = some (.invokevirtual 36, 93, 0, 0) := by decide +kernel
theorem at_271_405 : j_at 271 405 = some (.aload_n 2, 0, 0, 0) := by decide +kernel
theorem at_271_406 : j_at 271 406 = some (.invokevirtual 40, 165, 0, 0) := by decide +kernel
theorem at_271_409 : j_at 271 409 = some (.if_icmp .eq 1228, 1637, 0, 0) := by decide +kernel
theorem at_271_412 : j_at 271 412 = some (.iconst 0, 0, 0, 0) := by decide +kernel
theorem at_271_413 : j_at 271 413 = some (.ireturn, 0, 0, 0) := by decide +kernel
theorem at_271_414 : j_at 271 414 = some (.aload_n 1, 0, 0, 0) := by decide +kernel
theorem at_271_415 : j_at 271 415 = some (.aload_n 0, 0, 0, 0) := by decide +kernel
theorem at_271_416 : j_at 271 416 = some (.iload_n 3, 0, 0, 0) := by decide +kernel
theorem at_271_417 : j_at 271 417 = some (.iconst 1, 0, 0, 1) := by decide +kernel
theorem at_271_418 : j_at 271 418 = some (.iadd, 0, 0, 0) := by decide +kernel
theorem at_271_419 : j_at 271 419 = some (.iaload, 0, 0, 0) := by decide +kernel
theorem at_271_420 : j_at 271 420 = some (.invokevirtual 41, 94, 1, 0) := by decide +kernel
theorem at_271_423 : j_at 271 423 = some (.aload_n 2, 0, 0, 0) := by decide +kernel
theorem at_271_424 : j_at 271 424 = some (.aload_n 0, 0, 0, 0) := by decide +kernel
theorem at_271_425 : j_at 271 425 = some (.iload_n 3, 0, 0, 0) := by decide +kernel
theorem at_271_426 : j_at 271 426 = some (.iconst 1, 0, 0, 1) := by decide +kernel
theorem at_271_427 : j_at 271 427 = some (.iadd, 0, 0, 0) := by decide +kernel
theorem at_271_428 : j_at 271 428 = some (.iaload, 0, 0, 0) := by decide +kernel
theorem at_271_429 : j_at 271 429 = some (.invokevirtual 44, 167, 1, 0) := by decide +kernel
theorem at_271_432 : j_at 271 432 = some (.if_icmp .eq 1205, 1637, 0, 0) := by decide +kernel
theorem at_271_435 : j_at 271 435 = some (.iconst 0, 0, 0, 0) := by decide +kernel
theorem at_271_436 : j_at 271 436 = some (.ireturn, 0, 0, 0) := by decide +kernel
theorem at_271_437 : j_at 271 437 = some (.aload_n 1, 0, 0, 0) := by decide +kernel
theorem at_271_438 : j_at 271 438 = some (.invokevirtual 45, 95, 0, 0) := by decide +kernel
theorem at_271_441 : j_at 271 441 = some (.aload_n 2, 0, 0, 0) := by decide +kernel
theorem at_271_442 : j_at 271 442 = some (.invokevirtual 48, 176, 0, 0) := by decide +kernel
theorem at_271_445 : j_at 271 445 = some (.if_icmp .eq 1192, 1637, 0, 0) := by decide +kernel
theorem at_271_448 : j_at 271 448 = some (.iconst 0, 0, 0, 0) := by decide +kernel
theorem at_271_449 : j_at 271 449 = some (.ireturn, 0, 0, 0) := by decide +kernel
theorem at_271_450 : j_at 271 450 = some (.aload_n 1, 0, 0, 0) := by decide +kernel
theorem at_271_451 : j_at 271 451 = some (.aload_n 0, 0, 0, 0) := by decide +kernel
theorem at_271_452 : j_at 271 452 = some (.iload_n 3, 0, 0, 0) := by decide +kernel
theorem at_271_453 : j_at 271 453 = some (.iconst 1, 0, 0, 1) := by decide +kernel
theorem at_271_454 : j_at 271 454 = some (.iadd, 0, 0, 0) := by decide +kernel
theorem at_271_455 : j_at 271 455 = some (.iaload, 0, 0, 0) := by decide +kernel
theorem at_271_456 : j_at 271 456 = some (.aload_n 0, 0, 0, 0) := by decide +kernel
theorem at_271_457 : j_at 271 457 = some (.iload_n 3, 0, 0, 0) := by decide +kernel
theorem at_271_458 : j_at 271 458 = some (.iconst 2, 0, 0, 2) := by decide +kernel
theorem at_271_459 : j_at 271 459 = some (.iadd, 0, 0, 0) := by decide +kernel
theorem at_271_460 : j_at 271 460 = some (.iaload, 0, 0, 0) := by decide +kernel
theorem at_271_461 : j_at 271 461 = some (.invokevirtual 49, 96, 2, 0) := by decide +kernel
theorem at_271_464 : j_at 271 464 = some (.aload_n 2, 0, 0, 0) := by decide +kernel
theorem at_271_465 : j_at 271 465 = some (.aload_n 0, 0, 0, 0) := by decide +kernel
theorem at_271_466 : j_at 271 466 = some (.iload_n 3, 0, 0, 0) := by decide +kernel
theorem at_271_467 : j_at 271 467 = some (.iconst 1, 0, 0, 1) := by decide +kernel
theorem at_271_468 : j_at 271 468 = some (.iadd, 0, 0, 0) := by decide +kernel
theorem at_271_469 : j_at 271 469 = some (.iaload, 0, 0, 0) := by decide +kernel
theorem at_271_470 : j_at 271 470 = some (.aload_n 0, 0, 0, 0) := by decide +kernel
theorem at_271_471 : j_at 271 471 = some (.iload_n 3, 0, 0, 0) := by decide +kernel
theorem at_271_472 : j_at 271 472 = some (.iconst 2, 0, 0, 2) := by decide +kernel
theorem at_271_473 : j_at 271 473 = some (.iadd, 0, 0, 0) := by decide +kernel
theorem at_271_474 : j_at 271 474 = some (.iaload, 0, 0, 0) := by decide +kernel
theorem at_271_475 : j_at 271 475 = some (.invokevirtual 52, 166, 2, 0) := by decide +kernel
theorem at_271_478 : j_at 271 478 = some (.if_icmp .eq 1159, 1637, 0, 0) := by decide +kernel
theorem at_271_481 : j_at 271 481 = some (.iconst 0, 0, 0, 0) := by decide +kernel
theorem at_271_482 : j_at 271 482 = some (.ireturn, 0, 0, 0) := by decide +kernel
theorem at_271_483 : j_at 271 483 = some (.aload_n 1, 0, 0, 0) := by decide +kernel
theorem at_271_484 : j_at 271 484 = some (.aload_n 0, 0, 0, 0) := by decide +kernel
theorem at_271_485 : j_at 271 485 = some (.iload_n 3, 0, 0, 0) := by decide +kernel
theorem at_271_486 : j_at 271 486 = some (.iconst 1, 0, 0, 1) := by decide +kernel
theorem at_271_487 : j_at 271 487 = some (.iadd, 0, 0, 0) := by decide +kernel
theorem at_271_488 : j_at 271 488 = some (.iaload, 0, 0, 0) := by decide +kernel
theorem at_271_489 : j_at 271 489 = some (.invokevirtual 53, 97, 1, 0) := by decide +kernel
theorem at_271_492 : j_at 271 492 = some (.aload_n 2, 0, 0, 0) := by decide +kernel
theorem at_271_493 : j_at 271 493 = some (.aload_n 0, 0, 0, 0) := by decide +kernel
theorem at_271_494 : j_at 271 494 = some (.iload_n 3, 0, 0, 0) := by decide +kernel
theorem at_271_495 : j_at 271 495 = some (.iconst 1, 0, 0, 1) := by decide +kernel
theorem at_271_496 : j_at 271 496 = some (.iadd, 0, 0, 0) := by decide +kernel
theorem at_271_497 : j_at 271 497 = some (.iaload, 0, 0, 0) := by decide +kernel
theorem at_271_498 : j_at 271 498 = some (.invokevirtual 56, 193, 1, 0) := by decide +kernel
theorem at_271_501 : j_at 271 501 = some (.if_icmp .eq 1136, 1637, 0, 0) := by decide +kernel
theorem at_271_504 : j_at 271 504 = some (.iconst 0, 0, 0, 0) := by decide +kernel
theorem at_271_505 : j_at 271 505 = some (.ireturn, 0, 0, 0) := by decide +kernel
theorem at_271_506 : j_at 271 506 = some (.aload_n 1, 0, 0, 0) := by decide +kernel
theorem at_271_507 : j_at 271 507 = some (.aload_n 0, 0, 0, 0) := by decide +kernel
theorem at_271_508 : j_at 271 508 = some (.iload_n 3, 0, 0, 0) := by decide +kernel
theorem at_271_509 : j_at 271 509 = some (.iconst 1, 0, 0, 1) := by decide +kernel
theorem at_271_510 : j_at 271 510 = some (.iadd, 0, 0, 0) := by decide +kernel
theorem at_271_511 : j_at 271 511 = some (.iaload, 0, 0, 0) := by decide +kernel
theorem at_271_512 : j_at 271 512 = some (.aload_n 0, 0, 0, 0) := by decide +kernel
theorem at_271_513 : j_at 271 513 = some (.iload_n 3, 0, 0, 0) := by decide +kernel
theorem at_271_514 : j_at 271 514 = some (.iconst 2, 0, 0, 2) := by decide +kernel
theorem at_271_515 : j_at 271 515 = some (.iadd, 0, 0, 0) := by decide +kernel
theorem at_271_516 : j_at 271 516 = some (.iaload, 0, 0, 0) := by decide +kernel
theorem at_271_517 : j_at 271 517 = some (.invokevirtual 57, 98, 2, 0) := by decide +kernel
theorem at_271_520 : j_at 271 520 = some (.aload_n 2, 0, 0, 0) := by decide +kernel
theorem at_271_521 : j_at 271 521 = some (.aload_n 0, 0, 0, 0) := by decide +kernel
theorem at_271_522 : j_at 271 522 = some (.iload_n 3, 0, 0, 0) := by decide +kernel
theorem at_271_523 : j_at 271 523 = some (.iconst 1, 0, 0, 1) := by decide +kernel
theorem at_271_524 : j_at 271 524 = some (.iadd, 0, 0, 0) := by decide +kernel
theorem at_271_525 : j_at 271 525 = some (.iaload, 0, 0, 0) := by decide +kernel
theorem at_271_526 : j_at 271 526 = some (.aload_n 0, 0, 0, 0) := by decide +kernel
theorem at_271_527 : j_at 271 527 = some (.iload_n 3, 0, 0, 0) := by decide +kernel
theorem at_271_528 : j_at 271 528 = some (.iconst 2, 0, 0, 2) := by decide +kernel
theorem at_271_529 : j_at 271 529 = some (.iadd, 0, 0, 0) := by decide +kernel
theorem at_271_530 : j_at 271 530 = some (.iaload, 0, 0, 0) := by decide +kernel
theorem at_271_531 : j_at 271 531 = some (.invokevirtual 61, 194, 2, 0) := by decide +kernel
theorem at_271_534 : j_at 271 534 = some (.lcmp, 0, 0, 0) := by decide +kernel
theorem at_271_535 : j_at 271 535 = some (.ifCond .eq 1102, 1637, 0, 0) := by decide +kernel
theorem at_271_538 : j_at 271 538 = some (.iconst 0, 0, 0, 0) := by decide +kernel
theorem at_271_539 : j_at 271 539 = some (.ireturn, 0, 0, 0) := by decide +kernel
theorem at_271_540 : j_at 271 540 = some (.aload_n 1, 0, 0, 0) := by decide +kernel
theorem at_271_541 : j_at 271 541 = some (.aload_n 0, 0, 0, 0) := by decide +kernel
theorem at_271_542 : j_at 271 542 = some (.iload_n 3, 0, 0, 0) := by decide +kernel
theorem at_271_543 : j_at 271 543 = some (.iconst 1, 0, 0, 1) := by decide +kernel
theorem at_271_544 : j_at 271 544 = some (.iadd, 0, 0, 0) := by decide +kernel
theorem at_271_545 : j_at 271 545 = some (.iaload, 0, 0, 0) := by decide +kernel
theorem at_271_546 : j_at 271 546 = some (.aload_n 0, 0, 0, 0) := by decide +kernel
theorem at_271_547 : j_at 271 547 = some (.iload_n 3, 0, 0, 0) := by decide +kernel
theorem at_271_548 : j_at 271 548 = some (.iconst 2, 0, 0, 2) := by decide +kernel
theorem at_271_549 : j_at 271 549 = some (.iadd, 0, 0, 0) := by decide +kernel
theorem at_271_550 : j_at 271 550 = some (.iaload, 0, 0, 0) := by decide +kernel
theorem at_271_551 : j_at 271 551 = some (.invokevirtual 62, 99, 2, 0) := by decide +kernel
theorem at_271_554 : j_at 271 554 = some (.aload_n 2, 0, 0, 0) := by decide +kernel
theorem at_271_555 : j_at 271 555 = some (.aload_n 0, 0, 0, 0) := by decide +kernel
theorem at_271_556 : j_at 271 556 = some (.iload_n 3, 0, 0, 0) := by decide +kernel
theorem at_271_557 : j_at 271 557 = some (.iconst 1, 0, 0, 1) := by decide +kernel
theorem at_271_558 : j_at 271 558 = some (.iadd, 0, 0, 0) := by decide +kernel
theorem at_271_559 : j_at 271 559 = some (.iaload, 0, 0, 0) := by decide +kernel
theorem at_271_560 : j_at 271 560 = some (.aload_n 0, 0, 0, 0) := by decide +kernel
theorem at_271_561 : j_at 271 561 = some (.iload_n 3, 0, 0, 0) := by decide +kernel
theorem at_271_562 : j_at 271 562 = some (.iconst 2, 0, 0, 2) := by decide +kernel
theorem at_271_563 : j_at 271 563 = some (.iadd, 0, 0, 0) := by decide +kernel
theorem at_271_564 : j_at 271 564 = some (.iaload, 0, 0, 0) := by decide +kernel
theorem at_271_565 : j_at 271 565 = some (.invokevirtual 65, 198, 2, 0) := by decide +kernel
theorem at_271_568 : j_at 271 568 = some (.lcmp, 0, 0, 0) := by decide +kernel
theorem at_271_569 : j_at 271 569 = some (.ifCond .eq 1068, 1637, 0, 0) := by decide +kernel
theorem at_271_572 : j_at 271 572 = some (.iconst 0, 0, 0, 0) := by decide +kernel
theorem at_271_573 : j_at 271 573 = some (.ireturn, 0, 0, 0) := by decide +kernel
theorem at_271_574 : j_at 271 574 = some (.aload_n 1, 0, 0, 0) := by decide +kernel
theorem at_271_575 : j_at 271 575 = some (.aload_n 0, 0, 0, 0) := by decide +kernel
theorem at_271_576 : j_at 271 576 = some (.iload_n 3, 0, 0, 0) := by decide +kernel
theorem at_271_577 : j_at 271 577 = some (.iconst 1, 0, 0, 1) := by decide +kernel
theorem at_271_578 : j_at 271 578 = some (.iadd, 0, 0, 0) := by decide +kernel
theorem at_271_579 : j_at 271 579 = some (.iaload, 0, 0, 0) := by decide +kernel
theorem at_271_580 : j_at 271 580 = some (.invokevirtual 66, 100, 1, 0) := by decide +kernel
theorem at_271_583 : j_at 271 583 = some (.aload_n 2, 0, 0, 0) := by decide +kernel
theorem at_271_584 : j_at 271 584 = some (.aload_n 0, 0, 0, 0) := by decide +kernel
theorem at_271_585 : j_at 271 585 = some (.iload_n 3, 0, 0, 0) := by decide +kernel
theorem at_271_586 : j_at 271 586 = some (.iconst 1, 0, 0, 1) := by decide +kernel
theorem at_271_587 : j_at 271 587 = some (.iadd, 0, 0, 0) := by decide +kernel
theorem at_271_588 : j_at 271 588 = some (.iaload, 0, 0, 0) := by decide +kernel
theorem at_271_589 : j_at 271 589 = some (.invokevirtual 70, 199, 1, 0) := by decide +kernel
theorem at_271_592 : j_at 271 592 = some (.lcmp, 0, 0, 0) := by decide +kernel
theorem at_271_593 : j_at 271 593 = some (.ifCond .eq 1044, 1637, 0, 0) := by decide +kernel
theorem at_271_596 : j_at 271 596 = some (.iconst 0, 0, 0, 0) := by decide +kernel
theorem at_271_597 : j_at 271 597 = some (.ireturn, 0, 0, 0) := by decide +kernel
theorem at_271_598 : j_at 271 598 = some (.aload_n 1, 0, 0, 0) := by decide +kernel
theorem at_271_599 : j_at 271 599 = some (.aload_n 0, 0, 0, 0) := by decide +kernel
theorem at_271_600 : j_at 271 600 = some (.iload_n 3, 0, 0, 0) := by decide +kernel
theorem at_271_601 : j_at 271 601 = some (.iconst 1, 0, 0, 1) := by decide +kernel
theorem at_271_602 : j_at 271 602 = some (.iadd, 0, 0, 0) := by decide +kernel
theorem at_271_603 : j_at 271 603 = some (.iaload, 0, 0, 0) := by decide +kernel
theorem at_271_604 : j_at 271 604 = some (.aload_n 0, 0, 0, 0) := by decide +kernel
theorem at_271_605 : j_at 271 605 = some (.iload_n 3, 0, 0, 0) := by decide +kernel
theorem at_271_606 : j_at 271 606 = some (.iconst 2, 0, 0, 2) := by decide +kernel
theorem at_271_607 : j_at 271 607 = some (.iadd, 0, 0, 0) := by decide +kernel
theorem at_271_608 : j_at 271 608 = some (.iaload, 0, 0, 0) := by decide +kernel
theorem at_271_609 : j_at 271 609 = some (.invokevirtual 71, 101, 2, 0) := by decide +kernel
theorem at_271_612 : j_at 271 612 = some (.aload_n 2, 0, 0, 0) := by decide +kernel
theorem at_271_613 : j_at 271 613 = some (.aload_n 0, 0, 0, 0) := by decide +kernel
theorem at_271_614 : j_at 271 614 = some (.iload_n 3, 0, 0, 0) := by decide +kernel
theorem at_271_615 : j_at 271 615 = some (.iconst 1, 0, 0, 1) := by decide +kernel
theorem at_271_616 : j_at 271 616 = some (.iadd, 0, 0, 0) := by decide +kernel
theorem at_271_617 : j_at 271 617 = some (.iaload, 0, 0, 0) := by decide +kernel
theorem at_271_618 : j_at 271 618 = some (.aload_n 0, 0, 0, 0) := by decide +kernel
theorem at_271_619 : j_at 271 619 = some (.iload_n 3, 0, 0, 0) := by decide +kernel
theorem at_271_620 : j_at 271 620 = some (.iconst 2, 0, 0, 2) := by decide +kernel
theorem at_271_621 : j_at 271 621 = some (.iadd, 0, 0, 0) := by decide +kernel
theorem at_271_622 : j_at 271 622 = some (.iaload, 0, 0, 0) := by decide +kernel
theorem at_271_623 : j_at 271 623 = some (.invokevirtual 74, 200, 2, 0) := by decide +kernel
theorem at_271_626 : j_at 271 626 = some (.lcmp, 0, 0, 0) := by decide +kernel
theorem at_271_627 : j_at 271 627 = some (.ifCond .eq 1010, 1637, 0, 0) := by decide +kernel
theorem at_271_630 : j_at 271 630 = some (.iconst 0, 0, 0, 0) := by decide +kernel
theorem at_271_631 : j_at 271 631 = some (.ireturn, 0, 0, 0) := by decide +kernel
theorem at_271_632 : j_at 271 632 = some (.aload_n 1, 0, 0, 0) := by decide +kernel
theorem at_271_633 : j_at 271 633 = some (.aload_n 0, 0, 0, 0) := by decide +kernel
theorem at_271_634 : j_at 271 634 = some (.iload_n 3, 0, 0, 0) := by decide +kernel
theorem at_271_635 : j_at 271 635 = some (.iconst 1, 0, 0, 1) := by decide +kernel
theorem at_271_636 : j_at 271 636 = some (.iadd, 0, 0, 0) := by decide +kernel
theorem at_271_637 : j_at 271 637 = some (.iaload, 0, 0, 0) := by decide +kernel
theorem at_271_638 : j_at 271 638 = some (.aload_n 0, 0, 0, 0) := by decide +kernel
theorem at_271_639 : j_at 271 639 = some (.iload_n 3, 0, 0, 0) := by decide +kernel
theorem at_271_640 : j_at 271 640 = some (.iconst 2, 0, 0, 2) := by decide +kernel
theorem at_271_641 : j_at 271 641 = some (.iadd, 0, 0, 0) := by decide +kernel
theorem at_271_642 : j_at 271 642 = some (.iaload, 0, 0, 0) := by decide +kernel
theorem at_271_643 : j_at 271 643 = some (.invokevirtual 75, 102, 2, 0) := by decide +kernel
theorem at_271_646 : j_at 271 646 = some (.aload_n 2, 0, 0, 0) := by decide +kernel
theorem at_271_647 : j_at 271 647 = some (.aload_n 0, 0, 0, 0) := by decide +kernel
theorem at_271_648 : j_at 271 648 = some (.iload_n 3, 0, 0, 0) := by decide +kernel
theorem at_271_649 : j_at 271 649 = some (.iconst 1, 0, 0, 1) := by decide +kernel
theorem at_271_650 : j_at 271 650 = some (.iadd, 0, 0, 0) := by decide +kernel
theorem at_271_651 : j_at 271 651 = some (.iaload, 0, 0, 0) := by decide +kernel
theorem at_271_652 : j_at 271 652 = some (.aload_n 0, 0, 0, 0) := by decide +kernel
theorem at_271_653 : j_at 271 653 = some (.iload_n 3, 0, 0, 0) := by decide +kernel
theorem at_271_654 : j_at 271 654 = some (.iconst 2, 0, 0, 2) := by decide +kernel
theorem at_271_655 : j_at 271 655 = some (.iadd, 0, 0, 0) := by decide +kernel
theorem at_271_656 : j_at 271 656 = some (.iaload, 0, 0, 0) := by decide +kernel
theorem at_271_657 : j_at 271 657 = some (.invokevirtual 78, 202, 2, 0) := by decide +kernel
theorem at_271_660 : j_at 271 660 = some (.lcmp, 0, 0, 0) := by decide +kernel
theorem at_271_661 : j_at 271 661 = some (.ifCond .eq 976, 1637, 0, 0) := by decide +kernel
theorem at_271_664 : j_at 271 664 = some (.iconst 0, 0, 0, 0) := by decide +kernel
theorem at_271_665 : j_at 271 665 = some (.ireturn, 0, 0, 0) := by decide +kernel
theorem at_271_666 : j_at 271 666 = some (.aload_n 1, 0, 0, 0) := by decide +kernel
theorem at_271_667 : j_at 271 667 = some (.aload_n 0, 0, 0, 0) := by decide +kernel
theorem at_271_668 : j_at 271 668 = some (.iload_n 3, 0, 0, 0) := by decide +kernel
theorem at_271_669 : j_at 271 669 = some (.iconst 1, 0, 0, 1) := by decide +kernel
theorem at_271_670 : j_at 271 670 = some (.iadd, 0, 0, 0) := by decide +kernel
theorem at_271_671 : j_at 271 671 = some (.iaload, 0, 0, 0) := by decide +kernel
theorem at_271_672 : j_at 271 672 = some (.aload_n 0, 0, 0, 0) := by decide +kernel
theorem at_271_673 : j_at 271 673 = some (.iload_n 3, 0, 0, 0) := by decide +kernel
theorem at_271_674 : j_at 271 674 = some (.iconst 2, 0, 0, 2) := by decide +kernel
theorem at_271_675 : j_at 271 675 = some (.iadd, 0, 0, 0) := by decide +kernel
theorem at_271_676 : j_at 271 676 = some (.iaload, 0, 0, 0) := by decide +kernel
theorem at_271_677 : j_at 271 677 = some (.aload_n 0, 0, 0, 0) := by decide +kernel
theorem at_271_678 : j_at 271 678 = some (.iload_n 3, 0, 0, 0) := by decide +kernel
theorem at_271_679 : j_at 271 679 = some (.iconst 3, 0, 0, 3) := by decide +kernel
theorem at_271_680 : j_at 271 680 = some (.iadd, 0, 0, 0) := by decide +kernel
theorem at_271_681 : j_at 271 681 = some (.iaload, 0, 0, 0) := by decide +kernel
theorem at_271_682 : j_at 271 682 = some (.invokevirtual 79, 103, 3, 0) := by decide +kernel
theorem at_271_685 : j_at 271 685 = some (.aload_n 2, 0, 0, 0) := by decide +kernel
theorem at_271_686 : j_at 271 686 = some (.aload_n 0, 0, 0, 0) := by decide +kernel
theorem at_271_687 : j_at 271 687 = some (.iload_n 3, 0, 0, 0) := by decide +kernel
theorem at_271_688 : j_at 271 688 = some (.iconst 1, 0, 0, 1) := by decide +kernel
theorem at_271_689 : j_at 271 689 = some (.iadd, 0, 0, 0) := by decide +kernel
theorem at_271_690 : j_at 271 690 = some (.iaload, 0, 0, 0) := by decide +kernel
theorem at_271_691 : j_at 271 691 = some (.aload_n 0, 0, 0, 0) := by decide +kernel
theorem at_271_692 : j_at 271 692 = some (.iload_n 3, 0, 0, 0) := by decide +kernel
theorem at_271_693 : j_at 271 693 = some (.iconst 2, 0, 0, 2) := by decide +kernel
theorem at_271_694 : j_at 271 694 = some (.iadd, 0, 0, 0) := by decide +kernel
theorem at_271_695 : j_at 271 695 = some (.iaload, 0, 0, 0) := by decide +kernel
theorem at_271_696 : j_at 271 696 = some (.aload_n 0, 0, 0, 0) := by decide +kernel
theorem at_271_697 : j_at 271 697 = some (.iload_n 3, 0, 0, 0) := by decide +kernel
theorem at_271_698 : j_at 271 698 = some (.iconst 3, 0, 0, 3) := by decide +kernel
theorem at_271_699 : j_at 271 699 = some (.iadd, 0, 0, 0) := by decide +kernel
theorem at_271_700 : j_at 271 700 = some (.iaload, 0, 0, 0) := by decide +kernel
theorem at_271_701 : j_at 271 701 = some (.invokevirtual 83, 203, 3, 0) := by decide +kernel
theorem at_271_704 : j_at 271 704 = some (.lcmp, 0, 0, 0) := by decide +kernel
theorem at_271_705 : j_at 271 705 = some (.ifCond .eq 932, 1637, 0, 0) := by decide +kernel
theorem at_271_708 : j_at 271 708 = some (.iconst 0, 0, 0, 0) := by decide +kernel
theorem at_271_709 : j_at 271 709 = some (.ireturn, 0, 0, 0) := by decide +kernel
theorem at_271_710 : j_at 271 710 = some (.aload_n 1, 0, 0, 0) := by decide +kernel
theorem at_271_711 : j_at 271 711 = some (.aload_n 0, 0, 0, 0) := by decide +kernel
theorem at_271_712 : j_at 271 712 = some (.iload_n 3, 0, 0, 0) := by decide +kernel
theorem at_271_713 : j_at 271 713 = some (.iconst 1, 0, 0, 1) := by decide +kernel
theorem at_271_714 : j_at 271 714 = some (.iadd, 0, 0, 0) := by decide +kernel
theorem at_271_715 : j_at 271 715 = some (.iaload, 0, 0, 0) := by decide +kernel
theorem at_271_716 : j_at 271 716 = some (.invokevirtual 84, 104, 1, 0) := by decide +kernel
theorem at_271_719 : j_at 271 719 = some (.aload_n 2, 0, 0, 0) := by decide +kernel
theorem at_271_720 : j_at 271 720 = some (.aload_n 0, 0, 0, 0) := by decide +kernel
theorem at_271_721 : j_at 271 721 = some (.iload_n 3, 0, 0, 0) := by decide +kernel
theorem at_271_722 : j_at 271 722 = some (.iconst 1, 0, 0, 1) := by decide +kernel
theorem at_271_723 : j_at 271 723 = some (.iadd, 0, 0, 0) := by decide +kernel
theorem at_271_724 : j_at 271 724 = some (.iaload, 0, 0, 0) := by decide +kernel
theorem at_271_725 : j_at 271 725 = some (.invokevirtual 87, 205, 1, 0) := by decide +kernel
theorem at_271_728 : j_at 271 728 = some (.if_icmp .eq 909, 1637, 0, 0) := by decide +kernel
theorem at_271_731 : j_at 271 731 = some (.iconst 0, 0, 0, 0) := by decide +kernel
theorem at_271_732 : j_at 271 732 = some (.ireturn, 0, 0, 0) := by decide +kernel
theorem at_271_733 : j_at 271 733 = some (.aload_n 1, 0, 0, 0) := by decide +kernel
theorem at_271_734 : j_at 271 734 = some (.aload_n 0, 0, 0, 0) := by decide +kernel
theorem at_271_735 : j_at 271 735 = some (.iload_n 3, 0, 0, 0) := by decide +kernel
theorem at_271_736 : j_at 271 736 = some (.iconst 1, 0, 0, 1) := by decide +kernel
theorem at_271_737 : j_at 271 737 = some (.iadd, 0, 0, 0) := by decide +kernel
theorem at_271_738 : j_at 271 738 = some (.iaload, 0, 0, 0) := by decide +kernel
theorem at_271_739 : j_at 271 739 = some (.aload_n 0, 0, 0, 0) := by decide +kernel
theorem at_271_740 : j_at 271 740 = some (.iload_n 3, 0, 0, 0) := by decide +kernel
theorem at_271_741 : j_at 271 741 = some (.iconst 2, 0, 0, 2) := by decide +kernel
theorem at_271_742 : j_at 271 742 = some (.iadd, 0, 0, 0) := by decide +kernel
theorem at_271_743 : j_at 271 743 = some (.iaload, 0, 0, 0) := by decide +kernel
theorem at_271_744 : j_at 271 744 = some (.invokevirtual 88, 105, 2, 0) := by decide +kernel
theorem at_271_747 : j_at 271 747 = some (.aload_n 2, 0, 0, 0) := by decide +kernel
theorem at_271_748 : j_at 271 748 = some (.aload_n 0, 0, 0, 0) := by decide +kernel
theorem at_271_749 : j_at 271 749 = some (.iload_n 3, 0, 0, 0) := by decide +kernel
theorem at_271_750 : j_at 271 750 = some (.iconst 1, 0, 0, 1) := by decide +kernel
theorem at_271_751 : j_at 271 751 = some (.iadd, 0, 0, 0) := by decide +kernel
theorem at_271_752 : j_at 271 752 = some (.iaload, 0, 0, 0) := by decide +kernel
theorem at_271_753 : j_at 271 753 = some (.aload_n 0, 0, 0, 0) := by decide +kernel
theorem at_271_754 : j_at 271 754 = some (.iload_n 3, 0, 0, 0) := by decide +kernel
theorem at_271_755 : j_at 271 755 = some (.iconst 2, 0, 0, 2) := by decide +kernel
theorem at_271_756 : j_at 271 756 = some (.iadd, 0, 0, 0) := by decide +kernel
theorem at_271_757 : j_at 271 757 = some (.iaload, 0, 0, 0) := by decide +kernel
theorem at_271_758 : j_at 271 758 = some (.invokevirtual 91, 206, 2, 0) := by decide +kernel
theorem at_271_761 : j_at 271 761 = some (.if_icmp .eq 876, 1637, 0, 0) := by decide +kernel
theorem at_271_764 : j_at 271 764 = some (.iconst 0, 0, 0, 0) := by decide +kernel
theorem at_271_765 : j_at 271 765 = some (.ireturn, 0, 0, 0) := by decide +kernel
theorem at_271_766 : j_at 271 766 = some (.aload_n 1, 0, 0, 0) := by decide +kernel
theorem at_271_767 : j_at 271 767 = some (.aload_n 0, 0, 0, 0) := by decide +kernel
theorem at_271_768 : j_at 271 768 = some (.iload_n 3, 0, 0, 0) := by decide +kernel
theorem at_271_769 : j_at 271 769 = some (.iconst 1, 0, 0, 1) := by decide +kernel
theorem at_271_770 : j_at 271 770 = some (.iadd, 0, 0, 0) := by decide +kernel
theorem at_271_771 : j_at 271 771 = some (.iaload, 0, 0, 0) := by decide +kernel
theorem at_271_772 : j_at 271 772 = some (.invokevirtual 92, 106, 1, 0) := by decide +kernel
theorem at_271_775 : j_at 271 775 = some (.aload_n 2, 0, 0, 0) := by decide +kernel
theorem at_271_776 : j_at 271 776 = some (.aload_n 0, 0, 0, 0) := by decide +kernel
theorem at_271_777 : j_at 271 777 = some (.iload_n 3, 0, 0, 0) := by decide +kernel
theorem at_271_778 : j_at 271 778 = some (.iconst 1, 0, 0, 1) := by decide +kernel
theorem at_271_779 : j_at 271 779 = some (.iadd, 0, 0, 0) := by decide +kernel
theorem at_271_780 : j_at 271 780 = some (.iaload, 0, 0, 0) := by decide +kernel
theorem at_271_781 : j_at 271 781 = some (.invokevirtual 95, 207, 1, 0) := by decide +kernel
theorem at_271_784 : j_at 271 784 = some (.if_icmp .eq 853, 1637, 0, 0) := by decide +kernel
theorem at_271_787 : j_at 271 787 = some (.iconst 0, 0, 0, 0) := by decide +kernel
theorem at_271_788 : j_at 271 788 = some (.ireturn, 0, 0, 0) := by decide +kernel
theorem at_271_789 : j_at 271 789 = some (.aload_n 1, 0, 0, 0) := by decide +kernel
theorem at_271_790 : j_at 271 790 = some (.aload_n 0, 0, 0, 0) := by decide +kernel
theorem at_271_791 : j_at 271 791 = some (.iload_n 3, 0, 0, 0) := by decide +kernel
theorem at_271_792 : j_at 271 792 = some (.iconst 1, 0, 0, 1) := by decide +kernel
theorem at_271_793 : j_at 271 793 = some (.iadd, 0, 0, 0) := by decide +kernel
theorem at_271_794 : j_at 271 794 = some (.iaload, 0, 0, 0) := by decide +kernel
theorem at_271_795 : j_at 271 795 = some (.invokevirtual 96, 107, 1, 0) := by decide +kernel
theorem at_271_798 : j_at 271 798 = some (.aload_n 2, 0, 0, 0) := by decide +kernel
theorem at_271_799 : j_at 271 799 = some (.aload_n 0, 0, 0, 0) := by decide +kernel
theorem at_271_800 : j_at 271 800 = some (.iload_n 3, 0, 0, 0) := by decide +kernel
theorem at_271_801 : j_at 271 801 = some (.iconst 1, 0, 0, 1) := by decide +kernel
theorem at_271_802 : j_at 271 802 = some (.iadd, 0, 0, 0) := by decide +kernel
theorem at_271_803 : j_at 271 803 = some (.iaload, 0, 0, 0) := by decide +kernel
theorem at_271_804 : j_at 271 804 = some (.invokevirtual 99, 208, 1, 0) := by decide +kernel
theorem at_271_807 : j_at 271 807 = some (.lcmp, 0, 0, 0) := by decide +kernel
theorem at_271_808 : j_at 271 808 = some (.ifCond .eq 829, 1637, 0, 0) := by decide +kernel
theorem at_271_811 : j_at 271 811 = some (.iconst 0, 0, 0, 0) := by decide +kernel
theorem at_271_812 : j_at 271 812 = some (.ireturn, 0, 0, 0) := by decide +kernel
theorem at_271_813 : j_at 271 813 = some (.aload_n 1, 0, 0, 0) := by decide +kernel
theorem at_271_814 : j_at 271 814 = some (.invokevirtual 100, 108, 0, 0) := by decide +kernel
theorem at_271_817 : j_at 271 817 = some (.aload_n 2, 0, 0, 0) := by decide +kernel
theorem at_271_818 : j_at 271 818 = some (.invokevirtual 103, 209, 0, 0) := by decide +kernel
theorem at_271_821 : j_at 271 821 = some (.if_icmp .eq 816, 1637, 0, 0) := by decide +kernel
theorem at_271_824 : j_at 271 824 = some (.iconst 0, 0, 0, 0) := by decide +kernel
theorem at_271_825 : j_at 271 825 = some (.ireturn, 0, 0, 0) := by decide +kernel
theorem at_271_826 : j_at 271 826 = some (.aload_n 1, 0, 0, 0) := by decide +kernel
theorem at_271_827 : j_at 271 827 = some (.aload_n 0, 0, 0, 0) := by decide +kernel
theorem at_271_828 : j_at 271 828 = some (.iload_n 3, 0, 0, 0) := by decide +kernel
theorem at_271_829 : j_at 271 829 = some (.iconst 1, 0, 0, 1) := by decide +kernel
theorem at_271_830 : j_at 271 830 = some (.iadd, 0, 0, 0) := by decide +kernel
theorem at_271_831 : j_at 271 831 = some (.iaload, 0, 0, 0) := by decide +kernel
theorem at_271_832 : j_at 271 832 = some (.invokevirtual 104, 109, 1, 0) := by decide +kernel
theorem at_271_835 : j_at 271 835 = some (.aload_n 2, 0, 0, 0) := by decide +kernel
theorem at_271_836 : j_at 271 836 = some (.aload_n 0, 0, 0, 0) := by decide +kernel
theorem at_271_837 : j_at 271 837 = some (.iload_n 3, 0, 0, 0) := by decide +kernel
theorem at_271_838 : j_at 271 838 = some (.iconst 1, 0, 0, 1) := by decide +kernel
theorem at_271_839 : j_at 271 839 = some (.iadd, 0, 0, 0) := by decide +kernel
theorem at_271_840 : j_at 271 840 = some (.iaload, 0, 0, 0) := by decide +kernel
theorem at_271_841 : j_at 271 841 = some (.invokevirtual 107, 217, 1, 0) := by decide +kernel
theorem at_271_844 : j_at 271 844 = some (.if_icmp .eq 793, 1637, 0, 0) := by decide +kernel
theorem at_271_847 : j_at 271 847 = some (.iconst 0, 0, 0, 0) := by decide +kernel
theorem at_271_848 : j_at 271 848 = some (.ireturn, 0, 0, 0) := by decide +kernel
theorem at_271_849 : j_at 271 849 = some (.aload_n 1, 0, 0, 0) := by decide +kernel
theorem at_271_850 : j_at 271 850 = some (.aload_n 0, 0, 0, 0) := by decide +kernel
theorem at_271_851 : j_at 271 851 = some (.iload_n 3, 0, 0, 0) := by decide +kernel
theorem at_271_852 : j_at 271 852 = some (.iconst 1, 0, 0, 1) := by decide +kernel
theorem at_271_853 : j_at 271 853 = some (.iadd, 0, 0, 0) := by decide +kernel
theorem at_271_854 : j_at 271 854 = some (.iaload, 0, 0, 0) := by decide +kernel
theorem at_271_855 : j_at 271 855 = some (.invokevirtual 108, 110, 1, 0) := by decide +kernel
theorem at_271_858 : j_at 271 858 = some (.aload_n 2, 0, 0, 0) := by decide +kernel
theorem at_271_859 : j_at 271 859 = some (.aload_n 0, 0, 0, 0) := by decide +kernel
theorem at_271_860 : j_at 271 860 = some (.iload_n 3, 0, 0, 0) := by decide +kernel
theorem at_271_861 : j_at 271 861 = some (.iconst 1, 0, 0, 1) := by decide +kernel
theorem at_271_862 : j_at 271 862 = some (.iadd, 0, 0, 0) := by decide +kernel
theorem at_271_863 : j_at 271 863 = some (.iaload, 0, 0, 0) := by decide +kernel
theorem at_271_864 : j_at 271 864 = some (.invokevirtual 111, 218, 1, 0) := by decide +kernel
theorem at_271_867 : j_at 271 867 = some (.if_icmp .eq 770, 1637, 0, 0) := by decide +kernel
theorem at_271_870 : j_at 271 870 = some (.iconst 0, 0, 0, 0) := by decide +kernel
theorem at_271_871 : j_at 271 871 = some (.ireturn, 0, 0, 0) := by decide +kernel
theorem at_271_872 : j_at 271 872 = some (.aload_n 1, 0, 0, 0) := by decide +kernel
theorem at_271_873 : j_at 271 873 = some (.aload_n 0, 0, 0, 0) := by decide +kernel
theorem at_271_874 : j_at 271 874 = some (.iload_n 3, 0, 0, 0) := by decide +kernel
theorem at_271_875 : j_at 271 875 = some (.iconst 1, 0, 0, 1) := by decide +kernel
theorem at_271_876 : j_at 271 876 = some (.iadd, 0, 0, 0) := by decide +kernel
theorem at_271_877 : j_at 271 877 = some (.iaload, 0, 0, 0) := by decide +kernel
theorem at_271_878 : j_at 271 878 = some (.invokevirtual 112, 111, 1, 0) := by decide +kernel
theorem at_271_881 : j_at 271 881 = some (.aload_n 2, 0, 0, 0) := by decide +kernel
theorem at_271_882 : j_at 271 882 = some (.aload_n 0, 0, 0, 0) := by decide +kernel
theorem at_271_883 : j_at 271 883 = some (.iload_n 3, 0, 0, 0) := by decide +kernel
theorem at_271_884 : j_at 271 884 = some (.iconst 1, 0, 0, 1) := by decide +kernel
theorem at_271_885 : j_at 271 885 = some (.iadd, 0, 0, 0) := by decide +kernel
theorem at_271_886 : j_at 271 886 = some (.iaload, 0, 0, 0) := by decide +kernel
theorem at_271_887 : j_at 271 887 = some (.invokevirtual 115, 219, 1, 0) := by decide +kernel
theorem at_271_890 : j_at 271 890 = some (.if_icmp .eq 747, 1637, 0, 0) := by decide +kernel
theorem at_271_893 : j_at 271 893 = some (.iconst 0, 0, 0, 0) := by decide +kernel
theorem at_271_894 : j_at 271 894 = some (.ireturn, 0, 0, 0) := by decide +kernel
theorem at_271_895 : j_at 271 895 = some (.aload_n 1, 0, 0, 0) := by decide +kernel
theorem at_271_896 : j_at 271 896 = some (.aload_n 0, 0, 0, 0) := by decide +kernel
theorem at_271_897 : j_at 271 897 = some (.iload_n 3, 0, 0, 0) := by decide +kernel
theorem at_271_898 : j_at 271 898 = some (.iconst 1, 0, 0, 1) := by decide +kernel
theorem at_271_899 : j_at 271 899 = some (.iadd, 0, 0, 0) := by decide +kernel
theorem at_271_900 : j_at 271 900 = some (.iaload, 0, 0, 0) := by decide +kernel
theorem at_271_901 : j_at 271 901 = some (.invokevirtual 116, 112, 1, 0) := by decide +kernel
theorem at_271_904 : j_at 271 904 = some (.aload_n 2, 0, 0, 0) := by decide +kernel
theorem at_271_905 : j_at 271 905 = some (.aload_n 0, 0, 0, 0) := by decide +kernel
theorem at_271_906 : j_at 271 906 = some (.iload_n 3, 0, 0, 0) := by decide +kernel
theorem at_271_907 : j_at 271 907 = some (.iconst 1, 0, 0, 1) := by decide +kernel
theorem at_271_908 : j_at 271 908 = some (.iadd, 0, 0, 0) := by decide +kernel
theorem at_271_909 : j_at 271 909 = some (.iaload, 0, 0, 0) := by decide +kernel
theorem at_271_910 : j_at 271 910 = some (.invokevirtual 119, 220, 1, 0) := by decide +kernel
theorem at_271_913 : j_at 271 913 = some (.if_icmp .eq 724, 1637, 0, 0) := by decide +kernel
theorem at_271_916 : j_at 271 916 = some (.iconst 0, 0, 0, 0) := by decide +kernel
theorem at_271_917 : j_at 271 917 = some (.ireturn, 0, 0, 0) := by decide +kernel
theorem at_271_918 : j_at 271 918 = some (.aload_n 1, 0, 0, 0) := by decide +kernel
theorem at_271_919 : j_at 271 919 = some (.aload_n 0, 0, 0, 0) := by decide +kernel
theorem at_271_920 : j_at 271 920 = some (.iload_n 3, 0, 0, 0) := by decide +kernel
theorem at_271_921 : j_at 271 921 = some (.iconst 1, 0, 0, 1) := by decide +kernel
theorem at_271_922 : j_at 271 922 = some (.iadd, 0, 0, 0) := by decide +kernel
theorem at_271_923 : j_at 271 923 = some (.iaload, 0, 0, 0) := by decide +kernel
theorem at_271_924 : j_at 271 924 = some (.invokevirtual 120, 113, 1, 0) := by decide +kernel
theorem at_271_927 : j_at 271 927 = some (.aload_n 2, 0, 0, 0) := by decide +kernel
theorem at_271_928 : j_at 271 928 = some (.aload_n 0, 0, 0, 0) := by decide +kernel
theorem at_271_929 : j_at 271 929 = some (.iload_n 3, 0, 0, 0) := by decide +kernel
theorem at_271_930 : j_at 271 930 = some (.iconst 1, 0, 0, 1) := by decide +kernel
theorem at_271_931 : j_at 271 931 = some (.iadd, 0, 0, 0) := by decide +kernel
theorem at_271_932 : j_at 271 932 = some (.iaload, 0, 0, 0) := by decide +kernel
theorem at_271_933 : j_at 271 933 = some (.invokevirtual 123, 222, 1, 0) := by decide +kernel
theorem at_271_936 : j_at 271 936 = some (.if_icmp .eq 701, 1637, 0, 0) := by decide +kernel
theorem at_271_939 : j_at 271 939 = some (.iconst 0, 0, 0, 0) := by decide +kernel
theorem at_271_940 : j_at 271 940 = some (.ireturn, 0, 0, 0) := by decide +kernel
theorem at_271_941 : j_at 271 941 = some (.aload_n 1, 0, 0, 0) := by decide +kernel
theorem at_271_942 : j_at 271 942 = some (.aload_n 0, 0, 0, 0) := by decide +kernel
theorem at_271_943 : j_at 271 943 = some (.iload_n 3, 0, 0, 0) := by decide +kernel
theorem at_271_944 : j_at 271 944 = some (.iconst 1, 0, 0, 1) := by decide +kernel
theorem at_271_945 : j_at 271 945 = some (.iadd, 0, 0, 0) := by decide +kernel
theorem at_271_946 : j_at 271 946 = some (.iaload, 0, 0, 0) := by decide +kernel
theorem at_271_947 : j_at 271 947 = some (.invokevirtual 124, 114, 1, 0) := by decide +kernel
theorem at_271_950 : j_at 271 950 = some (.aload_n 2, 0, 0, 0) := by decide +kernel
theorem at_271_951 : j_at 271 951 = some (.aload_n 0, 0, 0, 0) := by decide +kernel
theorem at_271_952 : j_at 271 952 = some (.iload_n 3, 0, 0, 0) := by decide +kernel
theorem at_271_953 : j_at 271 953 = some (.iconst 1, 0, 0, 1) := by decide +kernel
theorem at_271_954 : j_at 271 954 = some (.iadd, 0, 0, 0) := by decide +kernel
theorem at_271_955 : j_at 271 955 = some (.iaload, 0, 0, 0) := by decide +kernel
theorem at_271_956 : j_at 271 956 = some (.invokevirtual 127, 229, 1, 0) := by decide +kernel
theorem at_271_959 : j_at 271 959 = some (.if_icmp .eq 678, 1637, 0, 0) := by decide +kernel
theorem at_271_962 : j_at 271 962 = some (.iconst 0, 0, 0, 0) := by decide +kernel
theorem at_271_963 : j_at 271 963 = some (.ireturn, 0, 0, 0) := by decide +kernel
theorem at_271_964 : j_at 271 964 = some (.aload_n 1, 0, 0, 0) := by decide +kernel
theorem at_271_965 : j_at 271 965 = some (.aload_n 0, 0, 0, 0) := by decide +kernel
theorem at_271_966 : j_at 271 966 = some (.iload_n 3, 0, 0, 0) := by decide +kernel
theorem at_271_967 : j_at 271 967 = some (.iconst 1, 0, 0, 1) := by decide +kernel
theorem at_271_968 : j_at 271 968 = some (.iadd, 0, 0, 0) := by decide +kernel
theorem at_271_969 : j_at 271 969 = some (.iaload, 0, 0, 0) := by decide +kernel
theorem at_271_970 : j_at 271 970 = some (.aload_n 0, 0, 0, 0) := by decide +kernel
theorem at_271_971 : j_at 271 971 = some (.iload_n 3, 0, 0, 0) := by decide +kernel
theorem at_271_972 : j_at 271 972 = some (.iconst 2, 0, 0, 2) := by decide +kernel
theorem at_271_973 : j_at 271 973 = some (.iadd, 0, 0, 0) := by decide +kernel
theorem at_271_974 : j_at 271 974 = some (.iaload, 0, 0, 0) := by decide +kernel
theorem at_271_975 : j_at 271 975 = some (.invokevirtual 128, 115, 2, 0) := by decide +kernel
theorem at_271_978 : j_at 271 978 = some (.aload_n 2, 0, 0, 0) := by decide +kernel
theorem at_271_979 : j_at 271 979 = some (.aload_n 0, 0, 0, 0) := by decide +kernel
theorem at_271_980 : j_at 271 980 = some (.iload_n 3, 0, 0, 0) := by decide +kernel
theorem at_271_981 : j_at 271 981 = some (.iconst 1, 0, 0, 1) := by decide +kernel
theorem at_271_982 : j_at 271 982 = some (.iadd, 0, 0, 0) := by decide +kernel
theorem at_271_983 : j_at 271 983 = some (.iaload, 0, 0, 0) := by decide +kernel
theorem at_271_984 : j_at 271 984 = some (.aload_n 0, 0, 0, 0) := by decide +kernel
theorem at_271_985 : j_at 271 985 = some (.iload_n 3, 0, 0, 0) := by decide +kernel
theorem at_271_986 : j_at 271 986 = some (.iconst 2, 0, 0, 2) := by decide +kernel
theorem at_271_987 : j_at 271 987 = some (.iadd, 0, 0, 0) := by decide +kernel
theorem at_271_988 : j_at 271 988 = some (.iaload, 0, 0, 0) := by decide +kernel
theorem at_271_989 : j_at 271 989 = some (.invokevirtual 131, 231, 2, 0) := by decide +kernel
theorem at_271_992 : j_at 271 992 = some (.if_icmp .eq 645, 1637, 0, 0) := by decide +kernel
theorem at_271_995 : j_at 271 995 = some (.iconst 0, 0, 0, 0) := by decide +kernel
theorem at_271_996 : j_at 271 996 = some (.ireturn, 0, 0, 0) := by decide +kernel
theorem at_271_997 : j_at 271 997 = some (.aload_n 1, 0, 0, 0) := by decide +kernel
theorem at_271_998 : j_at 271 998 = some (.aload_n 0, 0, 0, 0) := by decide +kernel
theorem at_271_999 : j_at 271 999 = some (.iload_n 3, 0, 0, 0) := by decide +kernel
theorem at_271_1000 : j_at 271 1000 = some (.iconst 1, 0, 0, 1) := by decide +kernel
theorem at_271_1001 : j_at 271 1001 = some (.iadd, 0, 0, 0) := by decide +kernel
theorem at_271_1002 : j_at 271 1002 = some (.iaload, 0, 0, 0) := by decide +kernel
theorem at_271_1003 : j_at 271 1003 = some (.aload_n 0, 0, 0, 0) := by decide +kernel
theorem at_271_1004 : j_at 271 1004 = some (.iload_n 3, 0, 0, 0) := by decide +kernel
theorem at_271_1005 : j_at 271 1005 = some (.iconst 2, 0, 0, 2) := by decide +kernel
theorem at_271_1006 : j_at 271 1006 = some (.iadd, 0, 0, 0) := by decide +kernel
theorem at_271_1007 : j_at 271 1007 = some (.iaload, 0, 0, 0) := by decide +kernel
theorem at_271_1008 : j_at 271 1008 = some (.invokevirtual 132, 116, 2, 0) := by decide +kernel
theorem at_271_1011 : j_at 271 1011 = some (.aload_n 2, 0, 0, 0) := by decide +kernel
theorem at_271_1012 : j_at 271 1012 = some (.aload_n 0, 0, 0, 0) := by decide +kernel
theorem at_271_1013 : j_at 271 1013 = some (.iload_n 3, 0, 0, 0) := by decide +kernel
theorem at_271_1014 : j_at 271 1014 = some (.iconst 1, 0, 0, 1) := by decide +kernel
theorem at_271_1015 : j_at 271 1015 = some (.iadd, 0, 0, 0) := by decide +kernel
theorem at_271_1016 : j_at 271 1016 = some (.iaload, 0, 0, 0) := by decide +kernel
theorem at_271_1017 : j_at 271 1017 = some (.aload_n 0, 0, 0, 0) := by decide +kernel
theorem at_271_1018 : j_at 271 1018 = some (.iload_n 3, 0, 0, 0) := by decide +kernel
theorem at_271_1019 : j_at 271 1019 = some (.iconst 2, 0, 0, 2) := by decide +kernel
theorem at_271_1020 : j_at 271 1020 = some (.iadd, 0, 0, 0) := by decide +kernel
theorem at_271_1021 : j_at 271 1021 = some (.iaload, 0, 0, 0) := by decide +kernel
theorem at_271_1022 : j_at 271 1022 = some (.invokevirtual 135, 232, 2, 0) := by decide +kernel
theorem at_271_1025 : j_at 271 1025 = some (.if_icmp .eq 612, 1637, 0, 0) := by decide +kernel
theorem at_271_1028 : j_at 271 1028 = some (.iconst 0, 0, 0, 0) := by decide +kernel
theorem at_271_1029 : j_at 271 1029 = some (.ireturn, 0, 0, 0) := by decide +kernel
theorem at_271_1030 : j_at 271 1030 = some (.aload_n 1, 0, 0, 0) := by decide +kernel
theorem at_271_1031 : j_at 271 1031 = some (.aload_n 0, 0, 0, 0) := by decide +kernel
theorem at_271_1032 : j_at 271 1032 = some (.iload_n 3, 0, 0, 0) := by decide +kernel
theorem at_271_1033 : j_at 271 1033 = some (.iconst 1, 0, 0, 1) := by decide +kernel
theorem at_271_1034 : j_at 271 1034 = some (.iadd, 0, 0, 0) := by decide +kernel
theorem at_271_1035 : j_at 271 1035 = some (.iaload, 0, 0, 0) := by decide +kernel
theorem at_271_1036 : j_at 271 1036 = some (.aload_n 0, 0, 0, 0) := by decide +kernel
theorem at_271_1037 : j_at 271 1037 = some (.iload_n 3, 0, 0, 0) := by decide +kernel
theorem at_271_1038 : j_at 271 1038 = some (.iconst 2, 0, 0, 2) := by decide +kernel
theorem at_271_1039 : j_at 271 1039 = some (.iadd, 0, 0, 0) := by decide +kernel
theorem at_271_1040 : j_at 271 1040 = some (.iaload, 0, 0, 0) := by decide +kernel
theorem at_271_1041 : j_at 271 1041 = some (.invokevirtual 136, 117, 2, 0) := by decide +kernel
theorem at_271_1044 : j_at 271 1044 = some (.aload_n 2, 0, 0, 0) := by decide +kernel
theorem at_271_1045 : j_at 271 1045 = some (.aload_n 0, 0, 0, 0) := by decide +kernel
theorem at_271_1046 : j_at 271 1046 = some (.iload_n 3, 0, 0, 0) := by decide +kernel
theorem at_271_1047 : j_at 271 1047 = some (.iconst 1, 0, 0, 1) := by decide +kernel
theorem at_271_1048 : j_at 271 1048 = some (.iadd, 0, 0, 0) := by decide +kernel
theorem at_271_1049 : j_at 271 1049 = some (.iaload, 0, 0, 0) := by decide +kernel
theorem at_271_1050 : j_at 271 1050 = some (.aload_n 0, 0, 0, 0) := by decide +kernel
theorem at_271_1051 : j_at 271 1051 = some (.iload_n 3, 0, 0, 0) := by decide +kernel
theorem at_271_1052 : j_at 271 1052 = some (.iconst 2, 0, 0, 2) := by decide +kernel
theorem at_271_1053 : j_at 271 1053 = some (.iadd, 0, 0, 0) := by decide +kernel
theorem at_271_1054 : j_at 271 1054 = some (.iaload, 0, 0, 0) := by decide +kernel
theorem at_271_1055 : j_at 271 1055 = some (.invokevirtual 139, 234, 2, 0) := by decide +kernel
theorem at_271_1058 : j_at 271 1058 = some (.if_icmp .eq 579, 1637, 0, 0) := by decide +kernel
theorem at_271_1061 : j_at 271 1061 = some (.iconst 0, 0, 0, 0) := by decide +kernel
theorem at_271_1062 : j_at 271 1062 = some (.ireturn, 0, 0, 0) := by decide +kernel
theorem at_271_1063 : j_at 271 1063 = some (.aload_n 1, 0, 0, 0) := by decide +kernel
theorem at_271_1064 : j_at 271 1064 = some (.aload_n 0, 0, 0, 0) := by decide +kernel
theorem at_271_1065 : j_at 271 1065 = some (.iload_n 3, 0, 0, 0) := by decide +kernel
theorem at_271_1066 : j_at 271 1066 = some (.iconst 1, 0, 0, 1) := by decide +kernel
theorem at_271_1067 : j_at 271 1067 = some (.iadd, 0, 0, 0) := by decide +kernel
theorem at_271_1068 : j_at 271 1068 = some (.iaload, 0, 0, 0) := by decide +kernel
theorem at_271_1069 : j_at 271 1069 = some (.aload_n 0, 0, 0, 0) := by decide +kernel
theorem at_271_1070 : j_at 271 1070 = some (.iload_n 3, 0, 0, 0) := by decide +kernel
theorem at_271_1071 : j_at 271 1071 = some (.iconst 2, 0, 0, 2) := by decide +kernel
theorem at_271_1072 : j_at 271 1072 = some (.iadd, 0, 0, 0) := by decide +kernel
theorem at_271_1073 : j_at 271 1073 = some (.iaload, 0, 0, 0) := by decide +kernel
theorem at_271_1074 : j_at 271 1074 = some (.aload_n 0, 0, 0, 0) := by decide +kernel
theorem at_271_1075 : j_at 271 1075 = some (.iload_n 3, 0, 0, 0) := by decide +kernel
theorem at_271_1076 : j_at 271 1076 = some (.iconst 3, 0, 0, 3) := by decide +kernel
theorem at_271_1077 : j_at 271 1077 = some (.iadd, 0, 0, 0) := by decide +kernel
theorem at_271_1078 : j_at 271 1078 = some (.iaload, 0, 0, 0) := by decide +kernel
theorem at_271_1079 : j_at 271 1079 = some (.aload_n 0, 0, 0, 0) := by decide +kernel
theorem at_271_1080 : j_at 271 1080 = some (.iload_n 3, 0, 0, 0) := by decide +kernel
theorem at_271_1081 : j_at 271 1081 = some (.iconst 4, 0, 0, 4) := by decide +kernel
theorem at_271_1082 : j_at 271 1082 = some (.iadd, 0, 0, 0) := by decide +kernel
theorem at_271_1083 : j_at 271 1083 = some (.iaload, 0, 0, 0) := by decide +kernel
theorem at_271_1084 : j_at 271 1084 = some (.aload_n 0, 0, 0, 0) := by decide +kernel
theorem at_271_1085 : j_at 271 1085 = some (.iload_n 3, 0, 0, 0) := by decide +kernel
theorem at_271_1086 : j_at 271 1086 = some (.iconst 5, 0, 0, 5) := by decide +kernel
theorem at_271_1087 : j_at 271 1087 = some (.iadd, 0, 0, 0) := by decide +kernel
theorem at_271_1088 : j_at 271 1088 = some (.iaload, 0, 0, 0) := by decide +kernel
theorem at_271_1089 : j_at 271 1089 = some (.invokevirtual 140, 118, 5, 0) := by decide +kernel
theorem at_271_1092 : j_at 271 1092 = some (.aload_n 2, 0, 0, 0) := by decide +kernel
theorem at_271_1093 : j_at 271 1093 = some (.aload_n 0, 0, 0, 0) := by decide +kernel
theorem at_271_1094 : j_at 271 1094 = some (.iload_n 3, 0, 0, 0) := by decide +kernel
theorem at_271_1095 : j_at 271 1095 = some (.iconst 1, 0, 0, 1) := by decide +kernel
theorem at_271_1096 : j_at 271 1096 = some (.iadd, 0, 0, 0) := by decide +kernel
theorem at_271_1097 : j_at 271 1097 = some (.iaload, 0, 0, 0) := by decide +kernel
theorem at_271_1098 : j_at 271 1098 = some (.aload_n 0, 0, 0, 0) := by decide +kernel
theorem at_271_1099 : j_at 271 1099 = some (.iload_n 3, 0, 0, 0) := by decide +kernel
theorem at_271_1100 : j_at 271 1100 = some (.iconst 2, 0, 0, 2) := by decide +kernel
theorem at_271_1101 : j_at 271 1101 = some (.iadd, 0, 0, 0) := by decide +kernel
theorem at_271_1102 : j_at 271 1102 = some (.iaload, 0, 0, 0) := by decide +kernel
theorem at_271_1103 : j_at 271 1103 = some (.aload_n 0, 0, 0, 0) := by decide +kernel
theorem at_271_1104 : j_at 271 1104 = some (.iload_n 3, 0, 0, 0) := by decide +kernel
theorem at_271_1105 : j_at 271 1105 = some (.iconst 3, 0, 0, 3) := by decide +kernel
theorem at_271_1106 : j_at 271 1106 = some (.iadd, 0, 0, 0) := by decide +kernel
theorem at_271_1107 : j_at 271 1107 = some (.iaload, 0, 0, 0) := by decide +kernel
theorem at_271_1108 : j_at 271 1108 = some (.aload_n 0, 0, 0, 0) := by decide +kernel
theorem at_271_1109 : j_at 271 1109 = some (.iload_n 3, 0, 0, 0) := by decide +kernel
theorem at_271_1110 : j_at 271 1110 = some (.iconst 4, 0, 0, 4) := by decide +kernel
theorem at_271_1111 : j_at 271 1111 = some (.iadd, 0, 0, 0) := by decide +kernel
