/-! Instructions, a row each (by program). -/
theorem at_108_37 : j_at 108 37 = some (.iload 4, 0, 0, 0) := by decide +kernel
theorem at_108_39 : j_at 108 39 = some (.invokevirtual 228, 36, 1, 0) := by decide +kernel
theorem at_108_42 : j_at 108 42 = some (.aload_n 0, 0, 0, 0) := by decide +kernel
theorem at_108_43 : j_at 108 43 = some (.getfield 31, 10, 3, 0) := by decide +kernel
theorem at_108_46 : j_at 108 46 = some (.getfield 161, 3, 0, 0) := by decide +kernel
theorem at_108_49 : j_at 108 49 = some (.iload 4, 0, 0, 0) := by decide +kernel
theorem at_108_51 : j_at 108 51 = some (.invokevirtual 186, 53, 1, 0) := by decide +kernel
theorem at_108_54 : j_at 108 54 = some (.lmul, 0, 0, 0) := by decide +kernel
theorem at_108_55 : j_at 108 55 = some (.ladd, 0, 0, 0) := by decide +kernel
theorem at_108_56 : j_at 108 56 = some (.lstore_n 2, 0, 0, 0) := by decide +kernel
theorem at_108_57 : j_at 108 57 = some (.iinc 4 1, 0, 0, 0) := by decide +kernel
theorem at_108_60 : j_at 108 60 = some (.goto (-34), 26, 0, 0) := by decide +kernel
theorem at_108_63 : j_at 108 63 = some (.lload_n 2, 0, 0, 0) := by decide +kernel
theorem at_108_64 : j_at 108 64 = some (.aload_n 0, 0, 0, 0) := by decide +kernel
theorem at_108_65 : j_at 108 65 = some (.getfield 14, 10, 0, 0) := by decide +kernel
theorem at_108_68 : j_at 108 68 = some (.iload_n 1, 0, 0, 0) := by decide +kernel
theorem at_108_69 : j_at 108 69 = some (.invokevirtual 228, 36, 1, 0) := by decide +kernel
theorem at_108_72 : j_at 108 72 = some (.aload_n 0, 0, 0, 0) := by decide +kernel
theorem at_108_73 : j_at 108 73 = some (.getfield 31, 10, 3, 0) := by decide +kernel
theorem at_108_76 : j_at 108 76 = some (.getfield 161, 3, 0, 0) := by decide +kernel
theorem at_108_79 : j_at 108 79 = some (.getfield 189, 5, 4, 0) := by decide +kernel
theorem at_108_82 : j_at 108 82 = some (.lmul, 0, 0, 0) := by decide +kernel
theorem at_108_83 : j_at 108 83 = some (.lcmp, 0, 0, 0) := by decide +kernel
theorem at_108_84 : j_at 108 84 = some (.ifCond .le 7, 91, 0, 0) := by decide +kernel
theorem at_108_87 : j_at 108 87 = some (.iconst 1, 0, 0, 1) := by decide +kernel
theorem at_108_88 : j_at 108 88 = some (.goto 4, 92, 0, 0) := by decide +kernel
theorem at_108_91 : j_at 108 91 = some (.iconst 0, 0, 0, 0) := by decide +kernel
theorem at_108_92 : j_at 108 92 = some (.ireturn, 0, 0, 0) := by decide +kernel
theorem at_109_0 : j_at 109 0 = some (.iload_n 1, 0, 0, 0) := by decide +kernel
theorem at_109_1 : j_at 109 1 = some (.ifCond .lt 9, 10, 0, 0) := by decide +kernel
theorem at_109_4 : j_at 109 4 = some (.iload_n 1, 0, 0, 0) := by decide +kernel
theorem at_109_5 : j_at 109 5 = some (.bipush 6, 0, 0, 6) := by decide +kernel
theorem at_109_7 : j_at 109 7 = some (.if_icmp .le 6, 13, 0, 0) := by decide +kernel
theorem at_109_10 : j_at 109 10 = some (.bipush (-2), 0, 0, -2) := by decide +kernel
theorem at_109_12 : j_at 109 12 = some (.ireturn, 0, 0, 0) := by decide +kernel
theorem at_109_13 : j_at 109 13 = some (.aload_n 0, 0, 0, 0) := by decide +kernel
theorem at_109_14 : j_at 109 14 = some (.getfield 14, 10, 0, 0) := by decide +kernel
theorem at_109_17 : j_at 109 17 = some (.getfield 231, 4, 4, 0) := by decide +kernel
theorem at_109_20 : j_at 109 20 = some (.istore_n 2, 0, 0, 0) := by decide +kernel
theorem at_109_21 : j_at 109 21 = some (.aload_n 0, 0, 0, 0) := by decide +kernel
theorem at_109_22 : j_at 109 22 = some (.getfield 14, 10, 0, 0) := by decide +kernel
theorem at_109_25 : j_at 109 25 = some (.iload_n 1, 0, 0, 0) := by decide +kernel
theorem at_109_26 : j_at 109 26 = some (.putfield 231, 4, 4, 0) := by decide +kernel
theorem at_109_29 : j_at 109 29 = some (.iload_n 2, 0, 0, 0) := by decide +kernel
theorem at_109_30 : j_at 109 30 = some (.ireturn, 0, 0, 0) := by decide +kernel
theorem at_110_0 : j_at 110 0 = some (.iload_n 1, 0, 0, 0) := by decide +kernel
theorem at_110_1 : j_at 110 1 = some (.ifCond .lt 9, 10, 0, 0) := by decide +kernel
theorem at_110_4 : j_at 110 4 = some (.iload_n 1, 0, 0, 0) := by decide +kernel
theorem at_110_5 : j_at 110 5 = some (.bipush 20, 0, 0, 20) := by decide +kernel
theorem at_110_7 : j_at 110 7 = some (.if_icmp .lt 6, 13, 0, 0) := by decide +kernel
theorem at_110_10 : j_at 110 10 = some (.bipush (-2), 0, 0, -2) := by decide +kernel
theorem at_110_12 : j_at 110 12 = some (.ireturn, 0, 0, 0) := by decide +kernel
theorem at_110_13 : j_at 110 13 = some (.aload_n 0, 0, 0, 0) := by decide +kernel
theorem at_110_14 : j_at 110 14 = some (.getfield 55, 10, 7, 0) := by decide +kernel
theorem at_110_17 : j_at 110 17 = some (.invokevirtual 103, 22, 0, 0) := by decide +kernel
theorem at_110_20 : j_at 110 20 = some (.aload_n 0, 0, 0, 0) := by decide +kernel
theorem at_110_21 : j_at 110 21 = some (.getfield 48, 10, 6, 0) := by decide +kernel
theorem at_110_24 : j_at 110 24 = some (.aload_n 0, 0, 0, 0) := by decide +kernel
theorem at_110_25 : j_at 110 25 = some (.getfield 14, 10, 0, 0) := by decide +kernel
theorem at_110_28 : j_at 110 28 = some (.getfield 77, 4, 0, 0) := by decide +kernel
theorem at_110_31 : j_at 110 31 = some (.aload_n 0, 0, 0, 0) := by decide +kernel
theorem at_110_32 : j_at 110 32 = some (.getfield 14, 10, 0, 0) := by decide +kernel
theorem at_110_35 : j_at 110 35 = some (.getfield 231, 4, 4, 0) := by decide +kernel
theorem at_110_38 : j_at 110 38 = some (.invokevirtual 234, 81, 2, 0) := by decide +kernel
theorem at_110_41 : j_at 110 41 = some (.aload_n 0, 0, 0, 0) := by decide +kernel
theorem at_110_42 : j_at 110 42 = some (.getfield 48, 10, 6, 0) := by decide +kernel
theorem at_110_45 : j_at 110 45 = some (.getfield 238, 9, 0, 0) := by decide +kernel
theorem at_110_48 : j_at 110 48 = some (.istore_n 2, 0, 0, 0) := by decide +kernel
theorem at_110_49 : j_at 110 49 = some (.iload_n 2, 0, 0, 0) := by decide +kernel
theorem at_110_50 : j_at 110 50 = some (.ifCond .le 47, 97, 0, 0) := by decide +kernel
theorem at_110_53 : j_at 110 53 = some (.aload_n 0, 0, 0, 0) := by decide +kernel
theorem at_110_54 : j_at 110 54 = some (.getfield 48, 10, 6, 0) := by decide +kernel
theorem at_110_57 : j_at 110 57 = some (.invokevirtual 241, 84, 0, 0) := by decide +kernel
theorem at_110_60 : j_at 110 60 = some (.ifCond .eq 24, 84, 0, 0) := by decide +kernel
theorem at_110_63 : j_at 110 63 = some (.aload_n 0, 0, 0, 0) := by decide +kernel
theorem at_110_64 : j_at 110 64 = some (.getfield 55, 10, 7, 0) := by decide +kernel
theorem at_110_67 : j_at 110 67 = some (.aload_n 0, 0, 0, 0) := by decide +kernel
theorem at_110_68 : j_at 110 68 = some (.getfield 48, 10, 6, 0) := by decide +kernel
theorem at_110_71 : j_at 110 71 = some (.getfield 245, 9, 1, 0) := by decide +kernel
theorem at_110_74 : j_at 110 74 = some (.aload_n 0, 0, 0, 0) := by decide +kernel
theorem at_110_75 : j_at 110 75 = some (.getfield 48, 10, 6, 0) := by decide +kernel
theorem at_110_78 : j_at 110 78 = some (.getfield 248, 9, 2, 0) := by decide +kernel
theorem at_110_81 : j_at 110 81 = some (.invokevirtual 251, 26, 2, 0) := by decide +kernel
theorem at_110_84 : j_at 110 84 = some (.aload_n 0, 0, 0, 0) := by decide +kernel
theorem at_110_85 : j_at 110 85 = some (.getfield 48, 10, 6, 0) := by decide +kernel
theorem at_110_88 : j_at 110 88 = some (.invokevirtual 254, 82, 0, 0) := by decide +kernel
theorem at_110_91 : j_at 110 91 = some (.iinc 2 (-1), 0, 0, 0) := by decide +kernel
theorem at_110_94 : j_at 110 94 = some (.goto (-45), 49, 0, 0) := by decide +kernel
theorem at_110_97 : j_at 110 97 = some (.iload_n 1, 0, 0, 0) := by decide +kernel
theorem at_110_98 : j_at 110 98 = some (.aload_n 0, 0, 0, 0) := by decide +kernel
theorem at_110_99 : j_at 110 99 = some (.getfield 55, 10, 7, 0) := by decide +kernel
theorem at_110_102 : j_at 110 102 = some (.getfield 257, 2, 0, 0) := by decide +kernel
theorem at_110_105 : j_at 110 105 = some (.if_icmp .ge 15, 120, 0, 0) := by decide +kernel
theorem at_110_108 : j_at 110 108 = some (.aload_n 0, 0, 0, 0) := by decide +kernel
theorem at_110_109 : j_at 110 109 = some (.getfield 55, 10, 7, 0) := by decide +kernel
theorem at_110_112 : j_at 110 112 = some (.getfield 258, 2, 1, 0) := by decide +kernel
theorem at_110_115 : j_at 110 115 = some (.iload_n 1, 0, 0, 0) := by decide +kernel
theorem at_110_116 : j_at 110 116 = some (.iaload, 0, 0, 0) := by decide +kernel
theorem at_110_117 : j_at 110 117 = some (.goto 5, 122, 0, 0) := by decide +kernel
theorem at_110_120 : j_at 110 120 = some (.bipush (-5), 0, 0, -5) := by decide +kernel
theorem at_110_122 : j_at 110 122 = some (.ireturn, 0, 0, 0) := by decide +kernel
theorem at_111_0 : j_at 111 0 = some (.iload_n 1, 0, 0, 0) := by decide +kernel
theorem at_111_1 : j_at 111 1 = some (.ifCond .lt 8, 9, 0, 0) := by decide +kernel
theorem at_111_4 : j_at 111 4 = some (.iload_n 1, 0, 0, 0) := by decide +kernel
theorem at_111_5 : j_at 111 5 = some (.iconst 1, 0, 0, 1) := by decide +kernel
theorem at_111_6 : j_at 111 6 = some (.if_icmp .le 5, 11, 0, 0) := by decide +kernel
theorem at_111_9 : j_at 111 9 = some (.iconst (-1), 0, 0, -1) := by decide +kernel
theorem at_111_10 : j_at 111 10 = some (.ireturn, 0, 0, 0) := by decide +kernel
theorem at_111_11 : j_at 111 11 = some (.iconst 0, 0, 0, 0) := by decide +kernel
theorem at_111_12 : j_at 111 12 = some (.istore_n 2, 0, 0, 0) := by decide +kernel
theorem at_111_13 : j_at 111 13 = some (.aload_n 0, 0, 0, 0) := by decide +kernel
theorem at_111_14 : j_at 111 14 = some (.getfield 48, 10, 6, 0) := by decide +kernel
theorem at_111_17 : j_at 111 17 = some (.aload_n 0, 0, 0, 0) := by decide +kernel
theorem at_111_18 : j_at 111 18 = some (.getfield 14, 10, 0, 0) := by decide +kernel
theorem at_111_21 : j_at 111 21 = some (.getfield 77, 4, 0, 0) := by decide +kernel
theorem at_111_24 : j_at 111 24 = some (.aload_n 0, 0, 0, 0) := by decide +kernel
theorem at_111_25 : j_at 111 25 = some (.getfield 14, 10, 0, 0) := by decide +kernel
theorem at_111_28 : j_at 111 28 = some (.getfield 231, 4, 4, 0) := by decide +kernel
theorem at_111_31 : j_at 111 31 = some (.invokevirtual 234, 81, 2, 0) := by decide +kernel
theorem at_111_34 : j_at 111 34 = some (.aload_n 0, 0, 0, 0) := by decide +kernel
theorem at_111_35 : j_at 111 35 = some (.getfield 48, 10, 6, 0) := by decide +kernel
theorem at_111_38 : j_at 111 38 = some (.getfield 238, 9, 0, 0) := by decide +kernel
theorem at_111_41 : j_at 111 41 = some (.istore_n 3, 0, 0, 0) := by decide +kernel
theorem at_111_42 : j_at 111 42 = some (.iload_n 3, 0, 0, 0) := by decide +kernel
theorem at_111_43 : j_at 111 43 = some (.ifCond .le 30, 73, 0, 0) := by decide +kernel
theorem at_111_46 : j_at 111 46 = some (.aload_n 0, 0, 0, 0) := by decide +kernel
theorem at_111_47 : j_at 111 47 = some (.getfield 48, 10, 6, 0) := by decide +kernel
theorem at_111_50 : j_at 111 50 = some (.invokevirtual 261, 85, 0, 0) := by decide +kernel
theorem at_111_53 : j_at 111 53 = some (.iload_n 1, 0, 0, 0) := by decide +kernel
theorem at_111_54 : j_at 111 54 = some (.if_icmp .ne 6, 60, 0, 0) := by decide +kernel
theorem at_111_57 : j_at 111 57 = some (.iinc 2 1, 0, 0, 0) := by decide +kernel
theorem at_111_60 : j_at 111 60 = some (.aload_n 0, 0, 0, 0) := by decide +kernel
theorem at_111_61 : j_at 111 61 = some (.getfield 48, 10, 6, 0) := by decide +kernel
theorem at_111_64 : j_at 111 64 = some (.invokevirtual 254, 82, 0, 0) := by decide +kernel
theorem at_111_67 : j_at 111 67 = some (.iinc 3 (-1), 0, 0, 0) := by decide +kernel
theorem at_111_70 : j_at 111 70 = some (.goto (-28), 42, 0, 0) := by decide +kernel
theorem at_111_73 : j_at 111 73 = some (.iload_n 2, 0, 0, 0) := by decide +kernel
theorem at_111_74 : j_at 111 74 = some (.ireturn, 0, 0, 0) := by decide +kernel
theorem at_112_0 : j_at 112 0 = some (.aload_n 0, 0, 0, 0) := by decide +kernel
theorem at_112_1 : j_at 112 1 = some (.iload_n 1, 0, 0, 0) := by decide +kernel
theorem at_112_2 : j_at 112 2 = some (.invokevirtual 265, 138, 1, 0) := by decide +kernel
theorem at_112_5 : j_at 112 5 = some (.ifCond .ne 6, 11, 0, 0) := by decide +kernel
theorem at_112_8 : j_at 112 8 = some (.bipush (-2), 0, 0, -2) := by decide +kernel
theorem at_112_10 : j_at 112 10 = some (.ireturn, 0, 0, 0) := by decide +kernel
theorem at_112_11 : j_at 112 11 = some (.aload_n 0, 0, 0, 0) := by decide +kernel
theorem at_112_12 : j_at 112 12 = some (.getfield 14, 10, 0, 0) := by decide +kernel
theorem at_112_15 : j_at 112 15 = some (.getfield 77, 4, 0, 0) := by decide +kernel
theorem at_112_18 : j_at 112 18 = some (.iload_n 1, 0, 0, 0) := by decide +kernel
theorem at_112_19 : j_at 112 19 = some (.invokevirtual 268, 15, 1, 0) := by decide +kernel
theorem at_112_22 : j_at 112 22 = some (.ireturn, 0, 0, 0) := by decide +kernel
theorem at_113_0 : j_at 113 0 = some (.iload_n 1, 0, 0, 0) := by decide +kernel
theorem at_113_1 : j_at 113 1 = some (.iconst (-1), 0, 0, -1) := by decide +kernel
theorem at_113_2 : j_at 113 2 = some (.if_icmp .eq 13, 15, 0, 0) := by decide +kernel
theorem at_113_5 : j_at 113 5 = some (.aload_n 0, 0, 0, 0) := by decide +kernel
theorem at_113_6 : j_at 113 6 = some (.iload_n 1, 0, 0, 0) := by decide +kernel
theorem at_113_7 : j_at 113 7 = some (.invokevirtual 203, 137, 1, 0) := by decide +kernel
theorem at_113_10 : j_at 113 10 = some (.ifCond .ne 5, 15, 0, 0) := by decide +kernel
theorem at_113_13 : j_at 113 13 = some (.iconst (-1), 0, 0, -1) := by decide +kernel
theorem at_113_14 : j_at 113 14 = some (.ireturn, 0, 0, 0) := by decide +kernel
theorem at_113_15 : j_at 113 15 = some (.iconst 0, 0, 0, 0) := by decide +kernel
theorem at_113_16 : j_at 113 16 = some (.istore_n 2, 0, 0, 0) := by decide +kernel
theorem at_113_17 : j_at 113 17 = some (.iload_n 2, 0, 0, 0) := by decide +kernel
theorem at_113_18 : j_at 113 18 = some (.aload_n 0, 0, 0, 0) := by decide +kernel
theorem at_113_19 : j_at 113 19 = some (.getfield 14, 10, 0, 0) := by decide +kernel
theorem at_113_22 : j_at 113 22 = some (.getfield 77, 4, 0, 0) := by decide +kernel
theorem at_113_25 : j_at 113 25 = some (.getfield 80, 1, 0, 0) := by decide +kernel
theorem at_113_28 : j_at 113 28 = some (.if_icmp .gt 43, 71, 0, 0) := by decide +kernel
theorem at_113_31 : j_at 113 31 = some (.aload_n 0, 0, 0, 0) := by decide +kernel
theorem at_113_32 : j_at 113 32 = some (.getfield 73, 10, 10, 0) := by decide +kernel
theorem at_113_35 : j_at 113 35 = some (.iload_n 2, 0, 0, 0) := by decide +kernel
theorem at_113_36 : j_at 113 36 = some (.iload_n 1, 0, 0, 0) := by decide +kernel
theorem at_113_37 : j_at 113 37 = some (.iconst (-1), 0, 0, -1) := by decide +kernel
theorem at_113_38 : j_at 113 38 = some (.if_icmp .ne 14, 52, 0, 0) := by decide +kernel
theorem at_113_41 : j_at 113 41 = some (.aload_n 0, 0, 0, 0) := by decide +kernel
theorem at_113_42 : j_at 113 42 = some (.getfield 14, 10, 0, 0) := by decide +kernel
theorem at_113_45 : j_at 113 45 = some (.iload_n 2, 0, 0, 0) := by decide +kernel
theorem at_113_46 : j_at 113 46 = some (.invokevirtual 228, 36, 1, 0) := by decide +kernel
theorem at_113_49 : j_at 113 49 = some (.goto 15, 64, 0, 0) := by decide +kernel
theorem at_113_52 : j_at 113 52 = some (.aload_n 0, 0, 0, 0) := by decide +kernel
theorem at_113_53 : j_at 113 53 = some (.getfield 31, 10, 3, 0) := by decide +kernel
theorem at_113_56 : j_at 113 56 = some (.getfield 206, 3, 1, 0) := by decide +kernel
theorem at_113_59 : j_at 113 59 = some (.iload_n 1, 0, 0, 0) := by decide +kernel
theorem at_113_60 : j_at 113 60 = some (.iload_n 2, 0, 0, 0) := by decide +kernel
theorem at_113_61 : j_at 113 61 = some (.invokevirtual 210, 2, 2, 0) := by decide +kernel
theorem at_113_64 : j_at 113 64 = some (.lastore, 0, 0, 0) := by decide +kernel
theorem at_113_65 : j_at 113 65 = some (.iinc 2 1, 0, 0, 0) := by decide +kernel
theorem at_113_68 : j_at 113 68 = some (.goto (-51), 17, 0, 0) := by decide +kernel
theorem at_113_71 : j_at 113 71 = some (.aload_n 0, 0, 0, 0) := by decide +kernel
theorem at_113_72 : j_at 113 72 = some (.getfield 48, 10, 6, 0) := by decide +kernel
theorem at_113_75 : j_at 113 75 = some (.aload_n 0, 0, 0, 0) := by decide +kernel
theorem at_113_76 : j_at 113 76 = some (.getfield 14, 10, 0, 0) := by decide +kernel
theorem at_113_79 : j_at 113 79 = some (.getfield 77, 4, 0, 0) := by decide +kernel
theorem at_113_82 : j_at 113 82 = some (.aload_n 0, 0, 0, 0) := by decide +kernel
theorem at_113_83 : j_at 113 83 = some (.getfield 14, 10, 0, 0) := by decide +kernel
theorem at_113_86 : j_at 113 86 = some (.getfield 231, 4, 4, 0) := by decide +kernel
theorem at_113_89 : j_at 113 89 = some (.invokevirtual 234, 81, 2, 0) := by decide +kernel
theorem at_113_92 : j_at 113 92 = some (.aload_n 0, 0, 0, 0) := by decide +kernel
theorem at_113_93 : j_at 113 93 = some (.getfield 48, 10, 6, 0) := by decide +kernel
theorem at_113_96 : j_at 113 96 = some (.getfield 238, 9, 0, 0) := by decide +kernel
theorem at_113_99 : j_at 113 99 = some (.istore_n 2, 0, 0, 0) := by decide +kernel
theorem at_113_100 : j_at 113 100 = some (.iload_n 2, 0, 0, 0) := by decide +kernel
theorem at_113_101 : j_at 113 101 = some (.ifCond .le 48, 149, 0, 0) := by decide +kernel
theorem at_113_104 : j_at 113 104 = some (.aload_n 0, 0, 0, 0) := by decide +kernel
theorem at_113_105 : j_at 113 105 = some (.getfield 48, 10, 6, 0) := by decide +kernel
theorem at_113_108 : j_at 113 108 = some (.invokevirtual 241, 84, 0, 0) := by decide +kernel
theorem at_113_111 : j_at 113 111 = some (.ifCond .eq 25, 136, 0, 0) := by decide +kernel
theorem at_113_114 : j_at 113 114 = some (.aload_n 0, 0, 0, 0) := by decide +kernel
theorem at_113_115 : j_at 113 115 = some (.getfield 48, 10, 6, 0) := by decide +kernel
theorem at_113_118 : j_at 113 118 = some (.aload_n 0, 0, 0, 0) := by decide +kernel
theorem at_113_119 : j_at 113 119 = some (.getfield 73, 10, 10, 0) := by decide +kernel
theorem at_113_122 : j_at 113 122 = some (.invokevirtual 271, 86, 1, 0) := by decide +kernel
theorem at_113_125 : j_at 113 125 = some (.ifCond .eq 11, 136, 0, 0) := by decide +kernel
theorem at_113_128 : j_at 113 128 = some (.aload_n 0, 0, 0, 0) := by decide +kernel
theorem at_113_129 : j_at 113 129 = some (.getfield 48, 10, 6, 0) := by decide +kernel
theorem at_113_132 : j_at 113 132 = some (.getfield 245, 9, 1, 0) := by decide +kernel
theorem at_113_135 : j_at 113 135 = some (.ireturn, 0, 0, 0) := by decide +kernel
theorem at_113_136 : j_at 113 136 = some (.aload_n 0, 0, 0, 0) := by decide +kernel
theorem at_113_137 : j_at 113 137 = some (.getfield 48, 10, 6, 0) := by decide +kernel
theorem at_113_140 : j_at 113 140 = some (.invokevirtual 254, 82, 0, 0) := by decide +kernel
theorem at_113_143 : j_at 113 143 = some (.iinc 2 (-1), 0, 0, 0) := by decide +kernel
theorem at_113_146 : j_at 113 146 = some (.goto (-46), 100, 0, 0) := by decide +kernel
theorem at_113_149 : j_at 113 149 = some (.bipush (-5), 0, 0, -5) := by decide +kernel
theorem at_113_151 : j_at 113 151 = some (.ireturn, 0, 0, 0) := by decide +kernel
theorem at_114_0 : j_at 114 0 = some (.iload_n 1, 0, 0, 0) := by decide +kernel
theorem at_114_1 : j_at 114 1 = some (.ifCond .lt 19, 20, 0, 0) := by decide +kernel
theorem at_114_4 : j_at 114 4 = some (.iload_n 1, 0, 0, 0) := by decide +kernel
theorem at_114_5 : j_at 114 5 = some (.aload_n 0, 0, 0, 0) := by decide +kernel
theorem at_114_6 : j_at 114 6 = some (.getfield 14, 10, 0, 0) := by decide +kernel
theorem at_114_9 : j_at 114 9 = some (.getfield 77, 4, 0, 0) := by decide +kernel
theorem at_114_12 : j_at 114 12 = some (.getfield 80, 1, 0, 0) := by decide +kernel
theorem at_114_15 : j_at 114 15 = some (.iconst 3, 0, 0, 3) := by decide +kernel
theorem at_114_16 : j_at 114 16 = some (.iadd, 0, 0, 0) := by decide +kernel
theorem at_114_17 : j_at 114 17 = some (.if_icmp .le 5, 22, 0, 0) := by decide +kernel
theorem at_114_20 : j_at 114 20 = some (.iconst (-1), 0, 0, -1) := by decide +kernel
theorem at_114_21 : j_at 114 21 = some (.ireturn, 0, 0, 0) := by decide +kernel
theorem at_114_22 : j_at 114 22 = some (.aload_n 0, 0, 0, 0) := by decide +kernel
theorem at_114_23 : j_at 114 23 = some (.getfield 41, 10, 5, 0) := by decide +kernel
theorem at_114_26 : j_at 114 26 = some (.aload_n 0, 0, 0, 0) := by decide +kernel
theorem at_114_27 : j_at 114 27 = some (.getfield 14, 10, 0, 0) := by decide +kernel
theorem at_114_30 : j_at 114 30 = some (.getfield 77, 4, 0, 0) := by decide +kernel
theorem at_114_33 : j_at 114 33 = some (.invokevirtual 275, 74, 1, 0) := by decide +kernel
theorem at_114_36 : j_at 114 36 = some (.istore_n 2, 0, 0, 0) := by decide +kernel
theorem at_114_37 : j_at 114 37 = some (.iload_n 1, 0, 0, 0) := by decide +kernel
theorem at_114_38 : j_at 114 38 = some (.iconst 1, 0, 0, 1) := by decide +kernel
theorem at_114_39 : j_at 114 39 = some (.if_icmp .ne 11, 50, 0, 0) := by decide +kernel
theorem at_114_42 : j_at 114 42 = some (.aload_n 0, 0, 0, 0) := by decide +kernel
theorem at_114_43 : j_at 114 43 = some (.getfield 41, 10, 5, 0) := by decide +kernel
theorem at_114_46 : j_at 114 46 = some (.getfield 279, 8, 0, 0) := by decide +kernel
theorem at_114_49 : j_at 114 49 = some (.ireturn, 0, 0, 0) := by decide +kernel
theorem at_114_50 : j_at 114 50 = some (.iload_n 1, 0, 0, 0) := by decide +kernel
theorem at_114_51 : j_at 114 51 = some (.iconst 3, 0, 0, 3) := by decide +kernel
theorem at_114_52 : j_at 114 52 = some (.if_icmp .ne 11, 63, 0, 0) := by decide +kernel
theorem at_114_55 : j_at 114 55 = some (.aload_n 0, 0, 0, 0) := by decide +kernel
theorem at_114_56 : j_at 114 56 = some (.getfield 41, 10, 5, 0) := by decide +kernel
theorem at_114_59 : j_at 114 59 = some (.getfield 282, 8, 1, 0) := by decide +kernel
theorem at_114_62 : j_at 114 62 = some (.ireturn, 0, 0, 0) := by decide +kernel
theorem at_114_63 : j_at 114 63 = some (.iload_n 2, 0, 0, 0) := by decide +kernel
theorem at_114_64 : j_at 114 64 = some (.ifCond .ge 5, 69, 0, 0) := by decide +kernel
theorem at_114_67 : j_at 114 67 = some (.iload_n 2, 0, 0, 0) := by decide +kernel
theorem at_114_68 : j_at 114 68 = some (.ireturn, 0, 0, 0) := by decide +kernel
theorem at_114_69 : j_at 114 69 = some (.iload_n 1, 0, 0, 0) := by decide +kernel
theorem at_114_70 : j_at 114 70 = some (.ifCond .ne 13, 83, 0, 0) := by decide +kernel
theorem at_114_73 : j_at 114 73 = some (.aload_n 0, 0, 0, 0) := by decide +kernel
theorem at_114_74 : j_at 114 74 = some (.getfield 41, 10, 5, 0) := by decide +kernel
theorem at_114_77 : j_at 114 77 = some (.iload_n 2, 0, 0, 0) := by decide +kernel
theorem at_114_78 : j_at 114 78 = some (.invokevirtual 285, 79, 1, 0) := by decide +kernel
theorem at_114_81 : j_at 114 81 = some (.l2i, 0, 0, 0) := by decide +kernel
theorem at_114_82 : j_at 114 82 = some (.ireturn, 0, 0, 0) := by decide +kernel
theorem at_114_83 : j_at 114 83 = some (.iload_n 1, 0, 0, 0) := by decide +kernel
theorem at_114_84 : j_at 114 84 = some (.iconst 2, 0, 0, 2) := by decide +kernel
theorem at_114_85 : j_at 114 85 = some (.if_icmp .ne 13, 98, 0, 0) := by decide +kernel
theorem at_114_88 : j_at 114 88 = some (.aload_n 0, 0, 0, 0) := by decide +kernel
theorem at_114_89 : j_at 114 89 = some (.getfield 41, 10, 5, 0) := by decide +kernel
theorem at_114_92 : j_at 114 92 = some (.getfield 288, 8, 2, 0) := by decide +kernel
theorem at_114_95 : j_at 114 95 = some (.iload_n 2, 0, 0, 0) := by decide +kernel
theorem at_114_96 : j_at 114 96 = some (.iaload, 0, 0, 0) := by decide +kernel
theorem at_114_97 : j_at 114 97 = some (.ireturn, 0, 0, 0) := by decide +kernel
theorem at_114_98 : j_at 114 98 = some (.aload_n 0, 0, 0, 0) := by decide +kernel
theorem at_114_99 : j_at 114 99 = some (.getfield 41, 10, 5, 0) := by decide +kernel
theorem at_114_102 : j_at 114 102 = some (.getfield 291, 8, 3, 0) := by decide +kernel
theorem at_114_105 : j_at 114 105 = some (.iload_n 2, 0, 0, 0) := by decide +kernel
theorem at_114_106 : j_at 114 106 = some (.iconst 5, 0, 0, 5) := by decide +kernel
theorem at_114_107 : j_at 114 107 = some (.imul, 0, 0, 0) := by decide +kernel
theorem at_114_108 : j_at 114 108 = some (.iload_n 1, 0, 0, 0) := by decide +kernel
theorem at_114_109 : j_at 114 109 = some (.iadd, 0, 0, 0) := by decide +kernel
theorem at_114_110 : j_at 114 110 = some (.iconst 4, 0, 0, 4) := by decide +kernel
theorem at_114_111 : j_at 114 111 = some (.isub, 0, 0, 0) := by decide +kernel
theorem at_114_112 : j_at 114 112 = some (.laload, 0, 0, 0) := by decide +kernel
theorem at_114_113 : j_at 114 113 = some (.l2i, 0, 0, 0) := by decide +kernel
theorem at_114_114 : j_at 114 114 = some (.ireturn, 0, 0, 0) := by decide +kernel
theorem at_115_0 : j_at 115 0 = some (.aload_n 0, 0, 0, 0) := by decide +kernel
theorem at_115_1 : j_at 115 1 = some (.iload_n 1, 0, 0, 0) := by decide +kernel
theorem at_115_2 : j_at 115 2 = some (.invokevirtual 116, 136, 1, 0) := by decide +kernel
theorem at_115_5 : j_at 115 5 = some (.ifCond .ne 5, 10, 0, 0) := by decide +kernel
theorem at_115_8 : j_at 115 8 = some (.iconst (-1), 0, 0, -1) := by decide +kernel
theorem at_115_9 : j_at 115 9 = some (.ireturn, 0, 0, 0) := by decide +kernel
theorem at_115_10 : j_at 115 10 = some (.iload_n 2, 0, 0, 0) := by decide +kernel
theorem at_115_11 : j_at 115 11 = some (.invokestatic 106, 139, 1, 0) := by decide +kernel
theorem at_115_14 : j_at 115 14 = some (.ifCond .ne 6, 20, 0, 0) := by decide +kernel
theorem at_115_17 : j_at 115 17 = some (.bipush (-2), 0, 0, -2) := by decide +kernel
theorem at_115_19 : j_at 115 19 = some (.ireturn, 0, 0, 0) := by decide +kernel
theorem at_115_20 : j_at 115 20 = some (.aload_n 0, 0, 0, 0) := by decide +kernel
theorem at_115_21 : j_at 115 21 = some (.getfield 24, 10, 2, 0) := by decide +kernel
theorem at_115_24 : j_at 115 24 = some (.aload_n 0, 0, 0, 0) := by decide +kernel
theorem at_115_25 : j_at 115 25 = some (.getfield 14, 10, 0, 0) := by decide +kernel
theorem at_115_28 : j_at 115 28 = some (.getfield 77, 4, 0, 0) := by decide +kernel
theorem at_115_31 : j_at 115 31 = some (.invokevirtual 294, 8, 1, 0) := by decide +kernel
theorem at_115_34 : j_at 115 34 = some (.aload_n 0, 0, 0, 0) := by decide +kernel
theorem at_115_35 : j_at 115 35 = some (.getfield 24, 10, 2, 0) := by decide +kernel
theorem at_115_38 : j_at 115 38 = some (.getfield 130, 1, 4, 0) := by decide +kernel
theorem at_115_41 : j_at 115 41 = some (.iload_n 1, 0, 0, 0) := by decide +kernel
theorem at_115_42 : j_at 115 42 = some (.iload_n 2, 0, 0, 0) := by decide +kernel
theorem at_115_43 : j_at 115 43 = some (.iastore, 0, 0, 0) := by decide +kernel
theorem at_115_44 : j_at 115 44 = some (.aload_n 0, 0, 0, 0) := by decide +kernel
theorem at_115_45 : j_at 115 45 = some (.getfield 35, 10, 4, 0) := by decide +kernel
theorem at_115_48 : j_at 115 48 = some (.aload_n 0, 0, 0, 0) := by decide +kernel
theorem at_115_49 : j_at 115 49 = some (.getfield 24, 10, 2, 0) := by decide +kernel
theorem at_115_52 : j_at 115 52 = some (.invokevirtual 297, 30, 1, 0) := by decide +kernel
theorem at_115_55 : j_at 115 55 = some (.ireturn, 0, 0, 0) := by decide +kernel
theorem at_116_0 : j_at 116 0 = some (.iload_n 1, 0, 0, 0) := by decide +kernel
theorem at_116_1 : j_at 116 1 = some (.iconst (-1), 0, 0, -1) := by decide +kernel
theorem at_116_2 : j_at 116 2 = some (.if_icmp .ne 13, 15, 0, 0) := by decide +kernel
theorem at_116_5 : j_at 116 5 = some (.aload_n 0, 0, 0, 0) := by decide +kernel
theorem at_116_6 : j_at 116 6 = some (.getfield 14, 10, 0, 0) := by decide +kernel
theorem at_116_9 : j_at 116 9 = some (.iconst 0, 0, 0, 0) := by decide +kernel
theorem at_116_10 : j_at 116 10 = some (.putfield 300, 4, 5, 0) := by decide +kernel
theorem at_116_13 : j_at 116 13 = some (.iconst 0, 0, 0, 0) := by decide +kernel
theorem at_116_14 : j_at 116 14 = some (.ireturn, 0, 0, 0) := by decide +kernel
theorem at_116_15 : j_at 116 15 = some (.aload_n 0, 0, 0, 0) := by decide +kernel
theorem at_116_16 : j_at 116 16 = some (.iload_n 1, 0, 0, 0) := by decide +kernel
theorem at_116_17 : j_at 116 17 = some (.invokevirtual 92, 135, 1, 0) := by decide +kernel
theorem at_116_20 : j_at 116 20 = some (.ifCond .ne 5, 25, 0, 0) := by decide +kernel
theorem at_116_23 : j_at 116 23 = some (.iconst (-1), 0, 0, -1) := by decide +kernel
theorem at_116_24 : j_at 116 24 = some (.ireturn, 0, 0, 0) := by decide +kernel
theorem at_116_25 : j_at 116 25 = some (.iload_n 2, 0, 0, 0) := by decide +kernel
theorem at_116_26 : j_at 116 26 = some (.ifCond .lt 10, 36, 0, 0) := by decide +kernel
theorem at_116_29 : j_at 116 29 = some (.iload_n 2, 0, 0, 0) := by decide +kernel
theorem at_116_30 : j_at 116 30 = some (.sipush 999, 0, 0, 999) := by decide +kernel
theorem at_116_33 : j_at 116 33 = some (.if_icmp .le 6, 39, 0, 0) := by decide +kernel
theorem at_116_36 : j_at 116 36 = some (.bipush (-2), 0, 0, -2) := by decide +kernel
theorem at_116_38 : j_at 116 38 = some (.ireturn, 0, 0, 0) := by decide +kernel
theorem at_116_39 : j_at 116 39 = some (.aload_n 0, 0, 0, 0) := by decide +kernel
theorem at_116_40 : j_at 116 40 = some (.getfield 14, 10, 0, 0) := by decide +kernel
theorem at_116_43 : j_at 116 43 = some (.getfield 300, 4, 5, 0) := by decide +kernel
theorem at_116_46 : j_at 116 46 = some (.iconst 5, 0, 0, 5) := by decide +kernel
theorem at_116_47 : j_at 116 47 = some (.if_icmp .lt 6, 53, 0, 0) := by decide +kernel
theorem at_116_50 : j_at 116 50 = some (.bipush (-4), 0, 0, -4) := by decide +kernel
theorem at_116_52 : j_at 116 52 = some (.ireturn, 0, 0, 0) := by decide +kernel
theorem at_116_53 : j_at 116 53 = some (.aload_n 0, 0, 0, 0) := by decide +kernel
theorem at_116_54 : j_at 116 54 = some (.getfield 14, 10, 0, 0) := by decide +kernel
theorem at_116_57 : j_at 116 57 = some (.iload_n 1, 0, 0, 0) := by decide +kernel
theorem at_116_58 : j_at 116 58 = some (.iload_n 2, 0, 0, 0) := by decide +kernel
theorem at_116_59 : j_at 116 59 = some (.invokevirtual 303, 34, 2, 0) := by decide +kernel
theorem at_116_62 : j_at 116 62 = some (.aload_n 0, 0, 0, 0) := by decide +kernel
theorem at_116_63 : j_at 116 63 = some (.getfield 14, 10, 0, 0) := by decide +kernel
theorem at_116_66 : j_at 116 66 = some (.getfield 300, 4, 5, 0) := by decide +kernel
theorem at_116_69 : j_at 116 69 = some (.ireturn, 0, 0, 0) := by decide +kernel
theorem at_117_0 : j_at 117 0 = some (.aload_n 0, 0, 0, 0) := by decide +kernel
theorem at_117_1 : j_at 117 1 = some (.iload_n 1, 0, 0, 0) := by decide +kernel
theorem at_117_2 : j_at 117 2 = some (.invokevirtual 116, 136, 1, 0) := by decide +kernel
theorem at_117_5 : j_at 117 5 = some (.ifCond .eq 12, 17, 0, 0) := by decide +kernel
theorem at_117_8 : j_at 117 8 = some (.iload_n 2, 0, 0, 0) := by decide +kernel
theorem at_117_9 : j_at 117 9 = some (.ifCond .lt 8, 17, 0, 0) := by decide +kernel
theorem at_117_12 : j_at 117 12 = some (.iload_n 2, 0, 0, 0) := by decide +kernel
theorem at_117_13 : j_at 117 13 = some (.iconst 1, 0, 0, 1) := by decide +kernel
theorem at_117_14 : j_at 117 14 = some (.if_icmp .le 5, 19, 0, 0) := by decide +kernel
theorem at_117_17 : j_at 117 17 = some (.iconst (-1), 0, 0, -1) := by decide +kernel
theorem at_117_18 : j_at 117 18 = some (.ireturn, 0, 0, 0) := by decide +kernel
theorem at_117_19 : j_at 117 19 = some (.iconst 0, 0, 0, 0) := by decide +kernel
theorem at_117_20 : j_at 117 20 = some (.istore_n 3, 0, 0, 0) := by decide +kernel
theorem at_117_21 : j_at 117 21 = some (.bipush (-5), 0, 0, -5) := by decide +kernel
theorem at_117_23 : j_at 117 23 = some (.istore 4, 0, 0, 0) := by decide +kernel
theorem at_117_25 : j_at 117 25 = some (.aload_n 0, 0, 0, 0) := by decide +kernel
theorem at_117_26 : j_at 117 26 = some (.getfield 24, 10, 2, 0) := by decide +kernel
theorem at_117_29 : j_at 117 29 = some (.aload_n 0, 0, 0, 0) := by decide +kernel
theorem at_117_30 : j_at 117 30 = some (.getfield 14, 10, 0, 0) := by decide +kernel
theorem at_117_33 : j_at 117 33 = some (.getfield 77, 4, 0, 0) := by decide +kernel
theorem at_117_36 : j_at 117 36 = some (.invokevirtual 294, 8, 1, 0) := by decide +kernel
theorem at_117_39 : j_at 117 39 = some (.iconst 0, 0, 0, 0) := by decide +kernel
theorem at_117_40 : j_at 117 40 = some (.istore 5, 0, 0, 0) := by decide +kernel
theorem at_117_42 : j_at 117 42 = some (.iload 5, 0, 0, 0) := by decide +kernel
theorem at_117_44 : j_at 117 44 = some (.bipush 45, 0, 0, 45) := by decide +kernel
theorem at_117_46 : j_at 117 46 = some (.if_icmp .gt 41, 87, 0, 0) := by decide +kernel
theorem at_117_49 : j_at 117 49 = some (.aload_n 0, 0, 0, 0) := by decide +kernel
theorem at_117_50 : j_at 117 50 = some (.getfield 24, 10, 2, 0) := by decide +kernel
theorem at_117_53 : j_at 117 53 = some (.getfield 130, 1, 4, 0) := by decide +kernel
theorem at_117_56 : j_at 117 56 = some (.iload_n 1, 0, 0, 0) := by decide +kernel
theorem at_117_57 : j_at 117 57 = some (.iload 5, 0, 0, 0) := by decide +kernel
theorem at_117_59 : j_at 117 59 = some (.iastore, 0, 0, 0) := by decide +kernel
theorem at_117_60 : j_at 117 60 = some (.aload_n 0, 0, 0, 0) := by decide +kernel
theorem at_117_61 : j_at 117 61 = some (.invokevirtual 306, 145, 0, 0) := by decide +kernel
theorem at_117_64 : j_at 117 64 = some (.ifCond .ne 6, 70, 0, 0) := by decide +kernel
theorem at_117_67 : j_at 117 67 = some (.goto 14, 81, 0, 0) := by decide +kernel
theorem at_117_70 : j_at 117 70 = some (.iload_n 3, 0, 0, 0) := by decide +kernel
theorem at_117_71 : j_at 117 71 = some (.ifCond .ne 7, 78, 0, 0) := by decide +kernel
theorem at_117_74 : j_at 117 74 = some (.iload 5, 0, 0, 0) := by decide +kernel
theorem at_117_76 : j_at 117 76 = some (.istore 4, 0, 0, 0) := by decide +kernel
theorem at_117_78 : j_at 117 78 = some (.iinc 3 1, 0, 0, 0) := by decide +kernel
theorem at_117_81 : j_at 117 81 = some (.iinc 5 5, 0, 0, 0) := by decide +kernel
theorem at_117_84 : j_at 117 84 = some (.goto (-42), 42, 0, 0) := by decide +kernel
theorem at_117_87 : j_at 117 87 = some (.iload_n 2, 0, 0, 0) := by decide +kernel
theorem at_117_88 : j_at 117 88 = some (.ifCond .ne 7, 95, 0, 0) := by decide +kernel
theorem at_117_91 : j_at 117 91 = some (.iload_n 3, 0, 0, 0) := by decide +kernel
theorem at_117_92 : j_at 117 92 = some (.goto 5, 97, 0, 0) := by decide +kernel
theorem at_117_95 : j_at 117 95 = some (.iload 4, 0, 0, 0) := by decide +kernel
theorem at_117_97 : j_at 117 97 = some (.ireturn, 0, 0, 0) := by decide +kernel
theorem at_118_0 : j_at 118 0 = some (.aload_n 0, 0, 0, 0) := by decide +kernel
theorem at_118_1 : j_at 118 1 = some (.iload_n 1, 0, 0, 0) := by decide +kernel
theorem at_118_2 : j_at 118 2 = some (.invokevirtual 116, 136, 1, 0) := by decide +kernel
theorem at_118_5 : j_at 118 5 = some (.ifCond .eq 32, 37, 0, 0) := by decide +kernel
theorem at_118_8 : j_at 118 8 = some (.iload_n 2, 0, 0, 0) := by decide +kernel
theorem at_118_9 : j_at 118 9 = some (.invokestatic 106, 139, 1, 0) := by decide +kernel
theorem at_118_12 : j_at 118 12 = some (.ifCond .eq 25, 37, 0, 0) := by decide +kernel
theorem at_118_15 : j_at 118 15 = some (.iload_n 3, 0, 0, 0) := by decide +kernel
theorem at_118_16 : j_at 118 16 = some (.iconst 1, 0, 0, 1) := by decide +kernel
theorem at_118_17 : j_at 118 17 = some (.if_icmp .lt 20, 37, 0, 0) := by decide +kernel
theorem at_118_20 : j_at 118 20 = some (.iload_n 3, 0, 0, 0) := by decide +kernel
theorem at_118_21 : j_at 118 21 = some (.bipush 8, 0, 0, 8) := by decide +kernel
theorem at_118_23 : j_at 118 23 = some (.if_icmp .gt 14, 37, 0, 0) := by decide +kernel
theorem at_118_26 : j_at 118 26 = some (.iload_n 2, 0, 0, 0) := by decide +kernel
theorem at_118_27 : j_at 118 27 = some (.iload_n 3, 0, 0, 0) := by decide +kernel
theorem at_118_28 : j_at 118 28 = some (.iadd, 0, 0, 0) := by decide +kernel
theorem at_118_29 : j_at 118 29 = some (.iconst 1, 0, 0, 1) := by decide +kernel
theorem at_118_30 : j_at 118 30 = some (.isub, 0, 0, 0) := by decide +kernel
theorem at_118_31 : j_at 118 31 = some (.sipush 999, 0, 0, 999) := by decide +kernel
theorem at_118_34 : j_at 118 34 = some (.if_icmp .le 7, 41, 0, 0) := by decide +kernel
theorem at_118_37 : j_at 118 37 = some (.ldc2_w 170, 0, 0, -9223372036854775808) := by decide +kernel
theorem at_118_40 : j_at 118 40 = some (.lreturn, 0, 0, 0) := by decide +kernel
theorem at_118_41 : j_at 118 41 = some (.iload 4, 0, 0, 0) := by decide +kernel
theorem at_118_43 : j_at 118 43 = some (.ifCond .lt 11, 54, 0, 0) := by decide +kernel
theorem at_118_46 : j_at 118 46 = some (.iload 5, 0, 0, 0) := by decide +kernel
theorem at_118_48 : j_at 118 48 = some (.invokestatic 183, 141, 1, 0) := by decide +kernel
theorem at_118_51 : j_at 118 51 = some (.ifCond .ne 7, 58, 0, 0) := by decide +kernel
theorem at_118_54 : j_at 118 54 = some (.ldc2_w 170, 0, 0, -9223372036854775808) := by decide +kernel
theorem at_118_57 : j_at 118 57 = some (.lreturn, 0, 0, 0) := by decide +kernel
theorem at_118_58 : j_at 118 58 = some (.iconst 0, 0, 0, 0) := by decide +kernel
theorem at_118_59 : j_at 118 59 = some (.istore 6, 0, 0, 0) := by decide +kernel
theorem at_118_61 : j_at 118 61 = some (.aload_n 0, 0, 0, 0) := by decide +kernel
theorem at_118_62 : j_at 118 62 = some (.getfield 24, 10, 2, 0) := by decide +kernel
theorem at_118_65 : j_at 118 65 = some (.aload_n 0, 0, 0, 0) := by decide +kernel
theorem at_118_66 : j_at 118 66 = some (.getfield 14, 10, 0, 0) := by decide +kernel
theorem at_118_69 : j_at 118 69 = some (.getfield 77, 4, 0, 0) := by decide +kernel
theorem at_118_72 : j_at 118 72 = some (.invokevirtual 294, 8, 1, 0) := by decide +kernel
theorem at_118_75 : j_at 118 75 = some (.iconst 0, 0, 0, 0) := by decide +kernel
theorem at_118_76 : j_at 118 76 = some (.istore 7, 0, 0, 0) := by decide +kernel
theorem at_118_78 : j_at 118 78 = some (.iload 7, 0, 0, 0) := by decide +kernel
theorem at_118_80 : j_at 118 80 = some (.iload_n 3, 0, 0, 0) := by decide +kernel
theorem at_118_81 : j_at 118 81 = some (.if_icmp .ge 50, 131, 0, 0) := by decide +kernel
theorem at_118_84 : j_at 118 84 = some (.aload_n 0, 0, 0, 0) := by decide +kernel
theorem at_118_85 : j_at 118 85 = some (.getfield 24, 10, 2, 0) := by decide +kernel
theorem at_118_88 : j_at 118 88 = some (.getfield 130, 1, 4, 0) := by decide +kernel
theorem at_118_91 : j_at 118 91 = some (.iload_n 1, 0, 0, 0) := by decide +kernel
theorem at_118_92 : j_at 118 92 = some (.iload_n 2, 0, 0, 0) := by decide +kernel
theorem at_118_93 : j_at 118 93 = some (.iload 7, 0, 0, 0) := by decide +kernel
theorem at_118_95 : j_at 118 95 = some (.iadd, 0, 0, 0) := by decide +kernel
theorem at_118_96 : j_at 118 96 = some (.iastore, 0, 0, 0) := by decide +kernel
theorem at_118_97 : j_at 118 97 = some (.aload_n 0, 0, 0, 0) := by decide +kernel
theorem at_118_98 : j_at 118 98 = some (.getfield 35, 10, 4, 0) := by decide +kernel
theorem at_118_101 : j_at 118 101 = some (.aload_n 0, 0, 0, 0) := by decide +kernel
theorem at_118_102 : j_at 118 102 = some (.getfield 24, 10, 2, 0) := by decide +kernel
theorem at_118_105 : j_at 118 105 = some (.invokevirtual 297, 30, 1, 0) := by decide +kernel
theorem at_118_108 : j_at 118 108 = some (.istore 8, 0, 0, 0) := by decide +kernel
theorem at_118_110 : j_at 118 110 = some (.iload 8, 0, 0, 0) := by decide +kernel
theorem at_118_112 : j_at 118 112 = some (.ifCond .lt 13, 125, 0, 0) := by decide +kernel
theorem at_118_115 : j_at 118 115 = some (.iload 8, 0, 0, 0) := by decide +kernel
theorem at_118_117 : j_at 118 117 = some (.iload 4, 0, 0, 0) := by decide +kernel
theorem at_118_119 : j_at 118 119 = some (.if_icmp .gt 6, 125, 0, 0) := by decide +kernel
theorem at_118_122 : j_at 118 122 = some (.iinc 6 1, 0, 0, 0) := by decide +kernel
theorem at_118_125 : j_at 118 125 = some (.iinc 7 1, 0, 0, 0) := by decide +kernel
theorem at_118_128 : j_at 118 128 = some (.goto (-50), 78, 0, 0) := by decide +kernel
theorem at_118_131 : j_at 118 131 = some (.iload 6, 0, 0, 0) := by decide +kernel
theorem at_118_133 : j_at 118 133 = some (.i2l, 0, 0, 0) := by decide +kernel
theorem at_118_134 : j_at 118 134 = some (.iload_n 3, 0, 0, 0) := by decide +kernel
theorem at_118_135 : j_at 118 135 = some (.i2l, 0, 0, 0) := by decide +kernel
theorem at_118_136 : j_at 118 136 = some (.iload 5, 0, 0, 0) := by decide +kernel
theorem at_118_138 : j_at 118 138 = some (.invokestatic 193, 146, 3, 0) := by decide +kernel
theorem at_118_141 : j_at 118 141 = some (.lreturn, 0, 0, 0) := by decide +kernel
theorem at_119_0 : j_at 119 0 = some (.iload_n 1, 0, 0, 0) := by decide +kernel
theorem at_119_1 : j_at 119 1 = some (.invokestatic 183, 141, 1, 0) := by decide +kernel
theorem at_119_4 : j_at 119 4 = some (.ifCond .ne 7, 11, 0, 0) := by decide +kernel
theorem at_119_7 : j_at 119 7 = some (.ldc2_w 170, 0, 0, -9223372036854775808) := by decide +kernel
theorem at_119_10 : j_at 119 10 = some (.lreturn, 0, 0, 0) := by decide +kernel
theorem at_119_11 : j_at 119 11 = some (.iconst 0, 0, 0, 0) := by decide +kernel
theorem at_119_12 : j_at 119 12 = some (.istore_n 2, 0, 0, 0) := by decide +kernel
theorem at_119_13 : j_at 119 13 = some (.iconst 0, 0, 0, 0) := by decide +kernel
theorem at_119_14 : j_at 119 14 = some (.istore_n 3, 0, 0, 0) := by decide +kernel
theorem at_119_15 : j_at 119 15 = some (.iload_n 3, 0, 0, 0) := by decide +kernel
theorem at_119_16 : j_at 119 16 = some (.aload_n 0, 0, 0, 0) := by decide +kernel
theorem at_119_17 : j_at 119 17 = some (.getfield 14, 10, 0, 0) := by decide +kernel
theorem at_119_20 : j_at 119 20 = some (.getfield 77, 4, 0, 0) := by decide +kernel
theorem at_119_23 : j_at 119 23 = some (.getfield 80, 1, 0, 0) := by decide +kernel
theorem at_119_26 : j_at 119 26 = some (.if_icmp .ge 24, 50, 0, 0) := by decide +kernel
theorem at_119_29 : j_at 119 29 = some (.iload_n 2, 0, 0, 0) := by decide +kernel
theorem at_119_30 : j_at 119 30 = some (.aload_n 0, 0, 0, 0) := by decide +kernel
theorem at_119_31 : j_at 119 31 = some (.getfield 14, 10, 0, 0) := by decide +kernel
theorem at_119_34 : j_at 119 34 = some (.getfield 77, 4, 0, 0) := by decide +kernel
theorem at_119_37 : j_at 119 37 = some (.getfield 96, 1, 2, 0) := by decide +kernel
theorem at_119_40 : j_at 119 40 = some (.iload_n 3, 0, 0, 0) := by decide +kernel
theorem at_119_41 : j_at 119 41 = some (.iaload, 0, 0, 0) := by decide +kernel
theorem at_119_42 : j_at 119 42 = some (.iadd, 0, 0, 0) := by decide +kernel
theorem at_119_43 : j_at 119 43 = some (.istore_n 2, 0, 0, 0) := by decide +kernel
theorem at_119_44 : j_at 119 44 = some (.iinc 3 1, 0, 0, 0) := by decide +kernel
theorem at_119_47 : j_at 119 47 = some (.goto (-32), 15, 0, 0) := by decide +kernel
theorem at_119_50 : j_at 119 50 = some (.iload_n 2, 0, 0, 0) := by decide +kernel
theorem at_119_51 : j_at 119 51 = some (.i2l, 0, 0, 0) := by decide +kernel
theorem at_119_52 : j_at 119 52 = some (.aload_n 0, 0, 0, 0) := by decide +kernel
theorem at_119_53 : j_at 119 53 = some (.getfield 14, 10, 0, 0) := by decide +kernel
theorem at_119_56 : j_at 119 56 = some (.getfield 77, 4, 0, 0) := by decide +kernel
theorem at_119_59 : j_at 119 59 = some (.getfield 80, 1, 0, 0) := by decide +kernel
theorem at_119_62 : j_at 119 62 = some (.i2l, 0, 0, 0) := by decide +kernel
theorem at_119_63 : j_at 119 63 = some (.iload_n 1, 0, 0, 0) := by decide +kernel
theorem at_119_64 : j_at 119 64 = some (.invokestatic 193, 146, 3, 0) := by decide +kernel
theorem at_119_67 : j_at 119 67 = some (.lreturn, 0, 0, 0) := by decide +kernel
theorem at_120_0 : j_at 120 0 = some (.iload_n 2, 0, 0, 0) := by decide +kernel
theorem at_120_1 : j_at 120 1 = some (.iconst 1, 0, 0, 1) := by decide +kernel
theorem at_120_2 : j_at 120 2 = some (.if_icmp .lt 8, 10, 0, 0) := by decide +kernel
theorem at_120_5 : j_at 120 5 = some (.iload_n 2, 0, 0, 0) := by decide +kernel
theorem at_120_6 : j_at 120 6 = some (.iconst 4, 0, 0, 4) := by decide +kernel
theorem at_120_7 : j_at 120 7 = some (.if_icmp .le 6, 13, 0, 0) := by decide +kernel
theorem at_120_10 : j_at 120 10 = some (.bipush (-2), 0, 0, -2) := by decide +kernel
theorem at_120_12 : j_at 120 12 = some (.ireturn, 0, 0, 0) := by decide +kernel
theorem at_120_13 : j_at 120 13 = some (.aload_n 0, 0, 0, 0) := by decide +kernel
theorem at_120_14 : j_at 120 14 = some (.getfield 24, 10, 2, 0) := by decide +kernel
theorem at_120_17 : j_at 120 17 = some (.aload_n 0, 0, 0, 0) := by decide +kernel
theorem at_120_18 : j_at 120 18 = some (.getfield 14, 10, 0, 0) := by decide +kernel
theorem at_120_21 : j_at 120 21 = some (.getfield 77, 4, 0, 0) := by decide +kernel
theorem at_120_24 : j_at 120 24 = some (.invokevirtual 294, 8, 1, 0) := by decide +kernel
theorem at_120_27 : j_at 120 27 = some (.aload_n 0, 0, 0, 0) := by decide +kernel
theorem at_120_28 : j_at 120 28 = some (.getfield 24, 10, 2, 0) := by decide +kernel
theorem at_120_31 : j_at 120 31 = some (.iload_n 1, 0, 0, 0) := by decide +kernel
theorem at_120_32 : j_at 120 32 = some (.iload_n 2, 0, 0, 0) := by decide +kernel
theorem at_120_33 : j_at 120 33 = some (.invokevirtual 309, 18, 2, 0) := by decide +kernel
theorem at_120_36 : j_at 120 36 = some (.aload_n 0, 0, 0, 0) := by decide +kernel
theorem at_120_37 : j_at 120 37 = some (.getfield 35, 10, 4, 0) := by decide +kernel
theorem at_120_40 : j_at 120 40 = some (.aload_n 0, 0, 0, 0) := by decide +kernel
theorem at_120_41 : j_at 120 41 = some (.getfield 24, 10, 2, 0) := by decide +kernel
theorem at_120_44 : j_at 120 44 = some (.invokevirtual 297, 30, 1, 0) := by decide +kernel
theorem at_120_47 : j_at 120 47 = some (.ireturn, 0, 0, 0) := by decide +kernel
theorem at_121_0 : j_at 121 0 = some (.aload_n 0, 0, 0, 0) := by decide +kernel
theorem at_121_1 : j_at 121 1 = some (.iload_n 1, 0, 0, 0) := by decide +kernel
theorem at_121_2 : j_at 121 2 = some (.invokevirtual 265, 138, 1, 0) := by decide +kernel
theorem at_121_5 : j_at 121 5 = some (.ifCond .eq 14, 19, 0, 0) := by decide +kernel
theorem at_121_8 : j_at 121 8 = some (.iload_n 2, 0, 0, 0) := by decide +kernel
theorem at_121_9 : j_at 121 9 = some (.ifCond .lt 10, 19, 0, 0) := by decide +kernel
theorem at_121_12 : j_at 121 12 = some (.iload_n 2, 0, 0, 0) := by decide +kernel
theorem at_121_13 : j_at 121 13 = some (.sipush 999, 0, 0, 999) := by decide +kernel
theorem at_121_16 : j_at 121 16 = some (.if_icmp .le 6, 22, 0, 0) := by decide +kernel
theorem at_121_19 : j_at 121 19 = some (.bipush (-2), 0, 0, -2) := by decide +kernel
theorem at_121_21 : j_at 121 21 = some (.ireturn, 0, 0, 0) := by decide +kernel
theorem at_121_22 : j_at 121 22 = some (.aload_n 0, 0, 0, 0) := by decide +kernel
theorem at_121_23 : j_at 121 23 = some (.getfield 14, 10, 0, 0) := by decide +kernel
theorem at_121_26 : j_at 121 26 = some (.getfield 100, 4, 1, 0) := by decide +kernel
theorem at_121_29 : j_at 121 29 = some (.iload_n 1, 0, 0, 0) := by decide +kernel
theorem at_121_30 : j_at 121 30 = some (.invokevirtual 312, 23, 1, 0) := by decide +kernel
theorem at_121_33 : j_at 121 33 = some (.istore_n 3, 0, 0, 0) := by decide +kernel
theorem at_121_34 : j_at 121 34 = some (.iload_n 3, 0, 0, 0) := by decide +kernel
theorem at_121_35 : j_at 121 35 = some (.ifCond .lt 33, 68, 0, 0) := by decide +kernel
theorem at_121_38 : j_at 121 38 = some (.aload_n 0, 0, 0, 0) := by decide +kernel
theorem at_121_39 : j_at 121 39 = some (.getfield 14, 10, 0, 0) := by decide +kernel
theorem at_121_42 : j_at 121 42 = some (.getfield 100, 4, 1, 0) := by decide +kernel
theorem at_121_45 : j_at 121 45 = some (.getfield 315, 2, 3, 0) := by decide +kernel
theorem at_121_48 : j_at 121 48 = some (.iload_n 3, 0, 0, 0) := by decide +kernel
theorem at_121_49 : j_at 121 49 = some (.iaload, 0, 0, 0) := by decide +kernel
theorem at_121_50 : j_at 121 50 = some (.istore 4, 0, 0, 0) := by decide +kernel
theorem at_121_52 : j_at 121 52 = some (.aload_n 0, 0, 0, 0) := by decide +kernel
theorem at_121_53 : j_at 121 53 = some (.getfield 14, 10, 0, 0) := by decide +kernel
theorem at_121_56 : j_at 121 56 = some (.getfield 100, 4, 1, 0) := by decide +kernel
theorem at_121_59 : j_at 121 59 = some (.getfield 315, 2, 3, 0) := by decide +kernel
theorem at_121_62 : j_at 121 62 = some (.iload_n 3, 0, 0, 0) := by decide +kernel
theorem at_121_63 : j_at 121 63 = some (.iload_n 2, 0, 0, 0) := by decide +kernel
theorem at_121_64 : j_at 121 64 = some (.iastore, 0, 0, 0) := by decide +kernel
theorem at_121_65 : j_at 121 65 = some (.iload 4, 0, 0, 0) := by decide +kernel
theorem at_121_67 : j_at 121 67 = some (.ireturn, 0, 0, 0) := by decide +kernel
theorem at_121_68 : j_at 121 68 = some (.aload_n 0, 0, 0, 0) := by decide +kernel
theorem at_121_69 : j_at 121 69 = some (.getfield 14, 10, 0, 0) := by decide +kernel
theorem at_121_72 : j_at 121 72 = some (.getfield 100, 4, 1, 0) := by decide +kernel
theorem at_121_75 : j_at 121 75 = some (.getfield 257, 2, 0, 0) := by decide +kernel
theorem at_121_78 : j_at 121 78 = some (.bipush 20, 0, 0, 20) := by decide +kernel
theorem at_121_80 : j_at 121 80 = some (.if_icmp .lt 6, 86, 0, 0) := by decide +kernel
theorem at_121_83 : j_at 121 83 = some (.bipush (-4), 0, 0, -4) := by decide +kernel
theorem at_121_85 : j_at 121 85 = some (.ireturn, 0, 0, 0) := by decide +kernel
theorem at_121_86 : j_at 121 86 = some (.aload_n 0, 0, 0, 0) := by decide +kernel
theorem at_121_87 : j_at 121 87 = some (.getfield 14, 10, 0, 0) := by decide +kernel
theorem at_121_90 : j_at 121 90 = some (.getfield 100, 4, 1, 0) := by decide +kernel
theorem at_121_93 : j_at 121 93 = some (.iload_n 1, 0, 0, 0) := by decide +kernel
theorem at_121_94 : j_at 121 94 = some (.aload_n 0, 0, 0, 0) := by decide +kernel
theorem at_121_95 : j_at 121 95 = some (.getfield 14, 10, 0, 0) := by decide +kernel
theorem at_121_98 : j_at 121 98 = some (.getfield 77, 4, 0, 0) := by decide +kernel
theorem at_121_101 : j_at 121 101 = some (.iload_n 1, 0, 0, 0) := by decide +kernel
theorem at_121_102 : j_at 121 102 = some (.invokevirtual 318, 14, 1, 0) := by decide +kernel
theorem at_121_105 : j_at 121 105 = some (.iload_n 2, 0, 0, 0) := by decide +kernel
theorem at_121_106 : j_at 121 106 = some (.invokevirtual 321, 25, 3, 0) := by decide +kernel
theorem at_121_109 : j_at 121 109 = some (.bipush (-5), 0, 0, -5) := by decide +kernel
theorem at_121_111 : j_at 121 111 = some (.ireturn, 0, 0, 0) := by decide +kernel
theorem at_122_0 : j_at 122 0 = some (.iload_n 2, 0, 0, 0) := by decide +kernel
theorem at_122_1 : j_at 122 1 = some (.ifCond .lt 8, 9, 0, 0) := by decide +kernel
theorem at_122_4 : j_at 122 4 = some (.iload_n 2, 0, 0, 0) := by decide +kernel
theorem at_122_5 : j_at 122 5 = some (.iconst 2, 0, 0, 2) := by decide +kernel
theorem at_122_6 : j_at 122 6 = some (.if_icmp .le 5, 11, 0, 0) := by decide +kernel
theorem at_122_9 : j_at 122 9 = some (.iconst (-1), 0, 0, -1) := by decide +kernel
theorem at_122_10 : j_at 122 10 = some (.ireturn, 0, 0, 0) := by decide +kernel
theorem at_122_11 : j_at 122 11 = some (.iload_n 1, 0, 0, 0) := by decide +kernel
theorem at_122_12 : j_at 122 12 = some (.ifCond .lt 17, 29, 0, 0) := by decide +kernel
theorem at_122_15 : j_at 122 15 = some (.iload_n 1, 0, 0, 0) := by decide +kernel
theorem at_122_16 : j_at 122 16 = some (.aload_n 0, 0, 0, 0) := by decide +kernel
theorem at_122_17 : j_at 122 17 = some (.getfield 14, 10, 0, 0) := by decide +kernel
theorem at_122_20 : j_at 122 20 = some (.getfield 100, 4, 1, 0) := by decide +kernel
theorem at_122_23 : j_at 122 23 = some (.getfield 257, 2, 0, 0) := by decide +kernel
theorem at_122_26 : j_at 122 26 = some (.if_icmp .lt 6, 32, 0, 0) := by decide +kernel
theorem at_122_29 : j_at 122 29 = some (.bipush (-2), 0, 0, -2) := by decide +kernel
theorem at_122_31 : j_at 122 31 = some (.ireturn, 0, 0, 0) := by decide +kernel
theorem at_122_32 : j_at 122 32 = some (.iload_n 2, 0, 0, 0) := by decide +kernel
theorem at_122_33 : j_at 122 33 = some (.ifCond .ne 16, 49, 0, 0) := by decide +kernel
theorem at_122_36 : j_at 122 36 = some (.aload_n 0, 0, 0, 0) := by decide +kernel
theorem at_122_37 : j_at 122 37 = some (.getfield 14, 10, 0, 0) := by decide +kernel
theorem at_122_40 : j_at 122 40 = some (.getfield 100, 4, 1, 0) := by decide +kernel
theorem at_122_43 : j_at 122 43 = some (.getfield 258, 2, 1, 0) := by decide +kernel
theorem at_122_46 : j_at 122 46 = some (.iload_n 1, 0, 0, 0) := by decide +kernel
theorem at_122_47 : j_at 122 47 = some (.iaload, 0, 0, 0) := by decide +kernel
theorem at_122_48 : j_at 122 48 = some (.ireturn, 0, 0, 0) := by decide +kernel
theorem at_122_49 : j_at 122 49 = some (.iload_n 2, 0, 0, 0) := by decide +kernel
theorem at_122_50 : j_at 122 50 = some (.iconst 1, 0, 0, 1) := by decide +kernel
theorem at_122_51 : j_at 122 51 = some (.if_icmp .ne 18, 69, 0, 0) := by decide +kernel
theorem at_122_54 : j_at 122 54 = some (.aload_n 0, 0, 0, 0) := by decide +kernel
theorem at_122_55 : j_at 122 55 = some (.getfield 14, 10, 0, 0) := by decide +kernel
theorem at_122_58 : j_at 122 58 = some (.getfield 100, 4, 1, 0) := by decide +kernel
theorem at_122_61 : j_at 122 61 = some (.getfield 315, 2, 3, 0) := by decide +kernel
theorem at_122_64 : j_at 122 64 = some (.iload_n 1, 0, 0, 0) := by decide +kernel
theorem at_122_65 : j_at 122 65 = some (.iaload, 0, 0, 0) := by decide +kernel
theorem at_122_66 : j_at 122 66 = some (.goto 15, 81, 0, 0) := by decide +kernel
theorem at_122_69 : j_at 122 69 = some (.aload_n 0, 0, 0, 0) := by decide +kernel
theorem at_122_70 : j_at 122 70 = some (.getfield 14, 10, 0, 0) := by decide +kernel
theorem at_122_73 : j_at 122 73 = some (.getfield 100, 4, 1, 0) := by decide +kernel
theorem at_122_76 : j_at 122 76 = some (.getfield 324, 2, 2, 0) := by decide +kernel
theorem at_122_79 : j_at 122 79 = some (.iload_n 1, 0, 0, 0) := by decide +kernel
theorem at_122_80 : j_at 122 80 = some (.iaload, 0, 0, 0) := by decide +kernel
theorem at_122_81 : j_at 122 81 = some (.ireturn, 0, 0, 0) := by decide +kernel
theorem at_123_0 : j_at 123 0 = some (.bipush (-5), 0, 0, -5) := by decide +kernel
theorem at_123_2 : j_at 123 2 = some (.istore_n 2, 0, 0, 0) := by decide +kernel
theorem at_123_3 : j_at 123 3 = some (.iconst 0, 0, 0, 0) := by decide +kernel
theorem at_123_4 : j_at 123 4 = some (.istore_n 3, 0, 0, 0) := by decide +kernel
theorem at_123_5 : j_at 123 5 = some (.iload_n 3, 0, 0, 0) := by decide +kernel
theorem at_123_6 : j_at 123 6 = some (.aload_n 0, 0, 0, 0) := by decide +kernel
theorem at_123_7 : j_at 123 7 = some (.getfield 14, 10, 0, 0) := by decide +kernel
theorem at_123_10 : j_at 123 10 = some (.getfield 100, 4, 1, 0) := by decide +kernel
theorem at_123_13 : j_at 123 13 = some (.getfield 257, 2, 0, 0) := by decide +kernel
theorem at_123_16 : j_at 123 16 = some (.if_icmp .ge 38, 54, 0, 0) := by decide +kernel
theorem at_123_19 : j_at 123 19 = some (.aload_n 0, 0, 0, 0) := by decide +kernel
theorem at_123_20 : j_at 123 20 = some (.getfield 14, 10, 0, 0) := by decide +kernel
theorem at_123_23 : j_at 123 23 = some (.getfield 100, 4, 1, 0) := by decide +kernel
theorem at_123_26 : j_at 123 26 = some (.getfield 324, 2, 2, 0) := by decide +kernel
theorem at_123_29 : j_at 123 29 = some (.iload_n 3, 0, 0, 0) := by decide +kernel
theorem at_123_30 : j_at 123 30 = some (.iaload, 0, 0, 0) := by decide +kernel
theorem at_123_31 : j_at 123 31 = some (.iload_n 1, 0, 0, 0) := by decide +kernel
theorem at_123_32 : j_at 123 32 = some (.if_icmp .gt 16, 48, 0, 0) := by decide +kernel
theorem at_123_35 : j_at 123 35 = some (.aload_n 0, 0, 0, 0) := by decide +kernel
theorem at_123_36 : j_at 123 36 = some (.getfield 14, 10, 0, 0) := by decide +kernel
theorem at_123_39 : j_at 123 39 = some (.getfield 100, 4, 1, 0) := by decide +kernel
theorem at_123_42 : j_at 123 42 = some (.getfield 258, 2, 1, 0) := by decide +kernel
theorem at_123_45 : j_at 123 45 = some (.iload_n 3, 0, 0, 0) := by decide +kernel
theorem at_123_46 : j_at 123 46 = some (.iaload, 0, 0, 0) := by decide +kernel
theorem at_123_47 : j_at 123 47 = some (.istore_n 2, 0, 0, 0) := by decide +kernel
theorem at_123_48 : j_at 123 48 = some (.iinc 3 1, 0, 0, 0) := by decide +kernel
theorem at_123_51 : j_at 123 51 = some (.goto (-46), 5, 0, 0) := by decide +kernel
theorem at_123_54 : j_at 123 54 = some (.iload_n 2, 0, 0, 0) := by decide +kernel
theorem at_123_55 : j_at 123 55 = some (.ireturn, 0, 0, 0) := by decide +kernel
theorem at_124_0 : j_at 124 0 = some (.iconst (-1), 0, 0, -1) := by decide +kernel
theorem at_124_1 : j_at 124 1 = some (.istore_n 1, 0, 0, 0) := by decide +kernel
theorem at_124_2 : j_at 124 2 = some (.iconst 0, 0, 0, 0) := by decide +kernel
theorem at_124_3 : j_at 124 3 = some (.istore_n 2, 0, 0, 0) := by decide +kernel
theorem at_124_4 : j_at 124 4 = some (.iload_n 2, 0, 0, 0) := by decide +kernel
theorem at_124_5 : j_at 124 5 = some (.aload_n 0, 0, 0, 0) := by decide +kernel
theorem at_124_6 : j_at 124 6 = some (.getfield 14, 10, 0, 0) := by decide +kernel
theorem at_124_9 : j_at 124 9 = some (.getfield 100, 4, 1, 0) := by decide +kernel
theorem at_124_12 : j_at 124 12 = some (.getfield 257, 2, 0, 0) := by decide +kernel
theorem at_124_15 : j_at 124 15 = some (.if_icmp .ge 40, 55, 0, 0) := by decide +kernel
theorem at_124_18 : j_at 124 18 = some (.iload_n 1, 0, 0, 0) := by decide +kernel
theorem at_124_19 : j_at 124 19 = some (.ifCond .lt 28, 47, 0, 0) := by decide +kernel
theorem at_124_22 : j_at 124 22 = some (.aload_n 0, 0, 0, 0) := by decide +kernel
theorem at_124_23 : j_at 124 23 = some (.getfield 14, 10, 0, 0) := by decide +kernel
theorem at_124_26 : j_at 124 26 = some (.getfield 100, 4, 1, 0) := by decide +kernel
theorem at_124_29 : j_at 124 29 = some (.iload_n 2, 0, 0, 0) := by decide +kernel
theorem at_124_30 : j_at 124 30 = some (.invokevirtual 325, 24, 1, 0) := by decide +kernel
theorem at_124_33 : j_at 124 33 = some (.aload_n 0, 0, 0, 0) := by decide +kernel
theorem at_124_34 : j_at 124 34 = some (.getfield 14, 10, 0, 0) := by decide +kernel
theorem at_124_37 : j_at 124 37 = some (.getfield 100, 4, 1, 0) := by decide +kernel
theorem at_124_40 : j_at 124 40 = some (.iload_n 1, 0, 0, 0) := by decide +kernel
theorem at_124_41 : j_at 124 41 = some (.invokevirtual 325, 24, 1, 0) := by decide +kernel
theorem at_124_44 : j_at 124 44 = some (.if_icmp .le 5, 49, 0, 0) := by decide +kernel
theorem at_124_47 : j_at 124 47 = some (.iload_n 2, 0, 0, 0) := by decide +kernel
theorem at_124_48 : j_at 124 48 = some (.istore_n 1, 0, 0, 0) := by decide +kernel
theorem at_124_49 : j_at 124 49 = some (.iinc 2 1, 0, 0, 0) := by decide +kernel
theorem at_124_52 : j_at 124 52 = some (.goto (-48), 4, 0, 0) := by decide +kernel
theorem at_124_55 : j_at 124 55 = some (.iload_n 1, 0, 0, 0) := by decide +kernel
theorem at_124_56 : j_at 124 56 = some (.ifCond .ge 8, 64, 0, 0) := by decide +kernel
theorem at_124_59 : j_at 124 59 = some (.bipush (-5), 0, 0, -5) := by decide +kernel
theorem at_124_61 : j_at 124 61 = some (.goto 15, 76, 0, 0) := by decide +kernel
theorem at_124_64 : j_at 124 64 = some (.aload_n 0, 0, 0, 0) := by decide +kernel
theorem at_124_65 : j_at 124 65 = some (.getfield 14, 10, 0, 0) := by decide +kernel
theorem at_124_68 : j_at 124 68 = some (.getfield 100, 4, 1, 0) := by decide +kernel
theorem at_124_71 : j_at 124 71 = some (.getfield 258, 2, 1, 0) := by decide +kernel
theorem at_124_74 : j_at 124 74 = some (.iload_n 1, 0, 0, 0) := by decide +kernel
theorem at_124_75 : j_at 124 75 = some (.iaload, 0, 0, 0) := by decide +kernel
theorem at_124_76 : j_at 124 76 = some (.ireturn, 0, 0, 0) := by decide +kernel
theorem at_125_0 : j_at 125 0 = some (.iload_n 1, 0, 0, 0) := by decide +kernel
theorem at_125_1 : j_at 125 1 = some (.iconst (-1), 0, 0, -1) := by decide +kernel
theorem at_125_2 : j_at 125 2 = some (.if_icmp .ne 13, 15, 0, 0) := by decide +kernel
theorem at_125_5 : j_at 125 5 = some (.aload_n 0, 0, 0, 0) := by decide +kernel
theorem at_125_6 : j_at 125 6 = some (.getfield 14, 10, 0, 0) := by decide +kernel
theorem at_125_9 : j_at 125 9 = some (.iconst 0, 0, 0, 0) := by decide +kernel
theorem at_125_10 : j_at 125 10 = some (.putfield 328, 4, 8, 0) := by decide +kernel
theorem at_125_13 : j_at 125 13 = some (.iconst 0, 0, 0, 0) := by decide +kernel
theorem at_125_14 : j_at 125 14 = some (.ireturn, 0, 0, 0) := by decide +kernel
theorem at_125_15 : j_at 125 15 = some (.iload_n 1, 0, 0, 0) := by decide +kernel
theorem at_125_16 : j_at 125 16 = some (.ifCond .lt 8, 24, 0, 0) := by decide +kernel
theorem at_125_19 : j_at 125 19 = some (.iload_n 1, 0, 0, 0) := by decide +kernel
theorem at_125_20 : j_at 125 20 = some (.iconst 2, 0, 0, 2) := by decide +kernel
theorem at_125_21 : j_at 125 21 = some (.if_icmp .le 5, 26, 0, 0) := by decide +kernel
theorem at_125_24 : j_at 125 24 = some (.iconst (-1), 0, 0, -1) := by decide +kernel
theorem at_125_25 : j_at 125 25 = some (.ireturn, 0, 0, 0) := by decide +kernel
theorem at_125_26 : j_at 125 26 = some (.iload_n 1, 0, 0, 0) := by decide +kernel
theorem at_125_27 : j_at 125 27 = some (.iconst 1, 0, 0, 1) := by decide +kernel
theorem at_125_28 : j_at 125 28 = some (.if_icmp .ne 14, 42, 0, 0) := by decide +kernel
theorem at_125_31 : j_at 125 31 = some (.aload_n 0, 0, 0, 0) := by decide +kernel
theorem at_125_32 : j_at 125 32 = some (.iload_n 2, 0, 0, 0) := by decide +kernel
theorem at_125_33 : j_at 125 33 = some (.invokevirtual 92, 135, 1, 0) := by decide +kernel
theorem at_125_36 : j_at 125 36 = some (.ifCond .ne 16, 52, 0, 0) := by decide +kernel
theorem at_125_39 : j_at 125 39 = some (.goto 11, 50, 0, 0) := by decide +kernel
theorem at_125_42 : j_at 125 42 = some (.aload_n 0, 0, 0, 0) := by decide +kernel
theorem at_125_43 : j_at 125 43 = some (.iload_n 2, 0, 0, 0) := by decide +kernel
theorem at_125_44 : j_at 125 44 = some (.invokevirtual 116, 136, 1, 0) := by decide +kernel
theorem at_125_47 : j_at 125 47 = some (.ifCond .ne 5, 52, 0, 0) := by decide +kernel
theorem at_125_50 : j_at 125 50 = some (.iconst (-1), 0, 0, -1) := by decide +kernel
theorem at_125_51 : j_at 125 51 = some (.ireturn, 0, 0, 0) := by decide +kernel
theorem at_125_52 : j_at 125 52 = some (.iload_n 1, 0, 0, 0) := by decide +kernel
theorem at_125_53 : j_at 125 53 = some (.iload_n 3, 0, 0, 0) := by decide +kernel
theorem at_125_54 : j_at 125 54 = some (.invokestatic 331, 143, 2, 0) := by decide +kernel
theorem at_125_57 : j_at 125 57 = some (.ifCond .ne 6, 63, 0, 0) := by decide +kernel
theorem at_125_60 : j_at 125 60 = some (.bipush (-2), 0, 0, -2) := by decide +kernel
theorem at_125_62 : j_at 125 62 = some (.ireturn, 0, 0, 0) := by decide +kernel
theorem at_125_63 : j_at 125 63 = some (.aload_n 0, 0, 0, 0) := by decide +kernel
theorem at_125_64 : j_at 125 64 = some (.getfield 14, 10, 0, 0) := by decide +kernel
theorem at_125_67 : j_at 125 67 = some (.getfield 328, 4, 8, 0) := by decide +kernel
theorem at_125_70 : j_at 125 70 = some (.bipush 8, 0, 0, 8) := by decide +kernel
theorem at_125_72 : j_at 125 72 = some (.if_icmp .lt 6, 78, 0, 0) := by decide +kernel
theorem at_125_75 : j_at 125 75 = some (.bipush (-4), 0, 0, -4) := by decide +kernel
theorem at_125_77 : j_at 125 77 = some (.ireturn, 0, 0, 0) := by decide +kernel
theorem at_125_78 : j_at 125 78 = some (.aload_n 0, 0, 0, 0) := by decide +kernel
theorem at_125_79 : j_at 125 79 = some (.getfield 14, 10, 0, 0) := by decide +kernel
theorem at_125_82 : j_at 125 82 = some (.iload_n 1, 0, 0, 0) := by decide +kernel
theorem at_125_83 : j_at 125 83 = some (.iload_n 2, 0, 0, 0) := by decide +kernel
theorem at_125_84 : j_at 125 84 = some (.iload_n 3, 0, 0, 0) := by decide +kernel
theorem at_125_85 : j_at 125 85 = some (.invokevirtual 335, 35, 3, 0) := by decide +kernel
theorem at_125_88 : j_at 125 88 = some (.aload_n 0, 0, 0, 0) := by decide +kernel
theorem at_125_89 : j_at 125 89 = some (.getfield 14, 10, 0, 0) := by decide +kernel
theorem at_125_92 : j_at 125 92 = some (.getfield 328, 4, 8, 0) := by decide +kernel
theorem at_125_95 : j_at 125 95 = some (.ireturn, 0, 0, 0) := by decide +kernel
theorem at_126_0 : j_at 126 0 = some (.aload_n 0, 0, 0, 0) := by decide +kernel
theorem at_126_1 : j_at 126 1 = some (.getfield 24, 10, 2, 0) := by decide +kernel
theorem at_126_4 : j_at 126 4 = some (.aload_n 0, 0, 0, 0) := by decide +kernel
theorem at_126_5 : j_at 126 5 = some (.getfield 14, 10, 0, 0) := by decide +kernel
theorem at_126_8 : j_at 126 8 = some (.getfield 77, 4, 0, 0) := by decide +kernel
theorem at_126_11 : j_at 126 11 = some (.invokevirtual 294, 8, 1, 0) := by decide +kernel
theorem at_126_14 : j_at 126 14 = some (.iconst 0, 0, 0, 0) := by decide +kernel
theorem at_126_15 : j_at 126 15 = some (.istore_n 1, 0, 0, 0) := by decide +kernel
theorem at_126_16 : j_at 126 16 = some (.iload_n 1, 0, 0, 0) := by decide +kernel
theorem at_126_17 : j_at 126 17 = some (.aload_n 0, 0, 0, 0) := by decide +kernel
theorem at_126_18 : j_at 126 18 = some (.getfield 14, 10, 0, 0) := by decide +kernel
theorem at_126_21 : j_at 126 21 = some (.getfield 328, 4, 8, 0) := by decide +kernel
theorem at_126_24 : j_at 126 24 = some (.if_icmp .ge 43, 67, 0, 0) := by decide +kernel
theorem at_126_27 : j_at 126 27 = some (.aload_n 0, 0, 0, 0) := by decide +kernel
theorem at_126_28 : j_at 126 28 = some (.getfield 24, 10, 2, 0) := by decide +kernel
theorem at_126_31 : j_at 126 31 = some (.aload_n 0, 0, 0, 0) := by decide +kernel
theorem at_126_32 : j_at 126 32 = some (.getfield 14, 10, 0, 0) := by decide +kernel
theorem at_126_35 : j_at 126 35 = some (.getfield 338, 4, 9, 0) := by decide +kernel
theorem at_126_38 : j_at 126 38 = some (.iload_n 1, 0, 0, 0) := by decide +kernel
theorem at_126_39 : j_at 126 39 = some (.iaload, 0, 0, 0) := by decide +kernel
theorem at_126_40 : j_at 126 40 = some (.aload_n 0, 0, 0, 0) := by decide +kernel
theorem at_126_41 : j_at 126 41 = some (.getfield 14, 10, 0, 0) := by decide +kernel
theorem at_126_44 : j_at 126 44 = some (.getfield 341, 4, 10, 0) := by decide +kernel
theorem at_126_47 : j_at 126 47 = some (.iload_n 1, 0, 0, 0) := by decide +kernel
theorem at_126_48 : j_at 126 48 = some (.iaload, 0, 0, 0) := by decide +kernel
theorem at_126_49 : j_at 126 49 = some (.aload_n 0, 0, 0, 0) := by decide +kernel
theorem at_126_50 : j_at 126 50 = some (.getfield 14, 10, 0, 0) := by decide +kernel
theorem at_126_53 : j_at 126 53 = some (.getfield 344, 4, 11, 0) := by decide +kernel
theorem at_126_56 : j_at 126 56 = some (.iload_n 1, 0, 0, 0) := by decide +kernel
theorem at_126_57 : j_at 126 57 = some (.iaload, 0, 0, 0) := by decide +kernel
theorem at_126_58 : j_at 126 58 = some (.invokevirtual 347, 17, 3, 0) := by decide +kernel
theorem at_126_61 : j_at 126 61 = some (.iinc 1 1, 0, 0, 0) := by decide +kernel
theorem at_126_64 : j_at 126 64 = some (.goto (-48), 16, 0, 0) := by decide +kernel
theorem at_126_67 : j_at 126 67 = some (.aload_n 0, 0, 0, 0) := by decide +kernel
theorem at_126_68 : j_at 126 68 = some (.getfield 35, 10, 4, 0) := by decide +kernel
theorem at_126_71 : j_at 126 71 = some (.aload_n 0, 0, 0, 0) := by decide +kernel
theorem at_126_72 : j_at 126 72 = some (.getfield 24, 10, 2, 0) := by decide +kernel
theorem at_126_75 : j_at 126 75 = some (.invokevirtual 297, 30, 1, 0) := by decide +kernel
theorem at_126_78 : j_at 126 78 = some (.ireturn, 0, 0, 0) := by decide +kernel
theorem at_127_0 : j_at 127 0 = some (.iload_n 1, 0, 0, 0) := by decide +kernel
theorem at_127_1 : j_at 127 1 = some (.invokestatic 350, 142, 1, 0) := by decide +kernel
theorem at_127_4 : j_at 127 4 = some (.ifCond .ne 5, 9, 0, 0) := by decide +kernel
theorem at_127_7 : j_at 127 7 = some (.iconst (-1), 0, 0, -1) := by decide +kernel
theorem at_127_8 : j_at 127 8 = some (.ireturn, 0, 0, 0) := by decide +kernel
theorem at_127_9 : j_at 127 9 = some (.aload_n 0, 0, 0, 0) := by decide +kernel
theorem at_127_10 : j_at 127 10 = some (.getfield 69, 10, 9, 0) := by decide +kernel
theorem at_127_13 : j_at 127 13 = some (.getfield 353, 6, 0, 0) := by decide +kernel
theorem at_127_16 : j_at 127 16 = some (.iload_n 1, 0, 0, 0) := by decide +kernel
theorem at_127_17 : j_at 127 17 = some (.iaload, 0, 0, 0) := by decide +kernel
theorem at_127_18 : j_at 127 18 = some (.iconst 2, 0, 0, 2) := by decide +kernel
theorem at_127_19 : j_at 127 19 = some (.if_icmp .eq 19, 38, 0, 0) := by decide +kernel
theorem at_127_22 : j_at 127 22 = some (.aload_n 0, 0, 0, 0) := by decide +kernel
theorem at_127_23 : j_at 127 23 = some (.getfield 69, 10, 9, 0) := by decide +kernel
theorem at_127_26 : j_at 127 26 = some (.getfield 353, 6, 0, 0) := by decide +kernel
theorem at_127_29 : j_at 127 29 = some (.iload_n 1, 0, 0, 0) := by decide +kernel
theorem at_127_30 : j_at 127 30 = some (.iaload, 0, 0, 0) := by decide +kernel
theorem at_127_31 : j_at 127 31 = some (.iconst (-1), 0, 0, -1) := by decide +kernel
theorem at_127_32 : j_at 127 32 = some (.if_icmp .eq 6, 38, 0, 0) := by decide +kernel
theorem at_127_35 : j_at 127 35 = some (.bipush (-12), 0, 0, -12) := by decide +kernel
theorem at_127_37 : j_at 127 37 = some (.ireturn, 0, 0, 0) := by decide +kernel
theorem at_127_38 : j_at 127 38 = some (.aload_n 0, 0, 0, 0) := by decide +kernel
theorem at_127_39 : j_at 127 39 = some (.getfield 88, 10, 11, 0) := by decide +kernel
theorem at_127_42 : j_at 127 42 = some (.ifCond .eq 14, 56, 0, 0) := by decide +kernel
theorem at_127_45 : j_at 127 45 = some (.aload_n 0, 0, 0, 0) := by decide +kernel
theorem at_127_46 : j_at 127 46 = some (.getfield 31, 10, 3, 0) := by decide +kernel
theorem at_127_49 : j_at 127 49 = some (.getfield 354, 3, 2, 0) := by decide +kernel
theorem at_127_52 : j_at 127 52 = some (.iconst 1, 0, 0, 1) := by decide +kernel
theorem at_127_53 : j_at 127 53 = some (.if_icmp .eq 6, 59, 0, 0) := by decide +kernel
theorem at_127_56 : j_at 127 56 = some (.bipush (-3), 0, 0, -3) := by decide +kernel
theorem at_127_58 : j_at 127 58 = some (.ireturn, 0, 0, 0) := by decide +kernel
theorem at_127_59 : j_at 127 59 = some (.aload_n 0, 0, 0, 0) := by decide +kernel
theorem at_127_60 : j_at 127 60 = some (.getfield 69, 10, 9, 0) := by decide +kernel
theorem at_127_63 : j_at 127 63 = some (.getfield 353, 6, 0, 0) := by decide +kernel
theorem at_127_66 : j_at 127 66 = some (.iload_n 1, 0, 0, 0) := by decide +kernel
theorem at_127_67 : j_at 127 67 = some (.iaload, 0, 0, 0) := by decide +kernel
theorem at_127_68 : j_at 127 68 = some (.iconst (-1), 0, 0, -1) := by decide +kernel
theorem at_127_69 : j_at 127 69 = some (.if_icmp .eq 20, 89, 0, 0) := by decide +kernel
theorem at_127_72 : j_at 127 72 = some (.iload_n 2, 0, 0, 0) := by decide +kernel
theorem at_127_73 : j_at 127 73 = some (.ifCond .lt 16, 89, 0, 0) := by decide +kernel
theorem at_127_76 : j_at 127 76 = some (.iload_n 2, 0, 0, 0) := by decide +kernel
theorem at_127_77 : j_at 127 77 = some (.aload_n 0, 0, 0, 0) := by decide +kernel
theorem at_127_78 : j_at 127 78 = some (.getfield 69, 10, 9, 0) := by decide +kernel
theorem at_127_81 : j_at 127 81 = some (.getfield 357, 6, 1, 0) := by decide +kernel
theorem at_127_84 : j_at 127 84 = some (.iload_n 1, 0, 0, 0) := by decide +kernel
theorem at_127_85 : j_at 127 85 = some (.iaload, 0, 0, 0) := by decide +kernel
theorem at_127_86 : j_at 127 86 = some (.if_icmp .le 7, 93, 0, 0) := by decide +kernel
theorem at_127_89 : j_at 127 89 = some (.iconst 0, 0, 0, 0) := by decide +kernel
theorem at_127_90 : j_at 127 90 = some (.goto 14, 104, 0, 0) := by decide +kernel
theorem at_127_93 : j_at 127 93 = some (.aload_n 0, 0, 0, 0) := by decide +kernel
theorem at_127_94 : j_at 127 94 = some (.getfield 69, 10, 9, 0) := by decide +kernel
theorem at_127_97 : j_at 127 97 = some (.getfield 357, 6, 1, 0) := by decide +kernel
theorem at_127_100 : j_at 127 100 = some (.iload_n 1, 0, 0, 0) := by decide +kernel
theorem at_127_101 : j_at 127 101 = some (.iaload, 0, 0, 0) := by decide +kernel
theorem at_127_102 : j_at 127 102 = some (.iload_n 2, 0, 0, 0) := by decide +kernel
theorem at_127_103 : j_at 127 103 = some (.isub, 0, 0, 0) := by decide +kernel
theorem at_127_104 : j_at 127 104 = some (.istore_n 3, 0, 0, 0) := by decide +kernel
theorem at_127_105 : j_at 127 105 = some (.iconst 0, 0, 0, 0) := by decide +kernel
theorem at_127_106 : j_at 127 106 = some (.istore 4, 0, 0, 0) := by decide +kernel
theorem at_127_108 : j_at 127 108 = some (.iload 4, 0, 0, 0) := by decide +kernel
theorem at_127_110 : j_at 127 110 = some (.aload_n 0, 0, 0, 0) := by decide +kernel
theorem at_127_111 : j_at 127 111 = some (.getfield 14, 10, 0, 0) := by decide +kernel
theorem at_127_114 : j_at 127 114 = some (.getfield 77, 4, 0, 0) := by decide +kernel
theorem at_127_117 : j_at 127 117 = some (.getfield 80, 1, 0, 0) := by decide +kernel
theorem at_127_120 : j_at 127 120 = some (.if_icmp .ge 54, 174, 0, 0) := by decide +kernel
theorem at_127_123 : j_at 127 123 = some (.iload 4, 0, 0, 0) := by decide +kernel
theorem at_127_125 : j_at 127 125 = some (.iload_n 3, 0, 0, 0) := by decide +kernel
theorem at_127_126 : j_at 127 126 = some (.if_icmp .lt 9, 135, 0, 0) := by decide +kernel
theorem at_127_129 : j_at 127 129 = some (.bipush 100, 0, 0, 100) := by decide +kernel
theorem at_127_131 : j_at 127 131 = some (.iload 4, 0, 0, 0) := by decide +kernel
theorem at_127_133 : j_at 127 133 = some (.iadd, 0, 0, 0) := by decide +kernel
theorem at_127_134 : j_at 127 134 = some (.ireturn, 0, 0, 0) := by decide +kernel
theorem at_127_135 : j_at 127 135 = some (.aload_n 0, 0, 0, 0) := by decide +kernel
theorem at_127_136 : j_at 127 136 = some (.getfield 69, 10, 9, 0) := by decide +kernel
theorem at_127_139 : j_at 127 139 = some (.getfield 360, 6, 2, 0) := by decide +kernel
theorem at_127_142 : j_at 127 142 = some (.iload_n 1, 0, 0, 0) := by decide +kernel
theorem at_127_143 : j_at 127 143 = some (.aaload, 0, 0, 0) := by decide +kernel
theorem at_127_144 : j_at 127 144 = some (.iload_n 2, 0, 0, 0) := by decide +kernel
theorem at_127_145 : j_at 127 145 = some (.iload 4, 0, 0, 0) := by decide +kernel
theorem at_127_147 : j_at 127 147 = some (.iadd, 0, 0, 0) := by decide +kernel
theorem at_127_148 : j_at 127 148 = some (.laload, 0, 0, 0) := by decide +kernel
theorem at_127_149 : j_at 127 149 = some (.aload_n 0, 0, 0, 0) := by decide +kernel
theorem at_127_150 : j_at 127 150 = some (.getfield 31, 10, 3, 0) := by decide +kernel
theorem at_127_153 : j_at 127 153 = some (.getfield 161, 3, 0, 0) := by decide +kernel
theorem at_127_156 : j_at 127 156 = some (.iload 4, 0, 0, 0) := by decide +kernel
theorem at_127_158 : j_at 127 158 = some (.invokevirtual 364, 54, 1, 0) := by decide +kernel
theorem at_127_161 : j_at 127 161 = some (.lcmp, 0, 0, 0) := by decide +kernel
theorem at_127_162 : j_at 127 162 = some (.ifCond .eq 6, 168, 0, 0) := by decide +kernel
theorem at_127_165 : j_at 127 165 = some (.iload 4, 0, 0, 0) := by decide +kernel
theorem at_127_167 : j_at 127 167 = some (.ireturn, 0, 0, 0) := by decide +kernel
theorem at_127_168 : j_at 127 168 = some (.iinc 4 1, 0, 0, 0) := by decide +kernel
theorem at_127_171 : j_at 127 171 = some (.goto (-63), 108, 0, 0) := by decide +kernel
theorem at_127_174 : j_at 127 174 = some (.bipush (-5), 0, 0, -5) := by decide +kernel
theorem at_127_176 : j_at 127 176 = some (.ireturn, 0, 0, 0) := by decide +kernel
theorem at_128_0 : j_at 128 0 = some (.aload_n 0, 0, 0, 0) := by decide +kernel
theorem at_128_1 : j_at 128 1 = some (.getfield 18, 10, 1, 0) := by decide +kernel
theorem at_128_4 : j_at 128 4 = some (.aload_n 0, 0, 0, 0) := by decide +kernel
theorem at_128_5 : j_at 128 5 = some (.getfield 14, 10, 0, 0) := by decide +kernel
theorem at_128_8 : j_at 128 8 = some (.invokevirtual 367, 32, 1, 0) := by decide +kernel
theorem at_128_11 : j_at 128 11 = some (.aload_n 0, 0, 0, 0) := by decide +kernel
theorem at_128_12 : j_at 128 12 = some (.iconst 1, 0, 0, 1) := by decide +kernel
theorem at_128_13 : j_at 128 13 = some (.putfield 370, 10, 12, 0) := by decide +kernel
theorem at_128_16 : j_at 128 16 = some (.aload_n 0, 0, 0, 0) := by decide +kernel
theorem at_128_17 : j_at 128 17 = some (.getfield 14, 10, 0, 0) := by decide +kernel
theorem at_128_20 : j_at 128 20 = some (.getfield 77, 4, 0, 0) := by decide +kernel
theorem at_128_23 : j_at 128 23 = some (.getfield 109, 1, 1, 0) := by decide +kernel
theorem at_128_26 : j_at 128 26 = some (.ireturn, 0, 0, 0) := by decide +kernel
theorem at_129_0 : j_at 129 0 = some (.aload_n 0, 0, 0, 0) := by decide +kernel
theorem at_129_1 : j_at 129 1 = some (.getfield 370, 10, 12, 0) := by decide +kernel
theorem at_129_4 : j_at 129 4 = some (.ifCond .ne 6, 10, 0, 0) := by decide +kernel
theorem at_129_7 : j_at 129 7 = some (.bipush (-3), 0, 0, -3) := by decide +kernel
theorem at_129_9 : j_at 129 9 = some (.ireturn, 0, 0, 0) := by decide +kernel
theorem at_129_10 : j_at 129 10 = some (.aload_n 0, 0, 0, 0) := by decide +kernel
theorem at_129_11 : j_at 129 11 = some (.getfield 14, 10, 0, 0) := by decide +kernel
theorem at_129_14 : j_at 129 14 = some (.aload_n 0, 0, 0, 0) := by decide +kernel
theorem at_129_15 : j_at 129 15 = some (.getfield 18, 10, 1, 0) := by decide +kernel
theorem at_129_18 : j_at 129 18 = some (.invokevirtual 367, 32, 1, 0) := by decide +kernel
theorem at_129_21 : j_at 129 21 = some (.aload_n 0, 0, 0, 0) := by decide +kernel
theorem at_129_22 : j_at 129 22 = some (.iconst 0, 0, 0, 0) := by decide +kernel
theorem at_129_23 : j_at 129 23 = some (.putfield 88, 10, 11, 0) := by decide +kernel
theorem at_129_26 : j_at 129 26 = some (.aload_n 0, 0, 0, 0) := by decide +kernel
theorem at_129_27 : j_at 129 27 = some (.getfield 14, 10, 0, 0) := by decide +kernel
theorem at_129_30 : j_at 129 30 = some (.getfield 77, 4, 0, 0) := by decide +kernel
theorem at_129_33 : j_at 129 33 = some (.getfield 109, 1, 1, 0) := by decide +kernel
theorem at_129_36 : j_at 129 36 = some (.ireturn, 0, 0, 0) := by decide +kernel
theorem at_130_0 : j_at 130 0 = some (.iload_n 1, 0, 0, 0) := by decide +kernel
theorem at_130_1 : j_at 130 1 = some (.tableswitch 186 0 9 #[55, 66, 77, 99, 121, 143, 151, 159, 170, 178], 0, 0, 0) := by decide +kernel
theorem at_130_56 : j_at 130 56 = some (.aload_n 0, 0, 0, 0) := by decide +kernel
theorem at_130_57 : j_at 130 57 = some (.getfield 14, 10, 0, 0) := by decide +kernel
theorem at_130_60 : j_at 130 60 = some (.getfield 77, 4, 0, 0) := by decide +kernel
theorem at_130_63 : j_at 130 63 = some (.getfield 80, 1, 0, 0) := by decide +kernel
theorem at_130_66 : j_at 130 66 = some (.ireturn, 0, 0, 0) := by decide +kernel
theorem at_130_67 : j_at 130 67 = some (.aload_n 0, 0, 0, 0) := by decide +kernel
theorem at_130_68 : j_at 130 68 = some (.getfield 14, 10, 0, 0) := by decide +kernel
theorem at_130_71 : j_at 130 71 = some (.getfield 77, 4, 0, 0) := by decide +kernel
theorem at_130_74 : j_at 130 74 = some (.getfield 109, 1, 1, 0) := by decide +kernel
theorem at_130_77 : j_at 130 77 = some (.ireturn, 0, 0, 0) := by decide +kernel
theorem at_130_78 : j_at 130 78 = some (.aload_n 0, 0, 0, 0) := by decide +kernel
theorem at_130_79 : j_at 130 79 = some (.getfield 88, 10, 11, 0) := by decide +kernel
theorem at_130_82 : j_at 130 82 = some (.ifCond .eq 16, 98, 0, 0) := by decide +kernel
theorem at_130_85 : j_at 130 85 = some (.aload_n 0, 0, 0, 0) := by decide +kernel
theorem at_130_86 : j_at 130 86 = some (.getfield 31, 10, 3, 0) := by decide +kernel
theorem at_130_89 : j_at 130 89 = some (.getfield 161, 3, 0, 0) := by decide +kernel
theorem at_130_92 : j_at 130 92 = some (.getfield 165, 5, 0, 0) := by decide +kernel
theorem at_130_95 : j_at 130 95 = some (.goto 4, 99, 0, 0) := by decide +kernel
theorem at_130_98 : j_at 130 98 = some (.iconst 0, 0, 0, 0) := by decide +kernel
theorem at_130_99 : j_at 130 99 = some (.ireturn, 0, 0, 0) := by decide +kernel
theorem at_130_100 : j_at 130 100 = some (.aload_n 0, 0, 0, 0) := by decide +kernel
theorem at_130_101 : j_at 130 101 = some (.getfield 88, 10, 11, 0) := by decide +kernel
theorem at_130_104 : j_at 130 104 = some (.ifCond .eq 16, 120, 0, 0) := by decide +kernel
theorem at_130_107 : j_at 130 107 = some (.aload_n 0, 0, 0, 0) := by decide +kernel
theorem at_130_108 : j_at 130 108 = some (.getfield 31, 10, 3, 0) := by decide +kernel
theorem at_130_111 : j_at 130 111 = some (.getfield 206, 3, 1, 0) := by decide +kernel
theorem at_130_114 : j_at 130 114 = some (.getfield 373, 0, 0, 0) := by decide +kernel
theorem at_130_117 : j_at 130 117 = some (.goto 4, 121, 0, 0) := by decide +kernel
theorem at_130_120 : j_at 130 120 = some (.iconst 0, 0, 0, 0) := by decide +kernel
theorem at_130_121 : j_at 130 121 = some (.ireturn, 0, 0, 0) := by decide +kernel
theorem at_130_122 : j_at 130 122 = some (.aload_n 0, 0, 0, 0) := by decide +kernel
theorem at_130_123 : j_at 130 123 = some (.getfield 88, 10, 11, 0) := by decide +kernel
theorem at_130_126 : j_at 130 126 = some (.ifCond .eq 16, 142, 0, 0) := by decide +kernel
theorem at_130_129 : j_at 130 129 = some (.aload_n 0, 0, 0, 0) := by decide +kernel
theorem at_130_130 : j_at 130 130 = some (.getfield 31, 10, 3, 0) := by decide +kernel
theorem at_130_133 : j_at 130 133 = some (.getfield 161, 3, 0, 0) := by decide +kernel
theorem at_130_136 : j_at 130 136 = some (.getfield 374, 5, 2, 0) := by decide +kernel
theorem at_130_139 : j_at 130 139 = some (.goto 4, 143, 0, 0) := by decide +kernel
theorem at_130_142 : j_at 130 142 = some (.iconst 0, 0, 0, 0) := by decide +kernel
theorem at_130_143 : j_at 130 143 = some (.ireturn, 0, 0, 0) := by decide +kernel
theorem at_130_144 : j_at 130 144 = some (.aload_n 0, 0, 0, 0) := by decide +kernel
theorem at_130_145 : j_at 130 145 = some (.getfield 14, 10, 0, 0) := by decide +kernel
theorem at_130_148 : j_at 130 148 = some (.getfield 300, 4, 5, 0) := by decide +kernel
theorem at_130_151 : j_at 130 151 = some (.ireturn, 0, 0, 0) := by decide +kernel
theorem at_130_152 : j_at 130 152 = some (.aload_n 0, 0, 0, 0) := by decide +kernel
theorem at_130_153 : j_at 130 153 = some (.getfield 14, 10, 0, 0) := by decide +kernel
theorem at_130_156 : j_at 130 156 = some (.getfield 328, 4, 8, 0) := by decide +kernel
theorem at_130_159 : j_at 130 159 = some (.ireturn, 0, 0, 0) := by decide +kernel
theorem at_130_160 : j_at 130 160 = some (.aload_n 0, 0, 0, 0) := by decide +kernel
theorem at_130_161 : j_at 130 161 = some (.getfield 14, 10, 0, 0) := by decide +kernel
theorem at_130_164 : j_at 130 164 = some (.getfield 100, 4, 1, 0) := by decide +kernel
theorem at_130_167 : j_at 130 167 = some (.getfield 257, 2, 0, 0) := by decide +kernel
theorem at_130_170 : j_at 130 170 = some (.ireturn, 0, 0, 0) := by decide +kernel
theorem at_130_171 : j_at 130 171 = some (.aload_n 0, 0, 0, 0) := by decide +kernel
theorem at_130_172 : j_at 130 172 = some (.getfield 62, 10, 8, 0) := by decide +kernel
theorem at_130_175 : j_at 130 175 = some (.getfield 136, 7, 0, 0) := by decide +kernel
theorem at_130_178 : j_at 130 178 = some (.ireturn, 0, 0, 0) := by decide +kernel
theorem at_130_179 : j_at 130 179 = some (.aload_n 0, 0, 0, 0) := by decide +kernel
theorem at_130_180 : j_at 130 180 = some (.getfield 14, 10, 0, 0) := by decide +kernel
theorem at_130_183 : j_at 130 183 = some (.getfield 231, 4, 4, 0) := by decide +kernel
theorem at_130_186 : j_at 130 186 = some (.ireturn, 0, 0, 0) := by decide +kernel
theorem at_130_187 : j_at 130 187 = some (.bipush (-2), 0, 0, -2) := by decide +kernel
theorem at_130_189 : j_at 130 189 = some (.ireturn, 0, 0, 0) := by decide +kernel
theorem at_131_0 : j_at 131 0 = some (.iload_n 1, 0, 0, 0) := by decide +kernel
theorem at_131_1 : j_at 131 1 = some (.invokestatic 350, 142, 1, 0) := by decide +kernel
theorem at_131_4 : j_at 131 4 = some (.ifCond .ne 5, 9, 0, 0) := by decide +kernel
theorem at_131_7 : j_at 131 7 = some (.iconst (-1), 0, 0, -1) := by decide +kernel
theorem at_131_8 : j_at 131 8 = some (.ireturn, 0, 0, 0) := by decide +kernel
theorem at_131_9 : j_at 131 9 = some (.iload_n 2, 0, 0, 0) := by decide +kernel
theorem at_131_10 : j_at 131 10 = some (.iconst (-1), 0, 0, -1) := by decide +kernel
theorem at_131_11 : j_at 131 11 = some (.if_icmp .lt 8, 19, 0, 0) := by decide +kernel
theorem at_131_14 : j_at 131 14 = some (.iload_n 2, 0, 0, 0) := by decide +kernel
theorem at_131_15 : j_at 131 15 = some (.iconst 4, 0, 0, 4) := by decide +kernel
theorem at_131_16 : j_at 131 16 = some (.if_icmp .le 6, 22, 0, 0) := by decide +kernel
theorem at_131_19 : j_at 131 19 = some (.bipush (-2), 0, 0, -2) := by decide +kernel
theorem at_131_21 : j_at 131 21 = some (.ireturn, 0, 0, 0) := by decide +kernel
theorem at_131_22 : j_at 131 22 = some (.iload_n 2, 0, 0, 0) := by decide +kernel
theorem at_131_23 : j_at 131 23 = some (.iconst (-1), 0, 0, -1) := by decide +kernel
theorem at_131_24 : j_at 131 24 = some (.if_icmp .eq 12, 36, 0, 0) := by decide +kernel
theorem at_131_27 : j_at 131 27 = some (.iload_n 3, 0, 0, 0) := by decide +kernel
theorem at_131_28 : j_at 131 28 = some (.bipush 60, 0, 0, 60) := by decide +kernel
theorem at_131_30 : j_at 131 30 = some (.if_icmp .le 6, 36, 0, 0) := by decide +kernel
theorem at_131_33 : j_at 131 33 = some (.bipush (-2), 0, 0, -2) := by decide +kernel
theorem at_131_35 : j_at 131 35 = some (.ireturn, 0, 0, 0) := by decide +kernel
theorem at_131_36 : j_at 131 36 = some (.iload_n 2, 0, 0, 0) := by decide +kernel
theorem at_131_37 : j_at 131 37 = some (.iconst (-1), 0, 0, -1) := by decide +kernel
theorem at_131_38 : j_at 131 38 = some (.if_icmp .eq 10, 48, 0, 0) := by decide +kernel
theorem at_131_41 : j_at 131 41 = some (.iload_n 3, 0, 0, 0) := by decide +kernel
theorem at_131_42 : j_at 131 42 = some (.ifCond .ge 6, 48, 0, 0) := by decide +kernel
theorem at_131_45 : j_at 131 45 = some (.bipush (-14), 0, 0, -14) := by decide +kernel
theorem at_131_47 : j_at 131 47 = some (.ireturn, 0, 0, 0) := by decide +kernel
theorem at_131_48 : j_at 131 48 = some (.aload_n 0, 0, 0, 0) := by decide +kernel
theorem at_131_49 : j_at 131 49 = some (.getfield 69, 10, 9, 0) := by decide +kernel
theorem at_131_52 : j_at 131 52 = some (.iload_n 1, 0, 0, 0) := by decide +kernel
theorem at_131_53 : j_at 131 53 = some (.iload_n 2, 0, 0, 0) := by decide +kernel
theorem at_131_54 : j_at 131 54 = some (.iload_n 2, 0, 0, 0) := by decide +kernel
theorem at_131_55 : j_at 131 55 = some (.iconst (-1), 0, 0, -1) := by decide +kernel
theorem at_131_56 : j_at 131 56 = some (.if_icmp .ne 7, 63, 0, 0) := by decide +kernel
theorem at_131_59 : j_at 131 59 = some (.iconst 0, 0, 0, 0) := by decide +kernel
theorem at_131_60 : j_at 131 60 = some (.goto 4, 64, 0, 0) := by decide +kernel
theorem at_131_63 : j_at 131 63 = some (.iload_n 3, 0, 0, 0) := by decide +kernel
theorem at_131_64 : j_at 131 64 = some (.invokevirtual 375, 61, 3, 0) := by decide +kernel
theorem at_131_67 : j_at 131 67 = some (.iconst 1, 0, 0, 1) := by decide +kernel
theorem at_131_68 : j_at 131 68 = some (.ireturn, 0, 0, 0) := by decide +kernel
theorem at_132_0 : j_at 132 0 = some (.iload_n 1, 0, 0, 0) := by decide +kernel
theorem at_132_1 : j_at 132 1 = some (.invokestatic 350, 142, 1, 0) := by decide +kernel
theorem at_132_4 : j_at 132 4 = some (.ifCond .ne 5, 9, 0, 0) := by decide +kernel
theorem at_132_7 : j_at 132 7 = some (.iconst (-1), 0, 0, -1) := by decide +kernel
theorem at_132_8 : j_at 132 8 = some (.ireturn, 0, 0, 0) := by decide +kernel
theorem at_132_9 : j_at 132 9 = some (.aload_n 0, 0, 0, 0) := by decide +kernel
theorem at_132_10 : j_at 132 10 = some (.getfield 69, 10, 9, 0) := by decide +kernel
theorem at_132_13 : j_at 132 13 = some (.getfield 353, 6, 0, 0) := by decide +kernel
theorem at_132_16 : j_at 132 16 = some (.iload_n 1, 0, 0, 0) := by decide +kernel
theorem at_132_17 : j_at 132 17 = some (.iaload, 0, 0, 0) := by decide +kernel
theorem at_132_18 : j_at 132 18 = some (.iconst (-1), 0, 0, -1) := by decide +kernel
theorem at_132_19 : j_at 132 19 = some (.if_icmp .ne 6, 25, 0, 0) := by decide +kernel
theorem at_132_22 : j_at 132 22 = some (.bipush (-11), 0, 0, -11) := by decide +kernel
theorem at_132_24 : j_at 132 24 = some (.ireturn, 0, 0, 0) := by decide +kernel
theorem at_132_25 : j_at 132 25 = some (.iload_n 2, 0, 0, 0) := by decide +kernel
theorem at_132_26 : j_at 132 26 = some (.ifCond .lt 16, 42, 0, 0) := by decide +kernel
theorem at_132_29 : j_at 132 29 = some (.iload_n 2, 0, 0, 0) := by decide +kernel
theorem at_132_30 : j_at 132 30 = some (.aload_n 0, 0, 0, 0) := by decide +kernel
theorem at_132_31 : j_at 132 31 = some (.getfield 69, 10, 9, 0) := by decide +kernel
theorem at_132_34 : j_at 132 34 = some (.getfield 357, 6, 1, 0) := by decide +kernel
theorem at_132_37 : j_at 132 37 = some (.iload_n 1, 0, 0, 0) := by decide +kernel
theorem at_132_38 : j_at 132 38 = some (.iaload, 0, 0, 0) := by decide +kernel
theorem at_132_39 : j_at 132 39 = some (.if_icmp .lt 6, 45, 0, 0) := by decide +kernel
theorem at_132_42 : j_at 132 42 = some (.bipush (-13), 0, 0, -13) := by decide +kernel
theorem at_132_44 : j_at 132 44 = some (.ireturn, 0, 0, 0) := by decide +kernel
theorem at_132_45 : j_at 132 45 = some (.aload_n 0, 0, 0, 0) := by decide +kernel
theorem at_132_46 : j_at 132 46 = some (.getfield 69, 10, 9, 0) := by decide +kernel
theorem at_132_49 : j_at 132 49 = some (.getfield 360, 6, 2, 0) := by decide +kernel
theorem at_132_52 : j_at 132 52 = some (.iload_n 1, 0, 0, 0) := by decide +kernel
theorem at_132_53 : j_at 132 53 = some (.aaload, 0, 0, 0) := by decide +kernel
theorem at_132_54 : j_at 132 54 = some (.iload_n 2, 0, 0, 0) := by decide +kernel
theorem at_132_55 : j_at 132 55 = some (.aload_n 0, 0, 0, 0) := by decide +kernel
theorem at_132_56 : j_at 132 56 = some (.getfield 69, 10, 9, 0) := by decide +kernel
theorem at_132_59 : j_at 132 59 = some (.aload_n 0, 0, 0, 0) := by decide +kernel
theorem at_132_60 : j_at 132 60 = some (.getfield 69, 10, 9, 0) := by decide +kernel
theorem at_132_63 : j_at 132 63 = some (.getfield 353, 6, 0, 0) := by decide +kernel
theorem at_132_66 : j_at 132 66 = some (.iload_n 1, 0, 0, 0) := by decide +kernel
theorem at_132_67 : j_at 132 67 = some (.iaload, 0, 0, 0) := by decide +kernel
theorem at_132_68 : j_at 132 68 = some (.lload_n 3, 0, 0, 0) := by decide +kernel
theorem at_132_69 : j_at 132 69 = some (.invokevirtual 378, 62, 2, 0) := by decide +kernel
theorem at_132_72 : j_at 132 72 = some (.lastore, 0, 0, 0) := by decide +kernel
theorem at_132_73 : j_at 132 73 = some (.iconst 1, 0, 0, 1) := by decide +kernel
theorem at_132_74 : j_at 132 74 = some (.ireturn, 0, 0, 0) := by decide +kernel
theorem at_133_0 : j_at 133 0 = some (.iload_n 1, 0, 0, 0) := by decide +kernel
theorem at_133_1 : j_at 133 1 = some (.invokestatic 350, 142, 1, 0) := by decide +kernel
theorem at_133_4 : j_at 133 4 = some (.ifCond .eq 20, 24, 0, 0) := by decide +kernel
theorem at_133_7 : j_at 133 7 = some (.iload_n 2, 0, 0, 0) := by decide +kernel
theorem at_133_8 : j_at 133 8 = some (.ifCond .lt 16, 24, 0, 0) := by decide +kernel
theorem at_133_11 : j_at 133 11 = some (.iload_n 2, 0, 0, 0) := by decide +kernel
theorem at_133_12 : j_at 133 12 = some (.aload_n 0, 0, 0, 0) := by decide +kernel
theorem at_133_13 : j_at 133 13 = some (.getfield 69, 10, 9, 0) := by decide +kernel
theorem at_133_16 : j_at 133 16 = some (.getfield 357, 6, 1, 0) := by decide +kernel
theorem at_133_19 : j_at 133 19 = some (.iload_n 1, 0, 0, 0) := by decide +kernel
theorem at_133_20 : j_at 133 20 = some (.iaload, 0, 0, 0) := by decide +kernel
theorem at_133_21 : j_at 133 21 = some (.if_icmp .lt 7, 28, 0, 0) := by decide +kernel
theorem at_133_24 : j_at 133 24 = some (.ldc2_w 170, 0, 0, -9223372036854775808) := by decide +kernel
theorem at_133_27 : j_at 133 27 = some (.lreturn, 0, 0, 0) := by decide +kernel
theorem at_133_28 : j_at 133 28 = some (.aload_n 0, 0, 0, 0) := by decide +kernel
theorem at_133_29 : j_at 133 29 = some (.getfield 69, 10, 9, 0) := by decide +kernel
theorem at_133_32 : j_at 133 32 = some (.getfield 360, 6, 2, 0) := by decide +kernel
theorem at_133_35 : j_at 133 35 = some (.iload_n 1, 0, 0, 0) := by decide +kernel
theorem at_133_36 : j_at 133 36 = some (.aaload, 0, 0, 0) := by decide +kernel
theorem at_133_37 : j_at 133 37 = some (.iload_n 2, 0, 0, 0) := by decide +kernel
theorem at_133_38 : j_at 133 38 = some (.laload, 0, 0, 0) := by decide +kernel
theorem at_133_39 : j_at 133 39 = some (.lreturn, 0, 0, 0) := by decide +kernel
theorem at_134_0 : j_at 134 0 = some (.iload_n 1, 0, 0, 0) := by decide +kernel
theorem at_134_1 : j_at 134 1 = some (.invokestatic 350, 142, 1, 0) := by decide +kernel
theorem at_134_4 : j_at 134 4 = some (.ifCond .eq 10, 14, 0, 0) := by decide +kernel
theorem at_134_7 : j_at 134 7 = some (.iload_n 3, 0, 0, 0) := by decide +kernel
theorem at_134_8 : j_at 134 8 = some (.invokestatic 350, 142, 1, 0) := by decide +kernel
theorem at_134_11 : j_at 134 11 = some (.ifCond .ne 5, 16, 0, 0) := by decide +kernel
theorem at_134_14 : j_at 134 14 = some (.iconst (-1), 0, 0, -1) := by decide +kernel
theorem at_134_15 : j_at 134 15 = some (.ireturn, 0, 0, 0) := by decide +kernel
theorem at_134_16 : j_at 134 16 = some (.aload_n 0, 0, 0, 0) := by decide +kernel
theorem at_134_17 : j_at 134 17 = some (.getfield 69, 10, 9, 0) := by decide +kernel
theorem at_134_20 : j_at 134 20 = some (.getfield 353, 6, 0, 0) := by decide +kernel
theorem at_134_23 : j_at 134 23 = some (.iload_n 1, 0, 0, 0) := by decide +kernel
theorem at_134_24 : j_at 134 24 = some (.iaload, 0, 0, 0) := by decide +kernel
theorem at_134_25 : j_at 134 25 = some (.iconst (-1), 0, 0, -1) := by decide +kernel
theorem at_134_26 : j_at 134 26 = some (.if_icmp .eq 16, 42, 0, 0) := by decide +kernel
theorem at_134_29 : j_at 134 29 = some (.aload_n 0, 0, 0, 0) := by decide +kernel
theorem at_134_30 : j_at 134 30 = some (.getfield 69, 10, 9, 0) := by decide +kernel
theorem at_134_33 : j_at 134 33 = some (.getfield 353, 6, 0, 0) := by decide +kernel
theorem at_134_36 : j_at 134 36 = some (.iload_n 3, 0, 0, 0) := by decide +kernel
theorem at_134_37 : j_at 134 37 = some (.iaload, 0, 0, 0) := by decide +kernel
theorem at_134_38 : j_at 134 38 = some (.iconst (-1), 0, 0, -1) := by decide +kernel
theorem at_134_39 : j_at 134 39 = some (.if_icmp .ne 6, 45, 0, 0) := by decide +kernel
theorem at_134_42 : j_at 134 42 = some (.bipush (-11), 0, 0, -11) := by decide +kernel
theorem at_134_44 : j_at 134 44 = some (.ireturn, 0, 0, 0) := by decide +kernel
theorem at_134_45 : j_at 134 45 = some (.aload_n 0, 0, 0, 0) := by decide +kernel
theorem at_134_46 : j_at 134 46 = some (.getfield 69, 10, 9, 0) := by decide +kernel
theorem at_134_49 : j_at 134 49 = some (.getfield 353, 6, 0, 0) := by decide +kernel
theorem at_134_52 : j_at 134 52 = some (.iload_n 1, 0, 0, 0) := by decide +kernel
theorem at_134_53 : j_at 134 53 = some (.iaload, 0, 0, 0) := by decide +kernel
theorem at_134_54 : j_at 134 54 = some (.aload_n 0, 0, 0, 0) := by decide +kernel
theorem at_134_55 : j_at 134 55 = some (.getfield 69, 10, 9, 0) := by decide +kernel
theorem at_134_58 : j_at 134 58 = some (.getfield 353, 6, 0, 0) := by decide +kernel
theorem at_134_61 : j_at 134 61 = some (.iload_n 3, 0, 0, 0) := by decide +kernel
theorem at_134_62 : j_at 134 62 = some (.iaload, 0, 0, 0) := by decide +kernel
theorem at_134_63 : j_at 134 63 = some (.if_icmp .eq 6, 69, 0, 0) := by decide +kernel
theorem at_134_66 : j_at 134 66 = some (.bipush (-12), 0, 0, -12) := by decide +kernel
theorem at_134_68 : j_at 134 68 = some (.ireturn, 0, 0, 0) := by decide +kernel
theorem at_134_69 : j_at 134 69 = some (.aload_n 0, 0, 0, 0) := by decide +kernel
theorem at_134_70 : j_at 134 70 = some (.getfield 69, 10, 9, 0) := by decide +kernel
theorem at_134_73 : j_at 134 73 = some (.iload_n 1, 0, 0, 0) := by decide +kernel
theorem at_134_74 : j_at 134 74 = some (.iload_n 2, 0, 0, 0) := by decide +kernel
theorem at_134_75 : j_at 134 75 = some (.iload 5, 0, 0, 0) := by decide +kernel
theorem at_134_77 : j_at 134 77 = some (.invokevirtual 382, 63, 3, 0) := by decide +kernel
theorem at_134_80 : j_at 134 80 = some (.ifCond .eq 18, 98, 0, 0) := by decide +kernel
theorem at_134_83 : j_at 134 83 = some (.aload_n 0, 0, 0, 0) := by decide +kernel
theorem at_134_84 : j_at 134 84 = some (.getfield 69, 10, 9, 0) := by decide +kernel
theorem at_134_87 : j_at 134 87 = some (.iload_n 3, 0, 0, 0) := by decide +kernel
theorem at_134_88 : j_at 134 88 = some (.iload 4, 0, 0, 0) := by decide +kernel
theorem at_134_90 : j_at 134 90 = some (.iload 5, 0, 0, 0) := by decide +kernel
theorem at_134_92 : j_at 134 92 = some (.invokevirtual 382, 63, 3, 0) := by decide +kernel
theorem at_134_95 : j_at 134 95 = some (.ifCond .ne 6, 101, 0, 0) := by decide +kernel
theorem at_134_98 : j_at 134 98 = some (.bipush (-13), 0, 0, -13) := by decide +kernel
theorem at_134_100 : j_at 134 100 = some (.ireturn, 0, 0, 0) := by decide +kernel
theorem at_134_101 : j_at 134 101 = some (.aload_n 0, 0, 0, 0) := by decide +kernel
theorem at_134_102 : j_at 134 102 = some (.getfield 69, 10, 9, 0) := by decide +kernel
theorem at_134_105 : j_at 134 105 = some (.getfield 360, 6, 2, 0) := by decide +kernel
theorem at_134_108 : j_at 134 108 = some (.iload_n 1, 0, 0, 0) := by decide +kernel
theorem at_134_109 : j_at 134 109 = some (.aaload, 0, 0, 0) := by decide +kernel
theorem at_134_110 : j_at 134 110 = some (.iload_n 2, 0, 0, 0) := by decide +kernel
theorem at_134_111 : j_at 134 111 = some (.aload_n 0, 0, 0, 0) := by decide +kernel
theorem at_134_112 : j_at 134 112 = some (.getfield 69, 10, 9, 0) := by decide +kernel
theorem at_134_115 : j_at 134 115 = some (.getfield 360, 6, 2, 0) := by decide +kernel
theorem at_134_118 : j_at 134 118 = some (.iload_n 3, 0, 0, 0) := by decide +kernel
theorem at_134_119 : j_at 134 119 = some (.aaload, 0, 0, 0) := by decide +kernel
theorem at_134_120 : j_at 134 120 = some (.iload 4, 0, 0, 0) := by decide +kernel
theorem at_134_122 : j_at 134 122 = some (.iload 5, 0, 0, 0) := by decide +kernel
theorem at_134_124 : j_at 134 124 = some (.invokestatic 386, 9999, 5, 0) := by decide +kernel
theorem at_134_127 : j_at 134 127 = some (.iload 5, 0, 0, 0) := by decide +kernel
theorem at_134_129 : j_at 134 129 = some (.ireturn, 0, 0, 0) := by decide +kernel
theorem at_135_0 : j_at 135 0 = some (.iload_n 1, 0, 0, 0) := by decide +kernel
theorem at_135_1 : j_at 135 1 = some (.ifCond .lt 21, 22, 0, 0) := by decide +kernel
theorem at_135_4 : j_at 135 4 = some (.iload_n 1, 0, 0, 0) := by decide +kernel
theorem at_135_5 : j_at 135 5 = some (.aload_n 0, 0, 0, 0) := by decide +kernel
theorem at_135_6 : j_at 135 6 = some (.getfield 14, 10, 0, 0) := by decide +kernel
theorem at_135_9 : j_at 135 9 = some (.getfield 77, 4, 0, 0) := by decide +kernel
theorem at_135_12 : j_at 135 12 = some (.getfield 80, 1, 0, 0) := by decide +kernel
theorem at_135_15 : j_at 135 15 = some (.if_icmp .ge 7, 22, 0, 0) := by decide +kernel
theorem at_135_18 : j_at 135 18 = some (.iconst 1, 0, 0, 1) := by decide +kernel
theorem at_135_19 : j_at 135 19 = some (.goto 4, 23, 0, 0) := by decide +kernel
theorem at_135_22 : j_at 135 22 = some (.iconst 0, 0, 0, 0) := by decide +kernel
theorem at_135_23 : j_at 135 23 = some (.ireturn, 0, 0, 0) := by decide +kernel
theorem at_136_0 : j_at 136 0 = some (.iload_n 1, 0, 0, 0) := by decide +kernel
theorem at_136_1 : j_at 136 1 = some (.ifCond .lt 21, 22, 0, 0) := by decide +kernel
theorem at_136_4 : j_at 136 4 = some (.iload_n 1, 0, 0, 0) := by decide +kernel
theorem at_136_5 : j_at 136 5 = some (.aload_n 0, 0, 0, 0) := by decide +kernel
theorem at_136_6 : j_at 136 6 = some (.getfield 14, 10, 0, 0) := by decide +kernel
theorem at_136_9 : j_at 136 9 = some (.getfield 77, 4, 0, 0) := by decide +kernel
theorem at_136_12 : j_at 136 12 = some (.getfield 109, 1, 1, 0) := by decide +kernel
theorem at_136_15 : j_at 136 15 = some (.if_icmp .ge 7, 22, 0, 0) := by decide +kernel
theorem at_136_18 : j_at 136 18 = some (.iconst 1, 0, 0, 1) := by decide +kernel
theorem at_136_19 : j_at 136 19 = some (.goto 4, 23, 0, 0) := by decide +kernel
theorem at_136_22 : j_at 136 22 = some (.iconst 0, 0, 0, 0) := by decide +kernel
theorem at_136_23 : j_at 136 23 = some (.ireturn, 0, 0, 0) := by decide +kernel
theorem at_137_0 : j_at 137 0 = some (.aload_n 0, 0, 0, 0) := by decide +kernel
theorem at_137_1 : j_at 137 1 = some (.getfield 88, 10, 11, 0) := by decide +kernel
theorem at_137_4 : j_at 137 4 = some (.ifCond .eq 25, 29, 0, 0) := by decide +kernel
theorem at_137_7 : j_at 137 7 = some (.iload_n 1, 0, 0, 0) := by decide +kernel
theorem at_137_8 : j_at 137 8 = some (.ifCond .lt 21, 29, 0, 0) := by decide +kernel
theorem at_137_11 : j_at 137 11 = some (.iload_n 1, 0, 0, 0) := by decide +kernel
theorem at_137_12 : j_at 137 12 = some (.aload_n 0, 0, 0, 0) := by decide +kernel
theorem at_137_13 : j_at 137 13 = some (.getfield 31, 10, 3, 0) := by decide +kernel
theorem at_137_16 : j_at 137 16 = some (.getfield 206, 3, 1, 0) := by decide +kernel
theorem at_137_19 : j_at 137 19 = some (.getfield 373, 0, 0, 0) := by decide +kernel
theorem at_137_22 : j_at 137 22 = some (.if_icmp .ge 7, 29, 0, 0) := by decide +kernel
theorem at_137_25 : j_at 137 25 = some (.iconst 1, 0, 0, 1) := by decide +kernel
theorem at_137_26 : j_at 137 26 = some (.goto 4, 30, 0, 0) := by decide +kernel
theorem at_137_29 : j_at 137 29 = some (.iconst 0, 0, 0, 0) := by decide +kernel
theorem at_137_30 : j_at 137 30 = some (.ireturn, 0, 0, 0) := by decide +kernel
theorem at_138_0 : j_at 138 0 = some (.iload_n 1, 0, 0, 0) := by decide +kernel
theorem at_138_1 : j_at 138 1 = some (.ifCond .lt 25, 26, 0, 0) := by decide +kernel
theorem at_138_4 : j_at 138 4 = some (.iload_n 1, 0, 0, 0) := by decide +kernel
theorem at_138_5 : j_at 138 5 = some (.getstatic 392, 0, 0, 0) := by decide +kernel
theorem at_138_8 : j_at 138 8 = some (.aload_n 0, 0, 0, 0) := by decide +kernel
theorem at_138_9 : j_at 138 9 = some (.getfield 14, 10, 0, 0) := by decide +kernel
theorem at_138_12 : j_at 138 12 = some (.getfield 77, 4, 0, 0) := by decide +kernel
theorem at_138_15 : j_at 138 15 = some (.getfield 80, 1, 0, 0) := by decide +kernel
theorem at_138_18 : j_at 138 18 = some (.iaload, 0, 0, 0) := by decide +kernel
theorem at_138_19 : j_at 138 19 = some (.if_icmp .ge 7, 26, 0, 0) := by decide +kernel
theorem at_138_22 : j_at 138 22 = some (.iconst 1, 0, 0, 1) := by decide +kernel
theorem at_138_23 : j_at 138 23 = some (.goto 4, 27, 0, 0) := by decide +kernel
theorem at_138_26 : j_at 138 26 = some (.iconst 0, 0, 0, 0) := by decide +kernel
theorem at_138_27 : j_at 138 27 = some (.ireturn, 0, 0, 0) := by decide +kernel
theorem at_139_0 : j_at 139 0 = some (.iload_n 0, 0, 0, 0) := by decide +kernel
theorem at_139_1 : j_at 139 1 = some (.bipush (-99), 0, 0, -99) := by decide +kernel
theorem at_139_3 : j_at 139 3 = some (.if_icmp .lt 14, 17, 0, 0) := by decide +kernel
theorem at_139_6 : j_at 139 6 = some (.iload_n 0, 0, 0, 0) := by decide +kernel
theorem at_139_7 : j_at 139 7 = some (.sipush 999, 0, 0, 999) := by decide +kernel
theorem at_139_10 : j_at 139 10 = some (.if_icmp .gt 7, 17, 0, 0) := by decide +kernel
theorem at_139_13 : j_at 139 13 = some (.iconst 1, 0, 0, 1) := by decide +kernel
theorem at_139_14 : j_at 139 14 = some (.goto 4, 18, 0, 0) := by decide +kernel
theorem at_139_17 : j_at 139 17 = some (.iconst 0, 0, 0, 0) := by decide +kernel
theorem at_139_18 : j_at 139 18 = some (.ireturn, 0, 0, 0) := by decide +kernel
theorem at_140_0 : j_at 140 0 = some (.iload_n 0, 0, 0, 0) := by decide +kernel
theorem at_140_1 : j_at 140 1 = some (.bipush (-9), 0, 0, -9) := by decide +kernel
theorem at_140_3 : j_at 140 3 = some (.if_icmp .lt 13, 16, 0, 0) := by decide +kernel
theorem at_140_6 : j_at 140 6 = some (.iload_n 0, 0, 0, 0) := by decide +kernel
theorem at_140_7 : j_at 140 7 = some (.bipush 9, 0, 0, 9) := by decide +kernel
theorem at_140_9 : j_at 140 9 = some (.if_icmp .gt 7, 16, 0, 0) := by decide +kernel
theorem at_140_12 : j_at 140 12 = some (.iconst 1, 0, 0, 1) := by decide +kernel
theorem at_140_13 : j_at 140 13 = some (.goto 4, 17, 0, 0) := by decide +kernel
theorem at_140_16 : j_at 140 16 = some (.iconst 0, 0, 0, 0) := by decide +kernel
theorem at_140_17 : j_at 140 17 = some (.ireturn, 0, 0, 0) := by decide +kernel
theorem at_141_0 : j_at 141 0 = some (.iload_n 0, 0, 0, 0) := by decide +kernel
theorem at_141_1 : j_at 141 1 = some (.ifCond .eq 8, 9, 0, 0) := by decide +kernel
theorem at_141_4 : j_at 141 4 = some (.iload_n 0, 0, 0, 0) := by decide +kernel
theorem at_141_5 : j_at 141 5 = some (.iconst 1, 0, 0, 1) := by decide +kernel
theorem at_141_6 : j_at 141 6 = some (.if_icmp .ne 7, 13, 0, 0) := by decide +kernel
theorem at_141_9 : j_at 141 9 = some (.iconst 1, 0, 0, 1) := by decide +kernel
theorem at_141_10 : j_at 141 10 = some (.goto 4, 14, 0, 0) := by decide +kernel
theorem at_141_13 : j_at 141 13 = some (.iconst 0, 0, 0, 0) := by decide +kernel
theorem at_141_14 : j_at 141 14 = some (.ireturn, 0, 0, 0) := by decide +kernel
theorem at_142_0 : j_at 142 0 = some (.iload_n 0, 0, 0, 0) := by decide +kernel
theorem at_142_1 : j_at 142 1 = some (.ifCond .lt 13, 14, 0, 0) := by decide +kernel
theorem at_142_4 : j_at 142 4 = some (.iload_n 0, 0, 0, 0) := by decide +kernel
theorem at_142_5 : j_at 142 5 = some (.bipush 6, 0, 0, 6) := by decide +kernel
theorem at_142_7 : j_at 142 7 = some (.if_icmp .ge 7, 14, 0, 0) := by decide +kernel
theorem at_142_10 : j_at 142 10 = some (.iconst 1, 0, 0, 1) := by decide +kernel
theorem at_142_11 : j_at 142 11 = some (.goto 4, 15, 0, 0) := by decide +kernel
theorem at_142_14 : j_at 142 14 = some (.iconst 0, 0, 0, 0) := by decide +kernel
theorem at_142_15 : j_at 142 15 = some (.ireturn, 0, 0, 0) := by decide +kernel
theorem at_143_0 : j_at 143 0 = some (.iload_n 0, 0, 0, 0) := by decide +kernel
theorem at_143_1 : j_at 143 1 = some (.ifCond .ne 8, 9, 0, 0) := by decide +kernel
theorem at_143_4 : j_at 143 4 = some (.iload_n 1, 0, 0, 0) := by decide +kernel
theorem at_143_5 : j_at 143 5 = some (.invokestatic 106, 139, 1, 0) := by decide +kernel
theorem at_143_8 : j_at 143 8 = some (.ireturn, 0, 0, 0) := by decide +kernel
theorem at_143_9 : j_at 143 9 = some (.iload_n 0, 0, 0, 0) := by decide +kernel
theorem at_143_10 : j_at 143 10 = some (.iconst 1, 0, 0, 1) := by decide +kernel
theorem at_143_11 : j_at 143 11 = some (.if_icmp .ne 21, 32, 0, 0) := by decide +kernel
theorem at_143_14 : j_at 143 14 = some (.iload_n 1, 0, 0, 0) := by decide +kernel
theorem at_143_15 : j_at 143 15 = some (.ifCond .lt 13, 28, 0, 0) := by decide +kernel
theorem at_143_18 : j_at 143 18 = some (.iload_n 1, 0, 0, 0) := by decide +kernel
theorem at_143_19 : j_at 143 19 = some (.bipush 99, 0, 0, 99) := by decide +kernel
theorem at_143_21 : j_at 143 21 = some (.if_icmp .gt 7, 28, 0, 0) := by decide +kernel
theorem at_143_24 : j_at 143 24 = some (.iconst 1, 0, 0, 1) := by decide +kernel
theorem at_143_25 : j_at 143 25 = some (.goto 11, 36, 0, 0) := by decide +kernel
theorem at_143_28 : j_at 143 28 = some (.iconst 0, 0, 0, 0) := by decide +kernel
theorem at_143_29 : j_at 143 29 = some (.goto 7, 36, 0, 0) := by decide +kernel
theorem at_143_32 : j_at 143 32 = some (.iload_n 1, 0, 0, 0) := by decide +kernel
theorem at_143_33 : j_at 143 33 = some (.invokestatic 119, 140, 1, 0) := by decide +kernel
theorem at_143_36 : j_at 143 36 = some (.ireturn, 0, 0, 0) := by decide +kernel
theorem at_144_0 : j_at 144 0 = some (.lload_n 0, 0, 0, 0) := by decide +kernel
theorem at_144_1 : j_at 144 1 = some (.ldc2_w 395, 0, 0, 1000000000) := by decide +kernel
theorem at_144_4 : j_at 144 4 = some (.lcmp, 0, 0, 0) := by decide +kernel
theorem at_144_5 : j_at 144 5 = some (.ifCond .gt 15, 20, 0, 0) := by decide +kernel
theorem at_144_8 : j_at 144 8 = some (.lload_n 0, 0, 0, 0) := by decide +kernel
theorem at_144_9 : j_at 144 9 = some (.ldc2_w 397, 0, 0, -1000000000) := by decide +kernel
theorem at_144_12 : j_at 144 12 = some (.lcmp, 0, 0, 0) := by decide +kernel
theorem at_144_13 : j_at 144 13 = some (.ifCond .lt 7, 20, 0, 0) := by decide +kernel
theorem at_144_16 : j_at 144 16 = some (.iconst 1, 0, 0, 1) := by decide +kernel
theorem at_144_17 : j_at 144 17 = some (.goto 4, 21, 0, 0) := by decide +kernel
theorem at_144_20 : j_at 144 20 = some (.iconst 0, 0, 0, 0) := by decide +kernel
theorem at_144_21 : j_at 144 21 = some (.ireturn, 0, 0, 0) := by decide +kernel
theorem at_145_0 : j_at 145 0 = some (.aload_n 0, 0, 0, 0) := by decide +kernel
theorem at_145_1 : j_at 145 1 = some (.getfield 35, 10, 4, 0) := by decide +kernel
theorem at_145_4 : j_at 145 4 = some (.aload_n 0, 0, 0, 0) := by decide +kernel
theorem at_145_5 : j_at 145 5 = some (.getfield 24, 10, 2, 0) := by decide +kernel
theorem at_145_8 : j_at 145 8 = some (.bipush 12, 0, 0, 12) := by decide +kernel
theorem at_145_10 : j_at 145 10 = some (.invokevirtual 157, 29, 2, 0) := by decide +kernel
theorem at_145_13 : j_at 145 13 = some (.iconst 1, 0, 0, 1) := by decide +kernel
theorem at_145_14 : j_at 145 14 = some (.if_icmp .eq 5, 19, 0, 0) := by decide +kernel
theorem at_145_17 : j_at 145 17 = some (.iconst 0, 0, 0, 0) := by decide +kernel
theorem at_145_18 : j_at 145 18 = some (.ireturn, 0, 0, 0) := by decide +kernel
theorem at_145_19 : j_at 145 19 = some (.iconst 0, 0, 0, 0) := by decide +kernel
theorem at_145_20 : j_at 145 20 = some (.istore_n 1, 0, 0, 0) := by decide +kernel
theorem at_145_21 : j_at 145 21 = some (.iload_n 1, 0, 0, 0) := by decide +kernel
theorem at_145_22 : j_at 145 22 = some (.aload_n 0, 0, 0, 0) := by decide +kernel
theorem at_145_23 : j_at 145 23 = some (.getfield 14, 10, 0, 0) := by decide +kernel
theorem at_145_26 : j_at 145 26 = some (.getfield 300, 4, 5, 0) := by decide +kernel
theorem at_145_29 : j_at 145 29 = some (.if_icmp .ge 44, 73, 0, 0) := by decide +kernel
theorem at_145_32 : j_at 145 32 = some (.aload_n 0, 0, 0, 0) := by decide +kernel
theorem at_145_33 : j_at 145 33 = some (.getfield 35, 10, 4, 0) := by decide +kernel
theorem at_145_36 : j_at 145 36 = some (.getfield 161, 3, 0, 0) := by decide +kernel
theorem at_145_39 : j_at 145 39 = some (.aload_n 0, 0, 0, 0) := by decide +kernel
theorem at_145_40 : j_at 145 40 = some (.getfield 14, 10, 0, 0) := by decide +kernel
theorem at_145_43 : j_at 145 43 = some (.getfield 399, 4, 6, 0) := by decide +kernel
theorem at_145_46 : j_at 145 46 = some (.iload_n 1, 0, 0, 0) := by decide +kernel
theorem at_145_47 : j_at 145 47 = some (.iaload, 0, 0, 0) := by decide +kernel
theorem at_145_48 : j_at 145 48 = some (.invokevirtual 364, 54, 1, 0) := by decide +kernel
theorem at_145_51 : j_at 145 51 = some (.aload_n 0, 0, 0, 0) := by decide +kernel
theorem at_145_52 : j_at 145 52 = some (.getfield 14, 10, 0, 0) := by decide +kernel
theorem at_145_55 : j_at 145 55 = some (.getfield 402, 4, 7, 0) := by decide +kernel
theorem at_145_58 : j_at 145 58 = some (.iload_n 1, 0, 0, 0) := by decide +kernel
theorem at_145_59 : j_at 145 59 = some (.iaload, 0, 0, 0) := by decide +kernel
theorem at_145_60 : j_at 145 60 = some (.i2l, 0, 0, 0) := by decide +kernel
theorem at_145_61 : j_at 145 61 = some (.lcmp, 0, 0, 0) := by decide +kernel
theorem at_145_62 : j_at 145 62 = some (.ifCond .eq 5, 67, 0, 0) := by decide +kernel
theorem at_145_65 : j_at 145 65 = some (.iconst 0, 0, 0, 0) := by decide +kernel
theorem at_145_66 : j_at 145 66 = some (.ireturn, 0, 0, 0) := by decide +kernel
theorem at_145_67 : j_at 145 67 = some (.iinc 1 1, 0, 0, 0) := by decide +kernel
theorem at_145_70 : j_at 145 70 = some (.goto (-49), 21, 0, 0) := by decide +kernel
theorem at_145_73 : j_at 145 73 = some (.iconst 1, 0, 0, 1) := by decide +kernel
theorem at_145_74 : j_at 145 74 = some (.ireturn, 0, 0, 0) := by decide +kernel
theorem at_146_0 : j_at 146 0 = some (.lload_n 2, 0, 0, 0) := by decide +kernel
theorem at_146_1 : j_at 146 1 = some (.lstore 5, 0, 0, 0) := by decide +kernel
theorem at_146_3 : j_at 146 3 = some (.lload_n 0, 0, 0, 0) := by decide +kernel
theorem at_146_4 : j_at 146 4 = some (.invokestatic 405, 267, 1, 0) := by decide +kernel
theorem at_146_7 : j_at 146 7 = some (.lstore 7, 0, 0, 0) := by decide +kernel
theorem at_146_9 : j_at 146 9 = some (.iconst 0, 0, 0, 0) := by decide +kernel
theorem at_146_10 : j_at 146 10 = some (.istore 9, 0, 0, 0) := by decide +kernel
theorem at_146_12 : j_at 146 12 = some (.iload 9, 0, 0, 0) := by decide +kernel
theorem at_146_14 : j_at 146 14 = some (.sipush 200, 0, 0, 200) := by decide +kernel
theorem at_146_17 : j_at 146 17 = some (.if_icmp .ge 31, 48, 0, 0) := by decide +kernel
theorem at_146_20 : j_at 146 20 = some (.lload 7, 0, 0, 0) := by decide +kernel
theorem at_146_22 : j_at 146 22 = some (.lconst 0, 0, 0, 0) := by decide +kernel
theorem at_146_23 : j_at 146 23 = some (.lcmp, 0, 0, 0) := by decide +kernel
theorem at_146_24 : j_at 146 24 = some (.ifCond .eq 24, 48, 0, 0) := by decide +kernel
theorem at_146_27 : j_at 146 27 = some (.lload 5, 0, 0, 0) := by decide +kernel
theorem at_146_29 : j_at 146 29 = some (.lload 7, 0, 0, 0) := by decide +kernel
theorem at_146_31 : j_at 146 31 = some (.lrem, 0, 0, 0) := by decide +kernel
theorem at_146_32 : j_at 146 32 = some (.lstore 10, 0, 0, 0) := by decide +kernel
theorem at_146_34 : j_at 146 34 = some (.lload 7, 0, 0, 0) := by decide +kernel
theorem at_146_36 : j_at 146 36 = some (.lstore 5, 0, 0, 0) := by decide +kernel
theorem at_146_38 : j_at 146 38 = some (.lload 10, 0, 0, 0) := by decide +kernel
theorem at_146_40 : j_at 146 40 = some (.lstore 7, 0, 0, 0) := by decide +kernel
theorem at_146_42 : j_at 146 42 = some (.iinc 9 1, 0, 0, 0) := by decide +kernel
theorem at_146_45 : j_at 146 45 = some (.goto (-33), 12, 0, 0) := by decide +kernel
theorem at_146_48 : j_at 146 48 = some (.lload 5, 0, 0, 0) := by decide +kernel
theorem at_146_50 : j_at 146 50 = some (.lconst 0, 0, 0, 0) := by decide +kernel
theorem at_146_51 : j_at 146 51 = some (.lcmp, 0, 0, 0) := by decide +kernel
theorem at_146_52 : j_at 146 52 = some (.ifCond .gt 7, 59, 0, 0) := by decide +kernel
theorem at_146_55 : j_at 146 55 = some (.ldc2_w 170, 0, 0, -9223372036854775808) := by decide +kernel
theorem at_146_58 : j_at 146 58 = some (.lreturn, 0, 0, 0) := by decide +kernel
theorem at_146_59 : j_at 146 59 = some (.iload 4, 0, 0, 0) := by decide +kernel
theorem at_146_61 : j_at 146 61 = some (.ifCond .ne 7, 68, 0, 0) := by decide +kernel
theorem at_146_64 : j_at 146 64 = some (.lload_n 0, 0, 0, 0) := by decide +kernel
theorem at_146_65 : j_at 146 65 = some (.goto 4, 69, 0, 0) := by decide +kernel
theorem at_146_68 : j_at 146 68 = some (.lload_n 2, 0, 0, 0) := by decide +kernel
theorem at_146_69 : j_at 146 69 = some (.lload 5, 0, 0, 0) := by decide +kernel
theorem at_146_71 : j_at 146 71 = some (.ldiv, 0, 0, 0) := by decide +kernel
theorem at_146_72 : j_at 146 72 = some (.lreturn, 0, 0, 0) := by decide +kernel
theorem at_149_0 : j_at 149 0 = some (.aload_n 0, 0, 0, 0) := by decide +kernel
theorem at_149_1 : j_at 149 1 = some (.getfield 11, 12, 0, 0) := by decide +kernel
theorem at_149_4 : j_at 149 4 = some (.iconst 3, 0, 0, 3) := by decide +kernel
theorem at_149_5 : j_at 149 5 = some (.iaload, 0, 0, 0) := by decide +kernel
theorem at_149_6 : j_at 149 6 = some (.istore_n 2, 0, 0, 0) := by decide +kernel
theorem at_149_7 : j_at 149 7 = some (.iconst 0, 0, 0, 0) := by decide +kernel
theorem at_149_8 : j_at 149 8 = some (.istore_n 3, 0, 0, 0) := by decide +kernel
theorem at_149_9 : j_at 149 9 = some (.iload_n 3, 0, 0, 0) := by decide +kernel
theorem at_149_10 : j_at 149 10 = some (.sipush 150, 0, 0, 150) := by decide +kernel
theorem at_149_13 : j_at 149 13 = some (.if_icmp .ge 16, 29, 0, 0) := by decide +kernel
theorem at_149_16 : j_at 149 16 = some (.aload_n 0, 0, 0, 0) := by decide +kernel
theorem at_149_17 : j_at 149 17 = some (.getfield 11, 12, 0, 0) := by decide +kernel
theorem at_149_20 : j_at 149 20 = some (.iload_n 3, 0, 0, 0) := by decide +kernel
theorem at_149_21 : j_at 149 21 = some (.iconst 0, 0, 0, 0) := by decide +kernel
theorem at_149_22 : j_at 149 22 = some (.iastore, 0, 0, 0) := by decide +kernel
theorem at_149_23 : j_at 149 23 = some (.iinc 3 1, 0, 0, 0) := by decide +kernel
theorem at_149_26 : j_at 149 26 = some (.goto (-17), 9, 0, 0) := by decide +kernel
theorem at_149_29 : j_at 149 29 = some (.aload_n 0, 0, 0, 0) := by decide +kernel
theorem at_149_30 : j_at 149 30 = some (.getfield 11, 12, 0, 0) := by decide +kernel
theorem at_149_33 : j_at 149 33 = some (.iconst 0, 0, 0, 0) := by decide +kernel
theorem at_149_34 : j_at 149 34 = some (.iload_n 1, 0, 0, 0) := by decide +kernel
theorem at_149_35 : j_at 149 35 = some (.iastore, 0, 0, 0) := by decide +kernel
theorem at_149_36 : j_at 149 36 = some (.aload_n 0, 0, 0, 0) := by decide +kernel
theorem at_149_37 : j_at 149 37 = some (.getfield 11, 12, 0, 0) := by decide +kernel
theorem at_149_40 : j_at 149 40 = some (.iconst 2, 0, 0, 2) := by decide +kernel
theorem at_149_41 : j_at 149 41 = some (.iconst 1, 0, 0, 1) := by decide +kernel
theorem at_149_42 : j_at 149 42 = some (.iastore, 0, 0, 0) := by decide +kernel
theorem at_149_43 : j_at 149 43 = some (.aload_n 0, 0, 0, 0) := by decide +kernel
theorem at_149_44 : j_at 149 44 = some (.getfield 11, 12, 0, 0) := by decide +kernel
theorem at_149_47 : j_at 149 47 = some (.iconst 3, 0, 0, 3) := by decide +kernel
theorem at_149_48 : j_at 149 48 = some (.iload_n 2, 0, 0, 0) := by decide +kernel
theorem at_149_49 : j_at 149 49 = some (.iastore, 0, 0, 0) := by decide +kernel
theorem at_149_50 : j_at 149 50 = some (.iconst 0, 0, 0, 0) := by decide +kernel
theorem at_149_51 : j_at 149 51 = some (.istore_n 3, 0, 0, 0) := by decide +kernel
theorem at_149_52 : j_at 149 52 = some (.iload_n 3, 0, 0, 0) := by decide +kernel
theorem at_149_53 : j_at 149 53 = some (.iconst 5, 0, 0, 5) := by decide +kernel
theorem at_149_54 : j_at 149 54 = some (.if_icmp .ge 19, 73, 0, 0) := by decide +kernel
theorem at_149_57 : j_at 149 57 = some (.aload_n 0, 0, 0, 0) := by decide +kernel
theorem at_149_58 : j_at 149 58 = some (.getfield 11, 12, 0, 0) := by decide +kernel
theorem at_149_61 : j_at 149 61 = some (.bipush 7, 0, 0, 7) := by decide +kernel
theorem at_149_63 : j_at 149 63 = some (.iload_n 3, 0, 0, 0) := by decide +kernel
theorem at_149_64 : j_at 149 64 = some (.iadd, 0, 0, 0) := by decide +kernel
theorem at_149_65 : j_at 149 65 = some (.iconst 1, 0, 0, 1) := by decide +kernel
theorem at_149_66 : j_at 149 66 = some (.iastore, 0, 0, 0) := by decide +kernel
theorem at_149_67 : j_at 149 67 = some (.iinc 3 1, 0, 0, 0) := by decide +kernel
theorem at_149_70 : j_at 149 70 = some (.goto (-18), 52, 0, 0) := by decide +kernel
theorem at_149_73 : j_at 149 73 = some (.aload_n 0, 0, 0, 0) := by decide +kernel
theorem at_149_74 : j_at 149 74 = some (.getfield 30, 12, 9, 0) := by decide +kernel
theorem at_149_77 : j_at 149 77 = some (.iconst 0, 0, 0, 0) := by decide +kernel
theorem at_149_78 : j_at 149 78 = some (.putfield 85, 11, 18, 0) := by decide +kernel
theorem at_149_81 : j_at 149 81 = some (.return_, 0, 0, 0) := by decide +kernel
theorem at_150_0 : j_at 150 0 = some (.lload_n 0, 0, 0, 0) := by decide +kernel
theorem at_150_1 : j_at 150 1 = some (.lload_n 2, 0, 0, 0) := by decide +kernel
theorem at_150_2 : j_at 150 2 = some (.lcmp, 0, 0, 0) := by decide +kernel
theorem at_150_3 : j_at 150 3 = some (.ifCond .lt 14, 17, 0, 0) := by decide +kernel
theorem at_150_6 : j_at 150 6 = some (.lload_n 0, 0, 0, 0) := by decide +kernel
theorem at_150_7 : j_at 150 7 = some (.lload 4, 0, 0, 0) := by decide +kernel
theorem at_150_9 : j_at 150 9 = some (.lcmp, 0, 0, 0) := by decide +kernel
theorem at_150_10 : j_at 150 10 = some (.ifCond .gt 7, 17, 0, 0) := by decide +kernel
theorem at_150_13 : j_at 150 13 = some (.iconst 1, 0, 0, 1) := by decide +kernel
theorem at_150_14 : j_at 150 14 = some (.goto 4, 18, 0, 0) := by decide +kernel
theorem at_150_17 : j_at 150 17 = some (.iconst 0, 0, 0, 0) := by decide +kernel
theorem at_150_18 : j_at 150 18 = some (.ireturn, 0, 0, 0) := by decide +kernel
theorem at_151_0 : j_at 151 0 = some (.aload_n 0, 0, 0, 0) := by decide +kernel
theorem at_151_1 : j_at 151 1 = some (.getfield 11, 12, 0, 0) := by decide +kernel
theorem at_151_4 : j_at 151 4 = some (.iconst 0, 0, 0, 0) := by decide +kernel
theorem at_151_5 : j_at 151 5 = some (.iaload, 0, 0, 0) := by decide +kernel
theorem at_151_6 : j_at 151 6 = some (.ireturn, 0, 0, 0) := by decide +kernel
theorem at_152_0 : j_at 152 0 = some (.iload_n 1, 0, 0, 0) := by decide +kernel
theorem at_152_1 : j_at 152 1 = some (.i2l, 0, 0, 0) := by decide +kernel
theorem at_152_2 : j_at 152 2 = some (.lconst 0, 0, 0, 0) := by decide +kernel
theorem at_152_3 : j_at 152 3 = some (.aload_n 0, 0, 0, 0) := by decide +kernel
theorem at_152_4 : j_at 152 4 = some (.invokevirtual 89, 151, 0, 0) := by decide +kernel
theorem at_152_7 : j_at 152 7 = some (.iconst 1, 0, 0, 1) := by decide +kernel
theorem at_152_8 : j_at 152 8 = some (.isub, 0, 0, 0) := by decide +kernel
theorem at_152_9 : j_at 152 9 = some (.i2l, 0, 0, 0) := by decide +kernel
theorem at_152_10 : j_at 152 10 = some (.invokestatic 93, 150, 3, 0) := by decide +kernel
theorem at_152_13 : j_at 152 13 = some (.ireturn, 0, 0, 0) := by decide +kernel
theorem at_153_0 : j_at 153 0 = some (.iload_n 1, 0, 0, 0) := by decide +kernel
theorem at_153_1 : j_at 153 1 = some (.i2l, 0, 0, 0) := by decide +kernel
theorem at_153_2 : j_at 153 2 = some (.lconst 0, 0, 0, 0) := by decide +kernel
theorem at_153_3 : j_at 153 3 = some (.aload_n 0, 0, 0, 0) := by decide +kernel
theorem at_153_4 : j_at 153 4 = some (.getfield 11, 12, 0, 0) := by decide +kernel
theorem at_153_7 : j_at 153 7 = some (.iconst 1, 0, 0, 1) := by decide +kernel
theorem at_153_8 : j_at 153 8 = some (.iaload, 0, 0, 0) := by decide +kernel
theorem at_153_9 : j_at 153 9 = some (.iconst 1, 0, 0, 1) := by decide +kernel
theorem at_153_10 : j_at 153 10 = some (.isub, 0, 0, 0) := by decide +kernel
theorem at_153_11 : j_at 153 11 = some (.i2l, 0, 0, 0) := by decide +kernel
theorem at_153_12 : j_at 153 12 = some (.invokestatic 93, 150, 3, 0) := by decide +kernel
theorem at_153_15 : j_at 153 15 = some (.ireturn, 0, 0, 0) := by decide +kernel
theorem at_154_0 : j_at 154 0 = some (.aload_n 0, 0, 0, 0) := by decide +kernel
theorem at_154_1 : j_at 154 1 = some (.getfield 11, 12, 0, 0) := by decide +kernel
theorem at_154_4 : j_at 154 4 = some (.bipush 12, 0, 0, 12) := by decide +kernel
theorem at_154_6 : j_at 154 6 = some (.bipush 7, 0, 0, 7) := by decide +kernel
theorem at_154_8 : j_at 154 8 = some (.iload_n 1, 0, 0, 0) := by decide +kernel
theorem at_154_9 : j_at 154 9 = some (.imul, 0, 0, 0) := by decide +kernel
theorem at_154_10 : j_at 154 10 = some (.iadd, 0, 0, 0) := by decide +kernel
theorem at_154_11 : j_at 154 11 = some (.iaload, 0, 0, 0) := by decide +kernel
theorem at_154_12 : j_at 154 12 = some (.ireturn, 0, 0, 0) := by decide +kernel
theorem at_155_0 : j_at 155 0 = some (.aload_n 0, 0, 0, 0) := by decide +kernel
theorem at_155_1 : j_at 155 1 = some (.getfield 11, 12, 0, 0) := by decide +kernel
theorem at_155_4 : j_at 155 4 = some (.bipush 12, 0, 0, 12) := by decide +kernel
theorem at_155_6 : j_at 155 6 = some (.bipush 7, 0, 0, 7) := by decide +kernel
theorem at_155_8 : j_at 155 8 = some (.iload_n 1, 0, 0, 0) := by decide +kernel
theorem at_155_9 : j_at 155 9 = some (.imul, 0, 0, 0) := by decide +kernel
theorem at_155_10 : j_at 155 10 = some (.iadd, 0, 0, 0) := by decide +kernel
theorem at_155_11 : j_at 155 11 = some (.iconst 1, 0, 0, 1) := by decide +kernel
theorem at_155_12 : j_at 155 12 = some (.iadd, 0, 0, 0) := by decide +kernel
theorem at_155_13 : j_at 155 13 = some (.iaload, 0, 0, 0) := by decide +kernel
theorem at_155_14 : j_at 155 14 = some (.ireturn, 0, 0, 0) := by decide +kernel
theorem at_156_0 : j_at 156 0 = some (.aload_n 0, 0, 0, 0) := by decide +kernel
theorem at_156_1 : j_at 156 1 = some (.getfield 11, 12, 0, 0) := by decide +kernel
theorem at_156_4 : j_at 156 4 = some (.bipush 12, 0, 0, 12) := by decide +kernel
theorem at_156_6 : j_at 156 6 = some (.bipush 7, 0, 0, 7) := by decide +kernel
theorem at_156_8 : j_at 156 8 = some (.iload_n 1, 0, 0, 0) := by decide +kernel
theorem at_156_9 : j_at 156 9 = some (.imul, 0, 0, 0) := by decide +kernel
theorem at_156_10 : j_at 156 10 = some (.iadd, 0, 0, 0) := by decide +kernel
theorem at_156_11 : j_at 156 11 = some (.iconst 2, 0, 0, 2) := by decide +kernel
theorem at_156_12 : j_at 156 12 = some (.iadd, 0, 0, 0) := by decide +kernel
theorem at_156_13 : j_at 156 13 = some (.iload_n 2, 0, 0, 0) := by decide +kernel
theorem at_156_14 : j_at 156 14 = some (.iadd, 0, 0, 0) := by decide +kernel
theorem at_156_15 : j_at 156 15 = some (.iaload, 0, 0, 0) := by decide +kernel
theorem at_156_16 : j_at 156 16 = some (.ireturn, 0, 0, 0) := by decide +kernel
theorem at_157_0 : j_at 157 0 = some (.aload_n 0, 0, 0, 0) := by decide +kernel
theorem at_157_1 : j_at 157 1 = some (.iload_n 1, 0, 0, 0) := by decide +kernel
theorem at_157_2 : j_at 157 2 = some (.invokevirtual 97, 154, 1, 0) := by decide +kernel
theorem at_157_5 : j_at 157 5 = some (.ifCond .ne 14, 19, 0, 0) := by decide +kernel
theorem at_157_8 : j_at 157 8 = some (.aload_n 0, 0, 0, 0) := by decide +kernel
theorem at_157_9 : j_at 157 9 = some (.iload_n 1, 0, 0, 0) := by decide +kernel
theorem at_157_10 : j_at 157 10 = some (.iload_n 2, 0, 0, 0) := by decide +kernel
theorem at_157_11 : j_at 157 11 = some (.invokevirtual 101, 156, 2, 0) := by decide +kernel
theorem at_157_14 : j_at 157 14 = some (.ineg, 0, 0, 0) := by decide +kernel
theorem at_157_15 : j_at 157 15 = some (.i2l, 0, 0, 0) := by decide +kernel
theorem at_157_16 : j_at 157 16 = some (.goto 10, 26, 0, 0) := by decide +kernel
theorem at_157_19 : j_at 157 19 = some (.aload_n 0, 0, 0, 0) := by decide +kernel
theorem at_157_20 : j_at 157 20 = some (.iload_n 1, 0, 0, 0) := by decide +kernel
theorem at_157_21 : j_at 157 21 = some (.iload_n 2, 0, 0, 0) := by decide +kernel
theorem at_157_22 : j_at 157 22 = some (.invokevirtual 101, 156, 2, 0) := by decide +kernel
theorem at_157_25 : j_at 157 25 = some (.i2l, 0, 0, 0) := by decide +kernel
theorem at_157_26 : j_at 157 26 = some (.lreturn, 0, 0, 0) := by decide +kernel
theorem at_158_0 : j_at 158 0 = some (.aload_n 0, 0, 0, 0) := by decide +kernel
theorem at_158_1 : j_at 158 1 = some (.iload_n 1, 0, 0, 0) := by decide +kernel
theorem at_158_2 : j_at 158 2 = some (.invokevirtual 97, 154, 1, 0) := by decide +kernel
theorem at_158_5 : j_at 158 5 = some (.ifCond .ne 13, 18, 0, 0) := by decide +kernel
theorem at_158_8 : j_at 158 8 = some (.aload_n 0, 0, 0, 0) := by decide +kernel
theorem at_158_9 : j_at 158 9 = some (.iload_n 1, 0, 0, 0) := by decide +kernel
theorem at_158_10 : j_at 158 10 = some (.invokevirtual 105, 155, 1, 0) := by decide +kernel
theorem at_158_13 : j_at 158 13 = some (.ineg, 0, 0, 0) := by decide +kernel
theorem at_158_14 : j_at 158 14 = some (.i2l, 0, 0, 0) := by decide +kernel
theorem at_158_15 : j_at 158 15 = some (.goto 9, 24, 0, 0) := by decide +kernel
theorem at_158_18 : j_at 158 18 = some (.aload_n 0, 0, 0, 0) := by decide +kernel
theorem at_158_19 : j_at 158 19 = some (.iload_n 1, 0, 0, 0) := by decide +kernel
theorem at_158_20 : j_at 158 20 = some (.invokevirtual 105, 155, 1, 0) := by decide +kernel
theorem at_158_23 : j_at 158 23 = some (.i2l, 0, 0, 0) := by decide +kernel
theorem at_158_24 : j_at 158 24 = some (.lreturn, 0, 0, 0) := by decide +kernel
theorem at_159_0 : j_at 159 0 = some (.iload_n 1, 0, 0, 0) := by decide +kernel
theorem at_159_1 : j_at 159 1 = some (.i2l, 0, 0, 0) := by decide +kernel
theorem at_159_2 : j_at 159 2 = some (.lconst 1, 0, 0, 1) := by decide +kernel
theorem at_159_3 : j_at 159 3 = some (.ldc2_w 108, 0, 0, 5) := by decide +kernel
theorem at_159_6 : j_at 159 6 = some (.invokestatic 93, 150, 3, 0) := by decide +kernel
theorem at_159_9 : j_at 159 9 = some (.ifCond .ne 6, 15, 0, 0) := by decide +kernel
theorem at_159_12 : j_at 159 12 = some (.bipush (-2), 0, 0, -2) := by decide +kernel
theorem at_159_14 : j_at 159 14 = some (.ireturn, 0, 0, 0) := by decide +kernel
theorem at_159_15 : j_at 159 15 = some (.aload_n 0, 0, 0, 0) := by decide +kernel
theorem at_159_16 : j_at 159 16 = some (.invokevirtual 89, 151, 0, 0) := by decide +kernel
theorem at_159_19 : j_at 159 19 = some (.istore_n 2, 0, 0, 0) := by decide +kernel
theorem at_159_20 : j_at 159 20 = some (.aload_n 0, 0, 0, 0) := by decide +kernel
theorem at_159_21 : j_at 159 21 = some (.iload_n 1, 0, 0, 0) := by decide +kernel
theorem at_159_22 : j_at 159 22 = some (.invokevirtual 81, 149, 1, 0) := by decide +kernel
theorem at_159_25 : j_at 159 25 = some (.iload_n 2, 0, 0, 0) := by decide +kernel
theorem at_159_26 : j_at 159 26 = some (.ireturn, 0, 0, 0) := by decide +kernel
theorem at_160_0 : j_at 160 0 = some (.aload_n 0, 0, 0, 0) := by decide +kernel
theorem at_160_1 : j_at 160 1 = some (.iload_n 1, 0, 0, 0) := by decide +kernel
theorem at_160_2 : j_at 160 2 = some (.invokevirtual 110, 152, 1, 0) := by decide +kernel
theorem at_160_5 : j_at 160 5 = some (.ifCond .ne 5, 10, 0, 0) := by decide +kernel
theorem at_160_8 : j_at 160 8 = some (.iconst (-1), 0, 0, -1) := by decide +kernel
theorem at_160_9 : j_at 160 9 = some (.ireturn, 0, 0, 0) := by decide +kernel
theorem at_160_10 : j_at 160 10 = some (.iload_n 2, 0, 0, 0) := by decide +kernel
theorem at_160_11 : j_at 160 11 = some (.i2l, 0, 0, 0) := by decide +kernel
theorem at_160_12 : j_at 160 12 = some (.lconst 0, 0, 0, 0) := by decide +kernel
theorem at_160_13 : j_at 160 13 = some (.ldc2_w 114, 0, 0, 99) := by decide +kernel
theorem at_160_16 : j_at 160 16 = some (.invokestatic 93, 150, 3, 0) := by decide +kernel
theorem at_160_19 : j_at 160 19 = some (.ifCond .ne 6, 25, 0, 0) := by decide +kernel
theorem at_160_22 : j_at 160 22 = some (.bipush (-2), 0, 0, -2) := by decide +kernel
theorem at_160_24 : j_at 160 24 = some (.ireturn, 0, 0, 0) := by decide +kernel
theorem at_160_25 : j_at 160 25 = some (.aload_n 0, 0, 0, 0) := by decide +kernel
theorem at_160_26 : j_at 160 26 = some (.getfield 11, 12, 0, 0) := by decide +kernel
theorem at_160_29 : j_at 160 29 = some (.bipush 7, 0, 0, 7) := by decide +kernel
theorem at_160_31 : j_at 160 31 = some (.iload_n 1, 0, 0, 0) := by decide +kernel
theorem at_160_32 : j_at 160 32 = some (.iadd, 0, 0, 0) := by decide +kernel
theorem at_160_33 : j_at 160 33 = some (.iaload, 0, 0, 0) := by decide +kernel
theorem at_160_34 : j_at 160 34 = some (.istore_n 3, 0, 0, 0) := by decide +kernel
theorem at_160_35 : j_at 160 35 = some (.aload_n 0, 0, 0, 0) := by decide +kernel
theorem at_160_36 : j_at 160 36 = some (.getfield 11, 12, 0, 0) := by decide +kernel
theorem at_160_39 : j_at 160 39 = some (.bipush 7, 0, 0, 7) := by decide +kernel
theorem at_160_41 : j_at 160 41 = some (.iload_n 1, 0, 0, 0) := by decide +kernel
theorem at_160_42 : j_at 160 42 = some (.iadd, 0, 0, 0) := by decide +kernel
theorem at_160_43 : j_at 160 43 = some (.iload_n 2, 0, 0, 0) := by decide +kernel
theorem at_160_44 : j_at 160 44 = some (.iastore, 0, 0, 0) := by decide +kernel
theorem at_160_45 : j_at 160 45 = some (.aload_n 0, 0, 0, 0) := by decide +kernel
theorem at_160_46 : j_at 160 46 = some (.getfield 11, 12, 0, 0) := by decide +kernel
theorem at_160_49 : j_at 160 49 = some (.bipush 6, 0, 0, 6) := by decide +kernel
theorem at_160_51 : j_at 160 51 = some (.iconst 0, 0, 0, 0) := by decide +kernel
theorem at_160_52 : j_at 160 52 = some (.iastore, 0, 0, 0) := by decide +kernel
theorem at_160_53 : j_at 160 53 = some (.aload_n 0, 0, 0, 0) := by decide +kernel
theorem at_160_54 : j_at 160 54 = some (.getfield 30, 12, 9, 0) := by decide +kernel
theorem at_160_57 : j_at 160 57 = some (.iconst 0, 0, 0, 0) := by decide +kernel
theorem at_160_58 : j_at 160 58 = some (.putfield 85, 11, 18, 0) := by decide +kernel
theorem at_160_61 : j_at 160 61 = some (.iload_n 3, 0, 0, 0) := by decide +kernel
theorem at_160_62 : j_at 160 62 = some (.ireturn, 0, 0, 0) := by decide +kernel
theorem at_161_0 : j_at 161 0 = some (.bipush 12, 0, 0, 12) := by decide +kernel
theorem at_161_2 : j_at 161 2 = some (.bipush 7, 0, 0, 7) := by decide +kernel
theorem at_161_4 : j_at 161 4 = some (.aload_n 0, 0, 0, 0) := by decide +kernel
theorem at_161_5 : j_at 161 5 = some (.getfield 11, 12, 0, 0) := by decide +kernel
theorem at_161_8 : j_at 161 8 = some (.iconst 1, 0, 0, 1) := by decide +kernel
theorem at_161_9 : j_at 161 9 = some (.iaload, 0, 0, 0) := by decide +kernel
theorem at_161_10 : j_at 161 10 = some (.imul, 0, 0, 0) := by decide +kernel
theorem at_161_11 : j_at 161 11 = some (.iadd, 0, 0, 0) := by decide +kernel
theorem at_161_12 : j_at 161 12 = some (.istore_n 3, 0, 0, 0) := by decide +kernel
theorem at_161_13 : j_at 161 13 = some (.aload_n 0, 0, 0, 0) := by decide +kernel
theorem at_161_14 : j_at 161 14 = some (.getfield 11, 12, 0, 0) := by decide +kernel
theorem at_161_17 : j_at 161 17 = some (.iload_n 3, 0, 0, 0) := by decide +kernel
theorem at_161_18 : j_at 161 18 = some (.iload_n 1, 0, 0, 0) := by decide +kernel
theorem at_161_19 : j_at 161 19 = some (.iastore, 0, 0, 0) := by decide +kernel
theorem at_161_20 : j_at 161 20 = some (.aload_n 0, 0, 0, 0) := by decide +kernel
theorem at_161_21 : j_at 161 21 = some (.getfield 11, 12, 0, 0) := by decide +kernel
theorem at_161_24 : j_at 161 24 = some (.iload_n 3, 0, 0, 0) := by decide +kernel
theorem at_161_25 : j_at 161 25 = some (.iconst 1, 0, 0, 1) := by decide +kernel
theorem at_161_26 : j_at 161 26 = some (.iadd, 0, 0, 0) := by decide +kernel
theorem at_161_27 : j_at 161 27 = some (.iload_n 2, 0, 0, 0) := by decide +kernel
theorem at_161_28 : j_at 161 28 = some (.iastore, 0, 0, 0) := by decide +kernel
theorem at_161_29 : j_at 161 29 = some (.iconst 0, 0, 0, 0) := by decide +kernel
theorem at_161_30 : j_at 161 30 = some (.istore 4, 0, 0, 0) := by decide +kernel
theorem at_161_32 : j_at 161 32 = some (.iload 4, 0, 0, 0) := by decide +kernel
theorem at_161_34 : j_at 161 34 = some (.iconst 5, 0, 0, 5) := by decide +kernel
theorem at_161_35 : j_at 161 35 = some (.if_icmp .ge 21, 56, 0, 0) := by decide +kernel
theorem at_161_38 : j_at 161 38 = some (.aload_n 0, 0, 0, 0) := by decide +kernel
theorem at_161_39 : j_at 161 39 = some (.getfield 11, 12, 0, 0) := by decide +kernel
theorem at_161_42 : j_at 161 42 = some (.iload_n 3, 0, 0, 0) := by decide +kernel
theorem at_161_43 : j_at 161 43 = some (.iconst 2, 0, 0, 2) := by decide +kernel
theorem at_161_44 : j_at 161 44 = some (.iadd, 0, 0, 0) := by decide +kernel
theorem at_161_45 : j_at 161 45 = some (.iload 4, 0, 0, 0) := by decide +kernel
theorem at_161_47 : j_at 161 47 = some (.iadd, 0, 0, 0) := by decide +kernel
theorem at_161_48 : j_at 161 48 = some (.iconst 0, 0, 0, 0) := by decide +kernel
theorem at_161_49 : j_at 161 49 = some (.iastore, 0, 0, 0) := by decide +kernel
theorem at_161_50 : j_at 161 50 = some (.iinc 4 1, 0, 0, 0) := by decide +kernel
theorem at_161_53 : j_at 161 53 = some (.goto (-21), 32, 0, 0) := by decide +kernel
theorem at_161_56 : j_at 161 56 = some (.aload_n 0, 0, 0, 0) := by decide +kernel
theorem at_161_57 : j_at 161 57 = some (.getfield 11, 12, 0, 0) := by decide +kernel
theorem at_161_60 : j_at 161 60 = some (.iconst 1, 0, 0, 1) := by decide +kernel
theorem at_161_61 : j_at 161 61 = some (.dup2, 0, 0, 0) := by decide +kernel
theorem at_161_62 : j_at 161 62 = some (.iaload, 0, 0, 0) := by decide +kernel
theorem at_161_63 : j_at 161 63 = some (.iconst 1, 0, 0, 1) := by decide +kernel
theorem at_161_64 : j_at 161 64 = some (.iadd, 0, 0, 0) := by decide +kernel
theorem at_161_65 : j_at 161 65 = some (.iastore, 0, 0, 0) := by decide +kernel
theorem at_161_66 : j_at 161 66 = some (.aload_n 0, 0, 0, 0) := by decide +kernel
theorem at_161_67 : j_at 161 67 = some (.getfield 30, 12, 9, 0) := by decide +kernel
theorem at_161_70 : j_at 161 70 = some (.iconst 0, 0, 0, 0) := by decide +kernel
theorem at_161_71 : j_at 161 71 = some (.putfield 85, 11, 18, 0) := by decide +kernel
theorem at_161_74 : j_at 161 74 = some (.return_, 0, 0, 0) := by decide +kernel
theorem at_162_0 : j_at 162 0 = some (.iload_n 1, 0, 0, 0) := by decide +kernel
theorem at_162_1 : j_at 162 1 = some (.i2l, 0, 0, 0) := by decide +kernel
theorem at_162_2 : j_at 162 2 = some (.lconst 0, 0, 0, 0) := by decide +kernel
theorem at_162_3 : j_at 162 3 = some (.lconst 1, 0, 0, 1) := by decide +kernel
theorem at_162_4 : j_at 162 4 = some (.invokestatic 93, 150, 3, 0) := by decide +kernel
theorem at_162_7 : j_at 162 7 = some (.ifCond .eq 17, 24, 0, 0) := by decide +kernel
theorem at_162_10 : j_at 162 10 = some (.iload_n 2, 0, 0, 0) := by decide +kernel
theorem at_162_11 : j_at 162 11 = some (.i2l, 0, 0, 0) := by decide +kernel
theorem at_162_12 : j_at 162 12 = some (.ldc2_w 116, 0, 0, -99) := by decide +kernel
theorem at_162_15 : j_at 162 15 = some (.ldc2_w 118, 0, 0, 999) := by decide +kernel
theorem at_162_18 : j_at 162 18 = some (.invokestatic 93, 150, 3, 0) := by decide +kernel
theorem at_162_21 : j_at 162 21 = some (.ifCond .ne 6, 27, 0, 0) := by decide +kernel
theorem at_162_24 : j_at 162 24 = some (.bipush (-2), 0, 0, -2) := by decide +kernel
theorem at_162_26 : j_at 162 26 = some (.ireturn, 0, 0, 0) := by decide +kernel
theorem at_162_27 : j_at 162 27 = some (.aload_n 0, 0, 0, 0) := by decide +kernel
theorem at_162_28 : j_at 162 28 = some (.getfield 11, 12, 0, 0) := by decide +kernel
theorem at_162_31 : j_at 162 31 = some (.iconst 1, 0, 0, 1) := by decide +kernel
theorem at_162_32 : j_at 162 32 = some (.iaload, 0, 0, 0) := by decide +kernel
theorem at_162_33 : j_at 162 33 = some (.bipush 8, 0, 0, 8) := by decide +kernel
theorem at_162_35 : j_at 162 35 = some (.if_icmp .ne 6, 41, 0, 0) := by decide +kernel
theorem at_162_38 : j_at 162 38 = some (.bipush (-4), 0, 0, -4) := by decide +kernel
theorem at_162_40 : j_at 162 40 = some (.ireturn, 0, 0, 0) := by decide +kernel
theorem at_162_41 : j_at 162 41 = some (.aload_n 0, 0, 0, 0) := by decide +kernel
theorem at_162_42 : j_at 162 42 = some (.iload_n 1, 0, 0, 0) := by decide +kernel
theorem at_162_43 : j_at 162 43 = some (.iload_n 2, 0, 0, 0) := by decide +kernel
theorem at_162_44 : j_at 162 44 = some (.invokevirtual 120, 161, 2, 0) := by decide +kernel
theorem at_162_47 : j_at 162 47 = some (.aload_n 0, 0, 0, 0) := by decide +kernel
theorem at_162_48 : j_at 162 48 = some (.getfield 11, 12, 0, 0) := by decide +kernel
theorem at_162_51 : j_at 162 51 = some (.iconst 1, 0, 0, 1) := by decide +kernel
theorem at_162_52 : j_at 162 52 = some (.iaload, 0, 0, 0) := by decide +kernel
theorem at_162_53 : j_at 162 53 = some (.iconst 1, 0, 0, 1) := by decide +kernel
theorem at_162_54 : j_at 162 54 = some (.isub, 0, 0, 0) := by decide +kernel
theorem at_162_55 : j_at 162 55 = some (.ireturn, 0, 0, 0) := by decide +kernel
theorem at_163_0 : j_at 163 0 = some (.aload_n 0, 0, 0, 0) := by decide +kernel
theorem at_163_1 : j_at 163 1 = some (.iload_n 1, 0, 0, 0) := by decide +kernel
theorem at_163_2 : j_at 163 2 = some (.invokevirtual 124, 153, 1, 0) := by decide +kernel
theorem at_163_5 : j_at 163 5 = some (.ifCond .eq 11, 16, 0, 0) := by decide +kernel
theorem at_163_8 : j_at 163 8 = some (.aload_n 0, 0, 0, 0) := by decide +kernel
theorem at_163_9 : j_at 163 9 = some (.iload_n 2, 0, 0, 0) := by decide +kernel
theorem at_163_10 : j_at 163 10 = some (.invokevirtual 110, 152, 1, 0) := by decide +kernel
theorem at_163_13 : j_at 163 13 = some (.ifCond .ne 5, 18, 0, 0) := by decide +kernel
theorem at_163_16 : j_at 163 16 = some (.iconst (-1), 0, 0, -1) := by decide +kernel
theorem at_163_17 : j_at 163 17 = some (.ireturn, 0, 0, 0) := by decide +kernel
theorem at_163_18 : j_at 163 18 = some (.iload_n 3, 0, 0, 0) := by decide +kernel
theorem at_163_19 : j_at 163 19 = some (.i2l, 0, 0, 0) := by decide +kernel
theorem at_163_20 : j_at 163 20 = some (.ldc2_w 127, 0, 0, -9) := by decide +kernel
theorem at_163_23 : j_at 163 23 = some (.ldc2_w 129, 0, 0, 9) := by decide +kernel
theorem at_163_26 : j_at 163 26 = some (.invokestatic 93, 150, 3, 0) := by decide +kernel
theorem at_163_29 : j_at 163 29 = some (.ifCond .ne 6, 35, 0, 0) := by decide +kernel
theorem at_163_32 : j_at 163 32 = some (.bipush (-2), 0, 0, -2) := by decide +kernel
theorem at_163_34 : j_at 163 34 = some (.ireturn, 0, 0, 0) := by decide +kernel
theorem at_163_35 : j_at 163 35 = some (.aload_n 0, 0, 0, 0) := by decide +kernel
theorem at_163_36 : j_at 163 36 = some (.iload_n 1, 0, 0, 0) := by decide +kernel
theorem at_163_37 : j_at 163 37 = some (.iload_n 2, 0, 0, 0) := by decide +kernel
theorem at_163_38 : j_at 163 38 = some (.invokevirtual 101, 156, 2, 0) := by decide +kernel
theorem at_163_41 : j_at 163 41 = some (.istore 4, 0, 0, 0) := by decide +kernel
theorem at_163_43 : j_at 163 43 = some (.aload_n 0, 0, 0, 0) := by decide +kernel
theorem at_163_44 : j_at 163 44 = some (.getfield 11, 12, 0, 0) := by decide +kernel
theorem at_163_47 : j_at 163 47 = some (.bipush 12, 0, 0, 12) := by decide +kernel
theorem at_163_49 : j_at 163 49 = some (.bipush 7, 0, 0, 7) := by decide +kernel
theorem at_163_51 : j_at 163 51 = some (.iload_n 1, 0, 0, 0) := by decide +kernel
theorem at_163_52 : j_at 163 52 = some (.imul, 0, 0, 0) := by decide +kernel
theorem at_163_53 : j_at 163 53 = some (.iadd, 0, 0, 0) := by decide +kernel
theorem at_163_54 : j_at 163 54 = some (.iconst 2, 0, 0, 2) := by decide +kernel
theorem at_163_55 : j_at 163 55 = some (.iadd, 0, 0, 0) := by decide +kernel
theorem at_163_56 : j_at 163 56 = some (.iload_n 2, 0, 0, 0) := by decide +kernel
theorem at_163_57 : j_at 163 57 = some (.iadd, 0, 0, 0) := by decide +kernel
theorem at_163_58 : j_at 163 58 = some (.iload_n 3, 0, 0, 0) := by decide +kernel
theorem at_163_59 : j_at 163 59 = some (.iastore, 0, 0, 0) := by decide +kernel
theorem at_163_60 : j_at 163 60 = some (.aload_n 0, 0, 0, 0) := by decide +kernel
theorem at_163_61 : j_at 163 61 = some (.getfield 30, 12, 9, 0) := by decide +kernel
theorem at_163_64 : j_at 163 64 = some (.iconst 0, 0, 0, 0) := by decide +kernel
theorem at_163_65 : j_at 163 65 = some (.putfield 85, 11, 18, 0) := by decide +kernel
theorem at_163_68 : j_at 163 68 = some (.bipush 100, 0, 0, 100) := by decide +kernel
theorem at_163_70 : j_at 163 70 = some (.iload 4, 0, 0, 0) := by decide +kernel
theorem at_163_72 : j_at 163 72 = some (.iadd, 0, 0, 0) := by decide +kernel
theorem at_163_73 : j_at 163 73 = some (.ireturn, 0, 0, 0) := by decide +kernel
theorem at_164_0 : j_at 164 0 = some (.aload_n 0, 0, 0, 0) := by decide +kernel
theorem at_164_1 : j_at 164 1 = some (.iload_n 1, 0, 0, 0) := by decide +kernel
theorem at_164_2 : j_at 164 2 = some (.invokevirtual 124, 153, 1, 0) := by decide +kernel
theorem at_164_5 : j_at 164 5 = some (.ifCond .ne 5, 10, 0, 0) := by decide +kernel
theorem at_164_8 : j_at 164 8 = some (.iconst (-1), 0, 0, -1) := by decide +kernel
theorem at_164_9 : j_at 164 9 = some (.ireturn, 0, 0, 0) := by decide +kernel
theorem at_164_10 : j_at 164 10 = some (.iload_n 2, 0, 0, 0) := by decide +kernel
theorem at_164_11 : j_at 164 11 = some (.i2l, 0, 0, 0) := by decide +kernel
theorem at_164_12 : j_at 164 12 = some (.ldc2_w 116, 0, 0, -99) := by decide +kernel
theorem at_164_15 : j_at 164 15 = some (.ldc2_w 118, 0, 0, 999) := by decide +kernel
theorem at_164_18 : j_at 164 18 = some (.invokestatic 93, 150, 3, 0) := by decide +kernel
theorem at_164_21 : j_at 164 21 = some (.ifCond .ne 6, 27, 0, 0) := by decide +kernel
theorem at_164_24 : j_at 164 24 = some (.bipush (-2), 0, 0, -2) := by decide +kernel
theorem at_164_26 : j_at 164 26 = some (.ireturn, 0, 0, 0) := by decide +kernel
theorem at_164_27 : j_at 164 27 = some (.aload_n 0, 0, 0, 0) := by decide +kernel
theorem at_164_28 : j_at 164 28 = some (.iload_n 1, 0, 0, 0) := by decide +kernel
theorem at_164_29 : j_at 164 29 = some (.invokevirtual 105, 155, 1, 0) := by decide +kernel
theorem at_164_32 : j_at 164 32 = some (.istore_n 3, 0, 0, 0) := by decide +kernel
theorem at_164_33 : j_at 164 33 = some (.aload_n 0, 0, 0, 0) := by decide +kernel
theorem at_164_34 : j_at 164 34 = some (.getfield 11, 12, 0, 0) := by decide +kernel
theorem at_164_37 : j_at 164 37 = some (.bipush 12, 0, 0, 12) := by decide +kernel
theorem at_164_39 : j_at 164 39 = some (.bipush 7, 0, 0, 7) := by decide +kernel
theorem at_164_41 : j_at 164 41 = some (.iload_n 1, 0, 0, 0) := by decide +kernel
theorem at_164_42 : j_at 164 42 = some (.imul, 0, 0, 0) := by decide +kernel
theorem at_164_43 : j_at 164 43 = some (.iadd, 0, 0, 0) := by decide +kernel
theorem at_164_44 : j_at 164 44 = some (.iconst 1, 0, 0, 1) := by decide +kernel
theorem at_164_45 : j_at 164 45 = some (.iadd, 0, 0, 0) := by decide +kernel
theorem at_164_46 : j_at 164 46 = some (.iload_n 2, 0, 0, 0) := by decide +kernel
theorem at_164_47 : j_at 164 47 = some (.iastore, 0, 0, 0) := by decide +kernel
theorem at_164_48 : j_at 164 48 = some (.aload_n 0, 0, 0, 0) := by decide +kernel
theorem at_164_49 : j_at 164 49 = some (.getfield 30, 12, 9, 0) := by decide +kernel
theorem at_164_52 : j_at 164 52 = some (.iconst 0, 0, 0, 0) := by decide +kernel
theorem at_164_53 : j_at 164 53 = some (.putfield 85, 11, 18, 0) := by decide +kernel
theorem at_164_56 : j_at 164 56 = some (.sipush 1000, 0, 0, 1000) := by decide +kernel
theorem at_164_59 : j_at 164 59 = some (.iload_n 3, 0, 0, 0) := by decide +kernel
theorem at_164_60 : j_at 164 60 = some (.iadd, 0, 0, 0) := by decide +kernel
theorem at_164_61 : j_at 164 61 = some (.ireturn, 0, 0, 0) := by decide +kernel
theorem at_165_0 : j_at 165 0 = some (.aload_n 0, 0, 0, 0) := by decide +kernel
theorem at_165_1 : j_at 165 1 = some (.getfield 11, 12, 0, 0) := by decide +kernel
theorem at_165_4 : j_at 165 4 = some (.iconst 1, 0, 0, 1) := by decide +kernel
theorem at_165_5 : j_at 165 5 = some (.iaload, 0, 0, 0) := by decide +kernel
theorem at_165_6 : j_at 165 6 = some (.ifCond .ne 6, 12, 0, 0) := by decide +kernel
theorem at_165_9 : j_at 165 9 = some (.bipush (-3), 0, 0, -3) := by decide +kernel
theorem at_165_11 : j_at 165 11 = some (.ireturn, 0, 0, 0) := by decide +kernel
theorem at_165_12 : j_at 165 12 = some (.aload_n 0, 0, 0, 0) := by decide +kernel
theorem at_165_13 : j_at 165 13 = some (.getfield 11, 12, 0, 0) := by decide +kernel
theorem at_165_16 : j_at 165 16 = some (.iconst 1, 0, 0, 1) := by decide +kernel
theorem at_165_17 : j_at 165 17 = some (.dup2, 0, 0, 0) := by decide +kernel
theorem at_165_18 : j_at 165 18 = some (.iaload, 0, 0, 0) := by decide +kernel
theorem at_165_19 : j_at 165 19 = some (.iconst 1, 0, 0, 1) := by decide +kernel
theorem at_165_20 : j_at 165 20 = some (.isub, 0, 0, 0) := by decide +kernel
theorem at_165_21 : j_at 165 21 = some (.iastore, 0, 0, 0) := by decide +kernel
theorem at_165_22 : j_at 165 22 = some (.aload_n 0, 0, 0, 0) := by decide +kernel
theorem at_165_23 : j_at 165 23 = some (.getfield 11, 12, 0, 0) := by decide +kernel
theorem at_165_26 : j_at 165 26 = some (.bipush 68, 0, 0, 68) := by decide +kernel
theorem at_165_28 : j_at 165 28 = some (.aload_n 0, 0, 0, 0) := by decide +kernel
theorem at_165_29 : j_at 165 29 = some (.getfield 11, 12, 0, 0) := by decide +kernel
theorem at_165_32 : j_at 165 32 = some (.iconst 1, 0, 0, 1) := by decide +kernel
theorem at_165_33 : j_at 165 33 = some (.iaload, 0, 0, 0) := by decide +kernel
theorem at_165_34 : j_at 165 34 = some (.iadd, 0, 0, 0) := by decide +kernel
theorem at_165_35 : j_at 165 35 = some (.iconst 0, 0, 0, 0) := by decide +kernel
theorem at_165_36 : j_at 165 36 = some (.iastore, 0, 0, 0) := by decide +kernel
theorem at_165_37 : j_at 165 37 = some (.aload_n 0, 0, 0, 0) := by decide +kernel
theorem at_165_38 : j_at 165 38 = some (.getfield 30, 12, 9, 0) := by decide +kernel
theorem at_165_41 : j_at 165 41 = some (.iconst 0, 0, 0, 0) := by decide +kernel
theorem at_165_42 : j_at 165 42 = some (.putfield 85, 11, 18, 0) := by decide +kernel
theorem at_165_45 : j_at 165 45 = some (.aload_n 0, 0, 0, 0) := by decide +kernel
theorem at_165_46 : j_at 165 46 = some (.getfield 11, 12, 0, 0) := by decide +kernel
theorem at_165_49 : j_at 165 49 = some (.iconst 1, 0, 0, 1) := by decide +kernel
theorem at_165_50 : j_at 165 50 = some (.iaload, 0, 0, 0) := by decide +kernel
theorem at_165_51 : j_at 165 51 = some (.ireturn, 0, 0, 0) := by decide +kernel
theorem at_166_0 : j_at 166 0 = some (.aload_n 0, 0, 0, 0) := by decide +kernel
theorem at_166_1 : j_at 166 1 = some (.iload_n 1, 0, 0, 0) := by decide +kernel
theorem at_166_2 : j_at 166 2 = some (.invokevirtual 124, 153, 1, 0) := by decide +kernel
theorem at_166_5 : j_at 166 5 = some (.ifCond .eq 40, 45, 0, 0) := by decide +kernel
theorem at_166_8 : j_at 166 8 = some (.iload_n 2, 0, 0, 0) := by decide +kernel
theorem at_166_9 : j_at 166 9 = some (.i2l, 0, 0, 0) := by decide +kernel
theorem at_166_10 : j_at 166 10 = some (.lconst 0, 0, 0, 0) := by decide +kernel
theorem at_166_11 : j_at 166 11 = some (.iconst 1, 0, 0, 1) := by decide +kernel
theorem at_166_12 : j_at 166 12 = some (.aload_n 0, 0, 0, 0) := by decide +kernel
theorem at_166_13 : j_at 166 13 = some (.invokevirtual 89, 151, 0, 0) := by decide +kernel
theorem at_166_16 : j_at 166 16 = some (.iadd, 0, 0, 0) := by decide +kernel
theorem at_166_17 : j_at 166 17 = some (.i2l, 0, 0, 0) := by decide +kernel
theorem at_166_18 : j_at 166 18 = some (.invokestatic 93, 150, 3, 0) := by decide +kernel
theorem at_166_21 : j_at 166 21 = some (.ifCond .eq 24, 45, 0, 0) := by decide +kernel
theorem at_166_24 : j_at 166 24 = some (.sipush 1000, 0, 0, 1000) := by decide +kernel
theorem at_166_27 : j_at 166 27 = some (.aload_n 0, 0, 0, 0) := by decide +kernel
theorem at_166_28 : j_at 166 28 = some (.getfield 11, 12, 0, 0) := by decide +kernel
theorem at_166_31 : j_at 166 31 = some (.bipush 12, 0, 0, 12) := by decide +kernel
theorem at_166_33 : j_at 166 33 = some (.bipush 7, 0, 0, 7) := by decide +kernel
theorem at_166_35 : j_at 166 35 = some (.iload_n 1, 0, 0, 0) := by decide +kernel
theorem at_166_36 : j_at 166 36 = some (.imul, 0, 0, 0) := by decide +kernel
theorem at_166_37 : j_at 166 37 = some (.iadd, 0, 0, 0) := by decide +kernel
theorem at_166_38 : j_at 166 38 = some (.iload_n 2, 0, 0, 0) := by decide +kernel
theorem at_166_39 : j_at 166 39 = some (.iadd, 0, 0, 0) := by decide +kernel
theorem at_166_40 : j_at 166 40 = some (.iaload, 0, 0, 0) := by decide +kernel
theorem at_166_41 : j_at 166 41 = some (.iadd, 0, 0, 0) := by decide +kernel
theorem at_166_42 : j_at 166 42 = some (.goto 4, 46, 0, 0) := by decide +kernel
theorem at_166_45 : j_at 166 45 = some (.iconst (-1), 0, 0, -1) := by decide +kernel
theorem at_166_46 : j_at 166 46 = some (.ireturn, 0, 0, 0) := by decide +kernel
theorem at_167_0 : j_at 167 0 = some (.iload_n 1, 0, 0, 0) := by decide +kernel
theorem at_167_1 : j_at 167 1 = some (.i2l, 0, 0, 0) := by decide +kernel
theorem at_167_2 : j_at 167 2 = some (.lconst 0, 0, 0, 0) := by decide +kernel
theorem at_167_3 : j_at 167 3 = some (.ldc2_w 131, 0, 0, 127) := by decide +kernel
theorem at_167_6 : j_at 167 6 = some (.invokestatic 93, 150, 3, 0) := by decide +kernel
theorem at_167_9 : j_at 167 9 = some (.ifCond .ne 6, 15, 0, 0) := by decide +kernel
theorem at_167_12 : j_at 167 12 = some (.bipush (-2), 0, 0, -2) := by decide +kernel
theorem at_167_14 : j_at 167 14 = some (.ireturn, 0, 0, 0) := by decide +kernel
theorem at_167_15 : j_at 167 15 = some (.aload_n 0, 0, 0, 0) := by decide +kernel
theorem at_167_16 : j_at 167 16 = some (.getfield 133, 12, 6, 0) := by decide +kernel
theorem at_167_19 : j_at 167 19 = some (.bipush 80, 0, 0, 80) := by decide +kernel
theorem at_167_21 : j_at 167 21 = some (.if_icmp .ne 6, 27, 0, 0) := by decide +kernel
theorem at_167_24 : j_at 167 24 = some (.bipush (-4), 0, 0, -4) := by decide +kernel
theorem at_167_26 : j_at 167 26 = some (.ireturn, 0, 0, 0) := by decide +kernel
theorem at_167_27 : j_at 167 27 = some (.aload_n 0, 0, 0, 0) := by decide +kernel
theorem at_167_28 : j_at 167 28 = some (.getfield 21, 12, 4, 0) := by decide +kernel
theorem at_167_31 : j_at 167 31 = some (.aload_n 0, 0, 0, 0) := by decide +kernel
theorem at_167_32 : j_at 167 32 = some (.getfield 133, 12, 6, 0) := by decide +kernel
theorem at_167_35 : j_at 167 35 = some (.iload_n 1, 0, 0, 0) := by decide +kernel
theorem at_167_36 : j_at 167 36 = some (.iastore, 0, 0, 0) := by decide +kernel
theorem at_167_37 : j_at 167 37 = some (.aload_n 0, 0, 0, 0) := by decide +kernel
theorem at_167_38 : j_at 167 38 = some (.dup, 0, 0, 0) := by decide +kernel
theorem at_167_39 : j_at 167 39 = some (.getfield 133, 12, 6, 0) := by decide +kernel
theorem at_167_42 : j_at 167 42 = some (.iconst 1, 0, 0, 1) := by decide +kernel
theorem at_167_43 : j_at 167 43 = some (.iadd, 0, 0, 0) := by decide +kernel
theorem at_167_44 : j_at 167 44 = some (.putfield 133, 12, 6, 0) := by decide +kernel
theorem at_167_47 : j_at 167 47 = some (.aload_n 0, 0, 0, 0) := by decide +kernel
theorem at_167_48 : j_at 167 48 = some (.getfield 133, 12, 6, 0) := by decide +kernel
theorem at_167_51 : j_at 167 51 = some (.ireturn, 0, 0, 0) := by decide +kernel
theorem at_168_0 : j_at 168 0 = some (.aload_n 0, 0, 0, 0) := by decide +kernel
theorem at_168_1 : j_at 168 1 = some (.getfield 137, 12, 7, 0) := by decide +kernel
theorem at_168_4 : j_at 168 4 = some (.aload_n 0, 0, 0, 0) := by decide +kernel
theorem at_168_5 : j_at 168 5 = some (.getfield 133, 12, 6, 0) := by decide +kernel
theorem at_168_8 : j_at 168 8 = some (.if_icmp .ge 15, 23, 0, 0) := by decide +kernel
theorem at_168_11 : j_at 168 11 = some (.aload_n 0, 0, 0, 0) := by decide +kernel
theorem at_168_12 : j_at 168 12 = some (.getfield 21, 12, 4, 0) := by decide +kernel
theorem at_168_15 : j_at 168 15 = some (.aload_n 0, 0, 0, 0) := by decide +kernel
theorem at_168_16 : j_at 168 16 = some (.getfield 137, 12, 7, 0) := by decide +kernel
theorem at_168_19 : j_at 168 19 = some (.iaload, 0, 0, 0) := by decide +kernel
theorem at_168_20 : j_at 168 20 = some (.goto 4, 24, 0, 0) := by decide +kernel
theorem at_168_23 : j_at 168 23 = some (.iconst (-1), 0, 0, -1) := by decide +kernel
theorem at_168_24 : j_at 168 24 = some (.ireturn, 0, 0, 0) := by decide +kernel
theorem at_169_0 : j_at 169 0 = some (.aload_n 0, 0, 0, 0) := by decide +kernel
theorem at_169_1 : j_at 169 1 = some (.invokevirtual 140, 168, 0, 0) := by decide +kernel
theorem at_169_4 : j_at 169 4 = some (.iload_n 1, 0, 0, 0) := by decide +kernel
theorem at_169_5 : j_at 169 5 = some (.if_icmp .eq 5, 10, 0, 0) := by decide +kernel
theorem at_169_8 : j_at 169 8 = some (.iconst 0, 0, 0, 0) := by decide +kernel
theorem at_169_9 : j_at 169 9 = some (.ireturn, 0, 0, 0) := by decide +kernel
theorem at_169_10 : j_at 169 10 = some (.aload_n 0, 0, 0, 0) := by decide +kernel
theorem at_169_11 : j_at 169 11 = some (.dup, 0, 0, 0) := by decide +kernel
theorem at_169_12 : j_at 169 12 = some (.getfield 137, 12, 7, 0) := by decide +kernel
theorem at_169_15 : j_at 169 15 = some (.iconst 1, 0, 0, 1) := by decide +kernel
theorem at_169_16 : j_at 169 16 = some (.iadd, 0, 0, 0) := by decide +kernel
theorem at_169_17 : j_at 169 17 = some (.putfield 137, 12, 7, 0) := by decide +kernel
theorem at_169_20 : j_at 169 20 = some (.iconst 1, 0, 0, 1) := by decide +kernel
theorem at_169_21 : j_at 169 21 = some (.ireturn, 0, 0, 0) := by decide +kernel
theorem at_170_0 : j_at 170 0 = some (.aload_n 0, 0, 0, 0) := by decide +kernel
theorem at_170_1 : j_at 170 1 = some (.invokevirtual 140, 168, 0, 0) := by decide +kernel
theorem at_170_4 : j_at 170 4 = some (.i2l, 0, 0, 0) := by decide +kernel
theorem at_170_5 : j_at 170 5 = some (.ldc2_w 143, 0, 0, 48) := by decide +kernel
theorem at_170_8 : j_at 170 8 = some (.ldc2_w 145, 0, 0, 57) := by decide +kernel
theorem at_170_11 : j_at 170 11 = some (.invokestatic 93, 150, 3, 0) := by decide +kernel
theorem at_170_14 : j_at 170 14 = some (.ireturn, 0, 0, 0) := by decide +kernel
theorem at_171_0 : j_at 171 0 = some (.iconst 1, 0, 0, 1) := by decide +kernel
theorem at_171_1 : j_at 171 1 = some (.istore_n 3, 0, 0, 0) := by decide +kernel
theorem at_171_2 : j_at 171 2 = some (.aload_n 0, 0, 0, 0) := by decide +kernel
theorem at_171_3 : j_at 171 3 = some (.invokevirtual 147, 170, 0, 0) := by decide +kernel
theorem at_171_6 : j_at 171 6 = some (.ifCond .eq 21, 27, 0, 0) := by decide +kernel
theorem at_171_9 : j_at 171 9 = some (.aload_n 0, 0, 0, 0) := by decide +kernel
theorem at_171_10 : j_at 171 10 = some (.invokevirtual 140, 168, 0, 0) := by decide +kernel
theorem at_171_13 : j_at 171 13 = some (.bipush 48, 0, 0, 48) := by decide +kernel
theorem at_171_15 : j_at 171 15 = some (.isub, 0, 0, 0) := by decide +kernel
theorem at_171_16 : j_at 171 16 = some (.istore_n 3, 0, 0, 0) := by decide +kernel
theorem at_171_17 : j_at 171 17 = some (.aload_n 0, 0, 0, 0) := by decide +kernel
theorem at_171_18 : j_at 171 18 = some (.dup, 0, 0, 0) := by decide +kernel
theorem at_171_19 : j_at 171 19 = some (.getfield 137, 12, 7, 0) := by decide +kernel
theorem at_171_22 : j_at 171 22 = some (.iconst 1, 0, 0, 1) := by decide +kernel
theorem at_171_23 : j_at 171 23 = some (.iadd, 0, 0, 0) := by decide +kernel
theorem at_171_24 : j_at 171 24 = some (.putfield 137, 12, 7, 0) := by decide +kernel
theorem at_171_27 : j_at 171 27 = some (.aload_n 0, 0, 0, 0) := by decide +kernel
theorem at_171_28 : j_at 171 28 = some (.invokevirtual 140, 168, 0, 0) := by decide +kernel
theorem at_171_31 : j_at 171 31 = some (.i2l, 0, 0, 0) := by decide +kernel
theorem at_171_32 : j_at 171 32 = some (.ldc2_w 151, 0, 0, 97) := by decide +kernel
theorem at_171_35 : j_at 171 35 = some (.bipush 97, 0, 0, 97) := by decide +kernel
theorem at_171_37 : j_at 171 37 = some (.aload_n 0, 0, 0, 0) := by decide +kernel
theorem at_171_38 : j_at 171 38 = some (.invokevirtual 89, 151, 0, 0) := by decide +kernel
theorem at_171_41 : j_at 171 41 = some (.iadd, 0, 0, 0) := by decide +kernel
theorem at_171_42 : j_at 171 42 = some (.iconst 1, 0, 0, 1) := by decide +kernel
theorem at_171_43 : j_at 171 43 = some (.isub, 0, 0, 0) := by decide +kernel
theorem at_171_44 : j_at 171 44 = some (.i2l, 0, 0, 0) := by decide +kernel
theorem at_171_45 : j_at 171 45 = some (.invokestatic 93, 150, 3, 0) := by decide +kernel
theorem at_171_48 : j_at 171 48 = some (.ifCond .ne 5, 53, 0, 0) := by decide +kernel
theorem at_171_51 : j_at 171 51 = some (.iconst 0, 0, 0, 0) := by decide +kernel
theorem at_171_52 : j_at 171 52 = some (.ireturn, 0, 0, 0) := by decide +kernel
theorem at_171_53 : j_at 171 53 = some (.iload_n 1, 0, 0, 0) := by decide +kernel
theorem at_171_54 : j_at 171 54 = some (.iconst 2, 0, 0, 2) := by decide +kernel
theorem at_171_55 : j_at 171 55 = some (.iadd, 0, 0, 0) := by decide +kernel
theorem at_171_56 : j_at 171 56 = some (.aload_n 0, 0, 0, 0) := by decide +kernel
theorem at_171_57 : j_at 171 57 = some (.invokevirtual 140, 168, 0, 0) := by decide +kernel
theorem at_171_60 : j_at 171 60 = some (.iadd, 0, 0, 0) := by decide +kernel
theorem at_171_61 : j_at 171 61 = some (.bipush 97, 0, 0, 97) := by decide +kernel
theorem at_171_63 : j_at 171 63 = some (.isub, 0, 0, 0) := by decide +kernel
theorem at_171_64 : j_at 171 64 = some (.istore 4, 0, 0, 0) := by decide +kernel
theorem at_171_66 : j_at 171 66 = some (.aload_n 0, 0, 0, 0) := by decide +kernel
theorem at_171_67 : j_at 171 67 = some (.getfield 24, 12, 5, 0) := by decide +kernel
theorem at_171_70 : j_at 171 70 = some (.iload 4, 0, 0, 0) := by decide +kernel
theorem at_171_72 : j_at 171 72 = some (.dup2, 0, 0, 0) := by decide +kernel
theorem at_171_73 : j_at 171 73 = some (.iaload, 0, 0, 0) := by decide +kernel
theorem at_171_74 : j_at 171 74 = some (.iload_n 2, 0, 0, 0) := by decide +kernel
theorem at_171_75 : j_at 171 75 = some (.iload_n 3, 0, 0, 0) := by decide +kernel
theorem at_171_76 : j_at 171 76 = some (.imul, 0, 0, 0) := by decide +kernel
theorem at_171_77 : j_at 171 77 = some (.iadd, 0, 0, 0) := by decide +kernel
theorem at_171_78 : j_at 171 78 = some (.iastore, 0, 0, 0) := by decide +kernel
theorem at_171_79 : j_at 171 79 = some (.aload_n 0, 0, 0, 0) := by decide +kernel
theorem at_171_80 : j_at 171 80 = some (.getfield 24, 12, 5, 0) := by decide +kernel
theorem at_171_83 : j_at 171 83 = some (.iload 4, 0, 0, 0) := by decide +kernel
theorem at_171_85 : j_at 171 85 = some (.iaload, 0, 0, 0) := by decide +kernel
theorem at_171_86 : j_at 171 86 = some (.i2l, 0, 0, 0) := by decide +kernel
theorem at_171_87 : j_at 171 87 = some (.ldc2_w 127, 0, 0, -9) := by decide +kernel
theorem at_171_90 : j_at 171 90 = some (.ldc2_w 129, 0, 0, 9) := by decide +kernel
theorem at_171_93 : j_at 171 93 = some (.invokestatic 93, 150, 3, 0) := by decide +kernel
theorem at_171_96 : j_at 171 96 = some (.ifCond .ne 5, 101, 0, 0) := by decide +kernel
theorem at_171_99 : j_at 171 99 = some (.iconst 0, 0, 0, 0) := by decide +kernel
theorem at_171_100 : j_at 171 100 = some (.ireturn, 0, 0, 0) := by decide +kernel
theorem at_171_101 : j_at 171 101 = some (.aload_n 0, 0, 0, 0) := by decide +kernel
theorem at_171_102 : j_at 171 102 = some (.dup, 0, 0, 0) := by decide +kernel
theorem at_171_103 : j_at 171 103 = some (.getfield 137, 12, 7, 0) := by decide +kernel
theorem at_171_106 : j_at 171 106 = some (.iconst 1, 0, 0, 1) := by decide +kernel
theorem at_171_107 : j_at 171 107 = some (.iadd, 0, 0, 0) := by decide +kernel
theorem at_171_108 : j_at 171 108 = some (.putfield 137, 12, 7, 0) := by decide +kernel
theorem at_171_111 : j_at 171 111 = some (.iconst 1, 0, 0, 1) := by decide +kernel
theorem at_171_112 : j_at 171 112 = some (.ireturn, 0, 0, 0) := by decide +kernel
theorem at_172_0 : j_at 172 0 = some (.aload_n 0, 0, 0, 0) := by decide +kernel
theorem at_172_1 : j_at 172 1 = some (.iload_n 1, 0, 0, 0) := by decide +kernel
theorem at_172_2 : j_at 172 2 = some (.aload_n 0, 0, 0, 0) := by decide +kernel
theorem at_172_3 : j_at 172 3 = some (.bipush 45, 0, 0, 45) := by decide +kernel
theorem at_172_5 : j_at 172 5 = some (.invokevirtual 153, 169, 1, 0) := by decide +kernel
theorem at_172_8 : j_at 172 8 = some (.ifCond .eq 7, 15, 0, 0) := by decide +kernel
theorem at_172_11 : j_at 172 11 = some (.iconst (-1), 0, 0, -1) := by decide +kernel
theorem at_172_12 : j_at 172 12 = some (.goto 4, 16, 0, 0) := by decide +kernel
theorem at_172_15 : j_at 172 15 = some (.iconst 1, 0, 0, 1) := by decide +kernel
theorem at_172_16 : j_at 172 16 = some (.invokevirtual 156, 171, 2, 0) := by decide +kernel
theorem at_172_19 : j_at 172 19 = some (.ifCond .ne 5, 24, 0, 0) := by decide +kernel
theorem at_172_22 : j_at 172 22 = some (.iconst 0, 0, 0, 0) := by decide +kernel
theorem at_172_23 : j_at 172 23 = some (.ireturn, 0, 0, 0) := by decide +kernel
theorem at_172_24 : j_at 172 24 = some (.aload_n 0, 0, 0, 0) := by decide +kernel
theorem at_172_25 : j_at 172 25 = some (.invokevirtual 140, 168, 0, 0) := by decide +kernel
theorem at_172_28 : j_at 172 28 = some (.bipush 43, 0, 0, 43) := by decide +kernel
theorem at_172_30 : j_at 172 30 = some (.if_icmp .eq 12, 42, 0, 0) := by decide +kernel
theorem at_172_33 : j_at 172 33 = some (.aload_n 0, 0, 0, 0) := by decide +kernel
theorem at_172_34 : j_at 172 34 = some (.invokevirtual 140, 168, 0, 0) := by decide +kernel
theorem at_172_37 : j_at 172 37 = some (.bipush 45, 0, 0, 45) := by decide +kernel
theorem at_172_39 : j_at 172 39 = some (.if_icmp .ne 42, 81, 0, 0) := by decide +kernel
theorem at_172_42 : j_at 172 42 = some (.aload_n 0, 0, 0, 0) := by decide +kernel
theorem at_172_43 : j_at 172 43 = some (.invokevirtual 140, 168, 0, 0) := by decide +kernel
theorem at_172_46 : j_at 172 46 = some (.bipush 43, 0, 0, 43) := by decide +kernel
theorem at_172_48 : j_at 172 48 = some (.if_icmp .ne 7, 55, 0, 0) := by decide +kernel
theorem at_172_51 : j_at 172 51 = some (.iconst 1, 0, 0, 1) := by decide +kernel
theorem at_172_52 : j_at 172 52 = some (.goto 4, 56, 0, 0) := by decide +kernel
theorem at_172_55 : j_at 172 55 = some (.iconst (-1), 0, 0, -1) := by decide +kernel
theorem at_172_56 : j_at 172 56 = some (.istore_n 2, 0, 0, 0) := by decide +kernel
theorem at_172_57 : j_at 172 57 = some (.aload_n 0, 0, 0, 0) := by decide +kernel
theorem at_172_58 : j_at 172 58 = some (.dup, 0, 0, 0) := by decide +kernel
theorem at_172_59 : j_at 172 59 = some (.getfield 137, 12, 7, 0) := by decide +kernel
theorem at_172_62 : j_at 172 62 = some (.iconst 1, 0, 0, 1) := by decide +kernel
theorem at_172_63 : j_at 172 63 = some (.iadd, 0, 0, 0) := by decide +kernel
theorem at_172_64 : j_at 172 64 = some (.putfield 137, 12, 7, 0) := by decide +kernel
theorem at_172_67 : j_at 172 67 = some (.aload_n 0, 0, 0, 0) := by decide +kernel
theorem at_172_68 : j_at 172 68 = some (.iload_n 1, 0, 0, 0) := by decide +kernel
theorem at_172_69 : j_at 172 69 = some (.iload_n 2, 0, 0, 0) := by decide +kernel
theorem at_172_70 : j_at 172 70 = some (.invokevirtual 156, 171, 2, 0) := by decide +kernel
theorem at_172_73 : j_at 172 73 = some (.ifCond .ne 5, 78, 0, 0) := by decide +kernel
theorem at_172_76 : j_at 172 76 = some (.iconst 0, 0, 0, 0) := by decide +kernel
theorem at_172_77 : j_at 172 77 = some (.ireturn, 0, 0, 0) := by decide +kernel
theorem at_172_78 : j_at 172 78 = some (.goto (-54), 24, 0, 0) := by decide +kernel
theorem at_172_81 : j_at 172 81 = some (.iconst 1, 0, 0, 1) := by decide +kernel
theorem at_172_82 : j_at 172 82 = some (.ireturn, 0, 0, 0) := by decide +kernel
theorem at_173_0 : j_at 173 0 = some (.aload_n 0, 0, 0, 0) := by decide +kernel
theorem at_173_1 : j_at 173 1 = some (.bipush 45, 0, 0, 45) := by decide +kernel
theorem at_173_3 : j_at 173 3 = some (.invokevirtual 153, 169, 1, 0) := by decide +kernel
theorem at_173_6 : j_at 173 6 = some (.ifCond .eq 7, 13, 0, 0) := by decide +kernel
theorem at_173_9 : j_at 173 9 = some (.iconst (-1), 0, 0, -1) := by decide +kernel
theorem at_173_10 : j_at 173 10 = some (.goto 4, 14, 0, 0) := by decide +kernel
theorem at_173_13 : j_at 173 13 = some (.iconst 1, 0, 0, 1) := by decide +kernel
theorem at_173_14 : j_at 173 14 = some (.istore_n 2, 0, 0, 0) := by decide +kernel
theorem at_173_15 : j_at 173 15 = some (.aload_n 0, 0, 0, 0) := by decide +kernel
theorem at_173_16 : j_at 173 16 = some (.invokevirtual 147, 170, 0, 0) := by decide +kernel
theorem at_173_19 : j_at 173 19 = some (.ifCond .ne 5, 24, 0, 0) := by decide +kernel
theorem at_173_22 : j_at 173 22 = some (.iconst 0, 0, 0, 0) := by decide +kernel
theorem at_173_23 : j_at 173 23 = some (.ireturn, 0, 0, 0) := by decide +kernel
theorem at_173_24 : j_at 173 24 = some (.iconst 0, 0, 0, 0) := by decide +kernel
theorem at_173_25 : j_at 173 25 = some (.istore_n 3, 0, 0, 0) := by decide +kernel
theorem at_173_26 : j_at 173 26 = some (.iconst 0, 0, 0, 0) := by decide +kernel
theorem at_173_27 : j_at 173 27 = some (.istore 4, 0, 0, 0) := by decide +kernel
theorem at_173_29 : j_at 173 29 = some (.iload 4, 0, 0, 0) := by decide +kernel
theorem at_173_31 : j_at 173 31 = some (.iconst 3, 0, 0, 3) := by decide +kernel
theorem at_173_32 : j_at 173 32 = some (.if_icmp .ge 51, 83, 0, 0) := by decide +kernel
theorem at_173_35 : j_at 173 35 = some (.aload_n 0, 0, 0, 0) := by decide +kernel
theorem at_173_36 : j_at 173 36 = some (.invokevirtual 147, 170, 0, 0) := by decide +kernel
theorem at_173_39 : j_at 173 39 = some (.ifCond .eq 44, 83, 0, 0) := by decide +kernel
theorem at_173_42 : j_at 173 42 = some (.bipush 10, 0, 0, 10) := by decide +kernel
theorem at_173_44 : j_at 173 44 = some (.iload_n 3, 0, 0, 0) := by decide +kernel
theorem at_173_45 : j_at 173 45 = some (.imul, 0, 0, 0) := by decide +kernel
theorem at_173_46 : j_at 173 46 = some (.aload_n 0, 0, 0, 0) := by decide +kernel
theorem at_173_47 : j_at 173 47 = some (.invokevirtual 140, 168, 0, 0) := by decide +kernel
theorem at_173_50 : j_at 173 50 = some (.iadd, 0, 0, 0) := by decide +kernel
theorem at_173_51 : j_at 173 51 = some (.bipush 48, 0, 0, 48) := by decide +kernel
theorem at_173_53 : j_at 173 53 = some (.isub, 0, 0, 0) := by decide +kernel
theorem at_173_54 : j_at 173 54 = some (.istore_n 3, 0, 0, 0) := by decide +kernel
theorem at_173_55 : j_at 173 55 = some (.iload_n 2, 0, 0, 0) := by decide +kernel
theorem at_173_56 : j_at 173 56 = some (.ifCond .ge 11, 67, 0, 0) := by decide +kernel
theorem at_173_59 : j_at 173 59 = some (.iload_n 3, 0, 0, 0) := by decide +kernel
theorem at_173_60 : j_at 173 60 = some (.bipush 99, 0, 0, 99) := by decide +kernel
theorem at_173_62 : j_at 173 62 = some (.if_icmp .le 5, 67, 0, 0) := by decide +kernel
theorem at_173_65 : j_at 173 65 = some (.iconst 0, 0, 0, 0) := by decide +kernel
theorem at_173_66 : j_at 173 66 = some (.ireturn, 0, 0, 0) := by decide +kernel
theorem at_173_67 : j_at 173 67 = some (.aload_n 0, 0, 0, 0) := by decide +kernel
theorem at_173_68 : j_at 173 68 = some (.dup, 0, 0, 0) := by decide +kernel
theorem at_173_69 : j_at 173 69 = some (.getfield 137, 12, 7, 0) := by decide +kernel
theorem at_173_72 : j_at 173 72 = some (.iconst 1, 0, 0, 1) := by decide +kernel
theorem at_173_73 : j_at 173 73 = some (.iadd, 0, 0, 0) := by decide +kernel
theorem at_173_74 : j_at 173 74 = some (.putfield 137, 12, 7, 0) := by decide +kernel
theorem at_173_77 : j_at 173 77 = some (.iinc 4 1, 0, 0, 0) := by decide +kernel
theorem at_173_80 : j_at 173 80 = some (.goto (-51), 29, 0, 0) := by decide +kernel
theorem at_173_83 : j_at 173 83 = some (.aload_n 0, 0, 0, 0) := by decide +kernel
theorem at_173_84 : j_at 173 84 = some (.getfield 24, 12, 5, 0) := by decide +kernel
theorem at_173_87 : j_at 173 87 = some (.iload_n 1, 0, 0, 0) := by decide +kernel
theorem at_173_88 : j_at 173 88 = some (.iconst 1, 0, 0, 1) := by decide +kernel
theorem at_173_89 : j_at 173 89 = some (.iadd, 0, 0, 0) := by decide +kernel
theorem at_173_90 : j_at 173 90 = some (.iload_n 2, 0, 0, 0) := by decide +kernel
theorem at_173_91 : j_at 173 91 = some (.iload_n 3, 0, 0, 0) := by decide +kernel
theorem at_173_92 : j_at 173 92 = some (.imul, 0, 0, 0) := by decide +kernel
theorem at_173_93 : j_at 173 93 = some (.iastore, 0, 0, 0) := by decide +kernel
theorem at_173_94 : j_at 173 94 = some (.iconst 1, 0, 0, 1) := by decide +kernel
theorem at_173_95 : j_at 173 95 = some (.ireturn, 0, 0, 0) := by decide +kernel
theorem at_174_0 : j_at 174 0 = some (.iconst 0, 0, 0, 0) := by decide +kernel
theorem at_174_1 : j_at 174 1 = some (.istore_n 2, 0, 0, 0) := by decide +kernel
theorem at_174_2 : j_at 174 2 = some (.iload_n 2, 0, 0, 0) := by decide +kernel
theorem at_174_3 : j_at 174 3 = some (.bipush 7, 0, 0, 7) := by decide +kernel
theorem at_174_5 : j_at 174 5 = some (.if_icmp .ge 18, 23, 0, 0) := by decide +kernel
theorem at_174_8 : j_at 174 8 = some (.aload_n 0, 0, 0, 0) := by decide +kernel
theorem at_174_9 : j_at 174 9 = some (.getfield 24, 12, 5, 0) := by decide +kernel
theorem at_174_12 : j_at 174 12 = some (.iload_n 1, 0, 0, 0) := by decide +kernel
theorem at_174_13 : j_at 174 13 = some (.iload_n 2, 0, 0, 0) := by decide +kernel
theorem at_174_14 : j_at 174 14 = some (.iadd, 0, 0, 0) := by decide +kernel
theorem at_174_15 : j_at 174 15 = some (.iconst 0, 0, 0, 0) := by decide +kernel
theorem at_174_16 : j_at 174 16 = some (.iastore, 0, 0, 0) := by decide +kernel
theorem at_174_17 : j_at 174 17 = some (.iinc 2 1, 0, 0, 0) := by decide +kernel
theorem at_174_20 : j_at 174 20 = some (.goto (-18), 2, 0, 0) := by decide +kernel
theorem at_174_23 : j_at 174 23 = some (.aload_n 0, 0, 0, 0) := by decide +kernel
theorem at_174_24 : j_at 174 24 = some (.iload_n 1, 0, 0, 0) := by decide +kernel
theorem at_174_25 : j_at 174 25 = some (.invokevirtual 160, 172, 1, 0) := by decide +kernel
theorem at_174_28 : j_at 174 28 = some (.ifCond .ne 5, 33, 0, 0) := by decide +kernel
theorem at_174_31 : j_at 174 31 = some (.iconst 0, 0, 0, 0) := by decide +kernel
theorem at_174_32 : j_at 174 32 = some (.ireturn, 0, 0, 0) := by decide +kernel
theorem at_174_33 : j_at 174 33 = some (.aload_n 0, 0, 0, 0) := by decide +kernel
theorem at_174_34 : j_at 174 34 = some (.invokevirtual 140, 168, 0, 0) := by decide +kernel
theorem at_174_37 : j_at 174 37 = some (.bipush 62, 0, 0, 62) := by decide +kernel
theorem at_174_39 : j_at 174 39 = some (.if_icmp .eq 14, 53, 0, 0) := by decide +kernel
theorem at_174_42 : j_at 174 42 = some (.aload_n 0, 0, 0, 0) := by decide +kernel
theorem at_174_43 : j_at 174 43 = some (.invokevirtual 140, 168, 0, 0) := by decide +kernel
theorem at_174_46 : j_at 174 46 = some (.bipush 60, 0, 0, 60) := by decide +kernel
theorem at_174_48 : j_at 174 48 = some (.if_icmp .eq 5, 53, 0, 0) := by decide +kernel
theorem at_174_51 : j_at 174 51 = some (.iconst 0, 0, 0, 0) := by decide +kernel
theorem at_174_52 : j_at 174 52 = some (.ireturn, 0, 0, 0) := by decide +kernel
theorem at_174_53 : j_at 174 53 = some (.aload_n 0, 0, 0, 0) := by decide +kernel
theorem at_174_54 : j_at 174 54 = some (.getfield 24, 12, 5, 0) := by decide +kernel
theorem at_174_57 : j_at 174 57 = some (.iload_n 1, 0, 0, 0) := by decide +kernel
theorem at_174_58 : j_at 174 58 = some (.aload_n 0, 0, 0, 0) := by decide +kernel
theorem at_174_59 : j_at 174 59 = some (.invokevirtual 140, 168, 0, 0) := by decide +kernel
theorem at_174_62 : j_at 174 62 = some (.bipush 62, 0, 0, 62) := by decide +kernel
theorem at_174_64 : j_at 174 64 = some (.if_icmp .ne 7, 71, 0, 0) := by decide +kernel
theorem at_174_67 : j_at 174 67 = some (.iconst 0, 0, 0, 0) := by decide +kernel
theorem at_174_68 : j_at 174 68 = some (.goto 4, 72, 0, 0) := by decide +kernel
theorem at_174_71 : j_at 174 71 = some (.iconst 1, 0, 0, 1) := by decide +kernel
theorem at_174_72 : j_at 174 72 = some (.iastore, 0, 0, 0) := by decide +kernel
theorem at_174_73 : j_at 174 73 = some (.aload_n 0, 0, 0, 0) := by decide +kernel
theorem at_174_74 : j_at 174 74 = some (.dup, 0, 0, 0) := by decide +kernel
theorem at_174_75 : j_at 174 75 = some (.getfield 137, 12, 7, 0) := by decide +kernel
theorem at_174_78 : j_at 174 78 = some (.iconst 1, 0, 0, 1) := by decide +kernel
theorem at_174_79 : j_at 174 79 = some (.iadd, 0, 0, 0) := by decide +kernel
theorem at_174_80 : j_at 174 80 = some (.putfield 137, 12, 7, 0) := by decide +kernel
theorem at_174_83 : j_at 174 83 = some (.aload_n 0, 0, 0, 0) := by decide +kernel
theorem at_174_84 : j_at 174 84 = some (.iload_n 1, 0, 0, 0) := by decide +kernel
theorem at_174_85 : j_at 174 85 = some (.invokevirtual 163, 173, 1, 0) := by decide +kernel
theorem at_174_88 : j_at 174 88 = some (.ireturn, 0, 0, 0) := by decide +kernel
theorem at_175_0 : j_at 175 0 = some (.aload_n 0, 0, 0, 0) := by decide +kernel
theorem at_175_1 : j_at 175 1 = some (.iconst 0, 0, 0, 0) := by decide +kernel
theorem at_175_2 : j_at 175 2 = some (.putfield 137, 12, 7, 0) := by decide +kernel
theorem at_175_5 : j_at 175 5 = some (.iconst 0, 0, 0, 0) := by decide +kernel
theorem at_175_6 : j_at 175 6 = some (.istore_n 1, 0, 0, 0) := by decide +kernel
theorem at_175_7 : j_at 175 7 = some (.iconst 1, 0, 0, 1) := by decide +kernel
theorem at_175_8 : j_at 175 8 = some (.istore_n 2, 0, 0, 0) := by decide +kernel
theorem at_175_9 : j_at 175 9 = some (.iload_n 2, 0, 0, 0) := by decide +kernel
theorem at_175_10 : j_at 175 10 = some (.ifCond .eq 47, 57, 0, 0) := by decide +kernel
theorem at_175_13 : j_at 175 13 = some (.iload_n 1, 0, 0, 0) := by decide +kernel
theorem at_175_14 : j_at 175 14 = some (.iconst 4, 0, 0, 4) := by decide +kernel
theorem at_175_15 : j_at 175 15 = some (.if_icmp .ge 42, 57, 0, 0) := by decide +kernel
theorem at_175_18 : j_at 175 18 = some (.aload_n 0, 0, 0, 0) := by decide +kernel
theorem at_175_19 : j_at 175 19 = some (.bipush 7, 0, 0, 7) := by decide +kernel
theorem at_175_21 : j_at 175 21 = some (.iload_n 1, 0, 0, 0) := by decide +kernel
theorem at_175_22 : j_at 175 22 = some (.imul, 0, 0, 0) := by decide +kernel
theorem at_175_23 : j_at 175 23 = some (.invokevirtual 166, 174, 1, 0) := by decide +kernel
theorem at_175_26 : j_at 175 26 = some (.ifCond .ne 5, 31, 0, 0) := by decide +kernel
theorem at_175_29 : j_at 175 29 = some (.iconst (-1), 0, 0, -1) := by decide +kernel
theorem at_175_30 : j_at 175 30 = some (.ireturn, 0, 0, 0) := by decide +kernel
theorem at_175_31 : j_at 175 31 = some (.iinc 1 1, 0, 0, 0) := by decide +kernel
theorem at_175_34 : j_at 175 34 = some (.iload_n 1, 0, 0, 0) := by decide +kernel
theorem at_175_35 : j_at 175 35 = some (.iconst 4, 0, 0, 4) := by decide +kernel
theorem at_175_36 : j_at 175 36 = some (.if_icmp .ge 16, 52, 0, 0) := by decide +kernel
theorem at_175_39 : j_at 175 39 = some (.aload_n 0, 0, 0, 0) := by decide +kernel
theorem at_175_40 : j_at 175 40 = some (.bipush 59, 0, 0, 59) := by decide +kernel
theorem at_175_42 : j_at 175 42 = some (.invokevirtual 153, 169, 1, 0) := by decide +kernel
theorem at_175_45 : j_at 175 45 = some (.ifCond .eq 7, 52, 0, 0) := by decide +kernel
theorem at_175_48 : j_at 175 48 = some (.iconst 1, 0, 0, 1) := by decide +kernel
theorem at_175_49 : j_at 175 49 = some (.goto 4, 53, 0, 0) := by decide +kernel
theorem at_175_52 : j_at 175 52 = some (.iconst 0, 0, 0, 0) := by decide +kernel
theorem at_175_53 : j_at 175 53 = some (.istore_n 2, 0, 0, 0) := by decide +kernel
theorem at_175_54 : j_at 175 54 = some (.goto (-45), 9, 0, 0) := by decide +kernel
theorem at_175_57 : j_at 175 57 = some (.aload_n 0, 0, 0, 0) := by decide +kernel
theorem at_175_58 : j_at 175 58 = some (.getfield 137, 12, 7, 0) := by decide +kernel
theorem at_175_61 : j_at 175 61 = some (.aload_n 0, 0, 0, 0) := by decide +kernel
theorem at_175_62 : j_at 175 62 = some (.getfield 133, 12, 6, 0) := by decide +kernel
theorem at_175_65 : j_at 175 65 = some (.if_icmp .ne 7, 72, 0, 0) := by decide +kernel
theorem at_175_68 : j_at 175 68 = some (.iload_n 1, 0, 0, 0) := by decide +kernel
theorem at_175_69 : j_at 175 69 = some (.goto 4, 73, 0, 0) := by decide +kernel
theorem at_175_72 : j_at 175 72 = some (.iconst (-1), 0, 0, -1) := by decide +kernel
theorem at_175_73 : j_at 175 73 = some (.ireturn, 0, 0, 0) := by decide +kernel
theorem at_176_0 : j_at 176 0 = some (.aload_n 0, 0, 0, 0) := by decide +kernel
theorem at_176_1 : j_at 176 1 = some (.invokevirtual 169, 175, 0, 0) := by decide +kernel
theorem at_176_4 : j_at 176 4 = some (.istore_n 1, 0, 0, 0) := by decide +kernel
theorem at_176_5 : j_at 176 5 = some (.aload_n 0, 0, 0, 0) := by decide +kernel
theorem at_176_6 : j_at 176 6 = some (.iconst 0, 0, 0, 0) := by decide +kernel
theorem at_176_7 : j_at 176 7 = some (.putfield 133, 12, 6, 0) := by decide +kernel
theorem at_176_10 : j_at 176 10 = some (.iload_n 1, 0, 0, 0) := by decide +kernel
theorem at_176_11 : j_at 176 11 = some (.ifCond .ge 11, 22, 0, 0) := by decide +kernel
theorem at_176_14 : j_at 176 14 = some (.bipush (-10), 0, 0, -10) := by decide +kernel
theorem at_176_16 : j_at 176 16 = some (.aload_n 0, 0, 0, 0) := by decide +kernel
theorem at_176_17 : j_at 176 17 = some (.getfield 137, 12, 7, 0) := by decide +kernel
theorem at_176_20 : j_at 176 20 = some (.isub, 0, 0, 0) := by decide +kernel
theorem at_176_21 : j_at 176 21 = some (.ireturn, 0, 0, 0) := by decide +kernel
theorem at_176_22 : j_at 176 22 = some (.aload_n 0, 0, 0, 0) := by decide +kernel
theorem at_176_23 : j_at 176 23 = some (.getfield 11, 12, 0, 0) := by decide +kernel
theorem at_176_26 : j_at 176 26 = some (.iconst 1, 0, 0, 1) := by decide +kernel
theorem at_176_27 : j_at 176 27 = some (.iaload, 0, 0, 0) := by decide +kernel
theorem at_176_28 : j_at 176 28 = some (.iload_n 1, 0, 0, 0) := by decide +kernel
theorem at_176_29 : j_at 176 29 = some (.iadd, 0, 0, 0) := by decide +kernel
theorem at_176_30 : j_at 176 30 = some (.bipush 8, 0, 0, 8) := by decide +kernel
theorem at_176_32 : j_at 176 32 = some (.if_icmp .le 6, 38, 0, 0) := by decide +kernel
theorem at_176_35 : j_at 176 35 = some (.bipush (-4), 0, 0, -4) := by decide +kernel
theorem at_176_37 : j_at 176 37 = some (.ireturn, 0, 0, 0) := by decide +kernel
theorem at_176_38 : j_at 176 38 = some (.iconst 0, 0, 0, 0) := by decide +kernel
theorem at_176_39 : j_at 176 39 = some (.istore_n 2, 0, 0, 0) := by decide +kernel
theorem at_176_40 : j_at 176 40 = some (.iload_n 2, 0, 0, 0) := by decide +kernel
theorem at_176_41 : j_at 176 41 = some (.iload_n 1, 0, 0, 0) := by decide +kernel
theorem at_176_42 : j_at 176 42 = some (.if_icmp .ge 82, 124, 0, 0) := by decide +kernel
theorem at_176_45 : j_at 176 45 = some (.aload_n 0, 0, 0, 0) := by decide +kernel
theorem at_176_46 : j_at 176 46 = some (.aload_n 0, 0, 0, 0) := by decide +kernel
theorem at_176_47 : j_at 176 47 = some (.getfield 24, 12, 5, 0) := by decide +kernel
theorem at_176_50 : j_at 176 50 = some (.bipush 7, 0, 0, 7) := by decide +kernel
theorem at_176_52 : j_at 176 52 = some (.iload_n 2, 0, 0, 0) := by decide +kernel
theorem at_176_53 : j_at 176 53 = some (.imul, 0, 0, 0) := by decide +kernel
theorem at_176_54 : j_at 176 54 = some (.iaload, 0, 0, 0) := by decide +kernel
theorem at_176_55 : j_at 176 55 = some (.aload_n 0, 0, 0, 0) := by decide +kernel
theorem at_176_56 : j_at 176 56 = some (.getfield 24, 12, 5, 0) := by decide +kernel
theorem at_176_59 : j_at 176 59 = some (.bipush 7, 0, 0, 7) := by decide +kernel
theorem at_176_61 : j_at 176 61 = some (.iload_n 2, 0, 0, 0) := by decide +kernel
theorem at_176_62 : j_at 176 62 = some (.imul, 0, 0, 0) := by decide +kernel
theorem at_176_63 : j_at 176 63 = some (.iconst 1, 0, 0, 1) := by decide +kernel
theorem at_176_64 : j_at 176 64 = some (.iadd, 0, 0, 0) := by decide +kernel
theorem at_176_65 : j_at 176 65 = some (.iaload, 0, 0, 0) := by decide +kernel
theorem at_176_66 : j_at 176 66 = some (.invokevirtual 120, 161, 2, 0) := by decide +kernel
theorem at_176_69 : j_at 176 69 = some (.iconst 0, 0, 0, 0) := by decide +kernel
theorem at_176_70 : j_at 176 70 = some (.istore_n 3, 0, 0, 0) := by decide +kernel
theorem at_176_71 : j_at 176 71 = some (.iload_n 3, 0, 0, 0) := by decide +kernel
theorem at_176_72 : j_at 176 72 = some (.iconst 5, 0, 0, 5) := by decide +kernel
theorem at_176_73 : j_at 176 73 = some (.if_icmp .ge 45, 118, 0, 0) := by decide +kernel
theorem at_176_76 : j_at 176 76 = some (.aload_n 0, 0, 0, 0) := by decide +kernel
theorem at_176_77 : j_at 176 77 = some (.getfield 11, 12, 0, 0) := by decide +kernel
theorem at_176_80 : j_at 176 80 = some (.bipush 12, 0, 0, 12) := by decide +kernel
theorem at_176_82 : j_at 176 82 = some (.bipush 7, 0, 0, 7) := by decide +kernel
theorem at_176_84 : j_at 176 84 = some (.aload_n 0, 0, 0, 0) := by decide +kernel
theorem at_176_85 : j_at 176 85 = some (.getfield 11, 12, 0, 0) := by decide +kernel
theorem at_176_88 : j_at 176 88 = some (.iconst 1, 0, 0, 1) := by decide +kernel
theorem at_176_89 : j_at 176 89 = some (.iaload, 0, 0, 0) := by decide +kernel
theorem at_176_90 : j_at 176 90 = some (.iconst 1, 0, 0, 1) := by decide +kernel
theorem at_176_91 : j_at 176 91 = some (.isub, 0, 0, 0) := by decide +kernel
theorem at_176_92 : j_at 176 92 = some (.imul, 0, 0, 0) := by decide +kernel
theorem at_176_93 : j_at 176 93 = some (.iadd, 0, 0, 0) := by decide +kernel
theorem at_176_94 : j_at 176 94 = some (.iconst 2, 0, 0, 2) := by decide +kernel
theorem at_176_95 : j_at 176 95 = some (.iadd, 0, 0, 0) := by decide +kernel
theorem at_176_96 : j_at 176 96 = some (.iload_n 3, 0, 0, 0) := by decide +kernel
theorem at_176_97 : j_at 176 97 = some (.iadd, 0, 0, 0) := by decide +kernel
theorem at_176_98 : j_at 176 98 = some (.aload_n 0, 0, 0, 0) := by decide +kernel
theorem at_176_99 : j_at 176 99 = some (.getfield 24, 12, 5, 0) := by decide +kernel
theorem at_176_102 : j_at 176 102 = some (.bipush 7, 0, 0, 7) := by decide +kernel
theorem at_176_104 : j_at 176 104 = some (.iload_n 2, 0, 0, 0) := by decide +kernel
theorem at_176_105 : j_at 176 105 = some (.imul, 0, 0, 0) := by decide +kernel
theorem at_176_106 : j_at 176 106 = some (.iconst 2, 0, 0, 2) := by decide +kernel
theorem at_176_107 : j_at 176 107 = some (.iadd, 0, 0, 0) := by decide +kernel
theorem at_176_108 : j_at 176 108 = some (.iload_n 3, 0, 0, 0) := by decide +kernel
theorem at_176_109 : j_at 176 109 = some (.iadd, 0, 0, 0) := by decide +kernel
theorem at_176_110 : j_at 176 110 = some (.iaload, 0, 0, 0) := by decide +kernel
theorem at_176_111 : j_at 176 111 = some (.iastore, 0, 0, 0) := by decide +kernel
theorem at_176_112 : j_at 176 112 = some (.iinc 3 1, 0, 0, 0) := by decide +kernel
theorem at_176_115 : j_at 176 115 = some (.goto (-44), 71, 0, 0) := by decide +kernel
theorem at_176_118 : j_at 176 118 = some (.iinc 2 1, 0, 0, 0) := by decide +kernel
theorem at_176_121 : j_at 176 121 = some (.goto (-81), 40, 0, 0) := by decide +kernel
theorem at_176_124 : j_at 176 124 = some (.iload_n 1, 0, 0, 0) := by decide +kernel
theorem at_176_125 : j_at 176 125 = some (.ireturn, 0, 0, 0) := by decide +kernel
theorem at_177_0 : j_at 177 0 = some (.iconst 0, 0, 0, 0) := by decide +kernel
theorem at_177_1 : j_at 177 1 = some (.istore 5, 0, 0, 0) := by decide +kernel
theorem at_177_3 : j_at 177 3 = some (.iload 5, 0, 0, 0) := by decide +kernel
theorem at_177_5 : j_at 177 5 = some (.aload_n 1, 0, 0, 0) := by decide +kernel
theorem at_177_6 : j_at 177 6 = some (.getfield 172, 11, 14, 0) := by decide +kernel
theorem at_177_9 : j_at 177 9 = some (.if_icmp .ge 24, 33, 0, 0) := by decide +kernel
theorem at_177_12 : j_at 177 12 = some (.aload_n 1, 0, 0, 0) := by decide +kernel
theorem at_177_13 : j_at 177 13 = some (.getfield 175, 11, 0, 0) := by decide +kernel
theorem at_177_16 : j_at 177 16 = some (.iconst 5, 0, 0, 5) := by decide +kernel
theorem at_177_17 : j_at 177 17 = some (.aload_n 1, 0, 0, 0) := by decide +kernel
theorem at_177_18 : j_at 177 18 = some (.getfield 178, 11, 15, 0) := by decide +kernel
theorem at_177_21 : j_at 177 21 = some (.imul, 0, 0, 0) := by decide +kernel
theorem at_177_22 : j_at 177 22 = some (.iload 5, 0, 0, 0) := by decide +kernel
theorem at_177_24 : j_at 177 24 = some (.iadd, 0, 0, 0) := by decide +kernel
theorem at_177_25 : j_at 177 25 = some (.lconst 0, 0, 0, 0) := by decide +kernel
theorem at_177_26 : j_at 177 26 = some (.lastore, 0, 0, 0) := by decide +kernel
theorem at_177_27 : j_at 177 27 = some (.iinc 5 1, 0, 0, 0) := by decide +kernel
theorem at_177_30 : j_at 177 30 = some (.goto (-27), 3, 0, 0) := by decide +kernel
theorem at_177_33 : j_at 177 33 = some (.aload_n 1, 0, 0, 0) := by decide +kernel
theorem at_177_34 : j_at 177 34 = some (.getfield 181, 11, 6, 0) := by decide +kernel
theorem at_177_37 : j_at 177 37 = some (.aload_n 1, 0, 0, 0) := by decide +kernel
theorem at_177_38 : j_at 177 38 = some (.getfield 178, 11, 15, 0) := by decide +kernel
theorem at_177_41 : j_at 177 41 = some (.iload_n 2, 0, 0, 0) := by decide +kernel
theorem at_177_42 : j_at 177 42 = some (.iastore, 0, 0, 0) := by decide +kernel
theorem at_177_43 : j_at 177 43 = some (.aload_n 1, 0, 0, 0) := by decide +kernel
theorem at_177_44 : j_at 177 44 = some (.getfield 184, 11, 1, 0) := by decide +kernel
theorem at_177_47 : j_at 177 47 = some (.aload_n 1, 0, 0, 0) := by decide +kernel
theorem at_177_48 : j_at 177 48 = some (.getfield 178, 11, 15, 0) := by decide +kernel
theorem at_177_51 : j_at 177 51 = some (.lload_n 3, 0, 0, 0) := by decide +kernel
theorem at_177_52 : j_at 177 52 = some (.lastore, 0, 0, 0) := by decide +kernel
theorem at_177_53 : j_at 177 53 = some (.aload_n 1, 0, 0, 0) := by decide +kernel
theorem at_177_54 : j_at 177 54 = some (.dup, 0, 0, 0) := by decide +kernel
theorem at_177_55 : j_at 177 55 = some (.getfield 178, 11, 15, 0) := by decide +kernel
theorem at_177_58 : j_at 177 58 = some (.iconst 1, 0, 0, 1) := by decide +kernel
theorem at_177_59 : j_at 177 59 = some (.iadd, 0, 0, 0) := by decide +kernel
theorem at_177_60 : j_at 177 60 = some (.putfield 178, 11, 15, 0) := by decide +kernel
theorem at_177_63 : j_at 177 63 = some (.return_, 0, 0, 0) := by decide +kernel
theorem at_178_0 : j_at 178 0 = some (.aload_n 1, 0, 0, 0) := by decide +kernel
theorem at_178_1 : j_at 178 1 = some (.aload_n 0, 0, 0, 0) := by decide +kernel
theorem at_178_2 : j_at 178 2 = some (.invokevirtual 89, 151, 0, 0) := by decide +kernel
theorem at_178_5 : j_at 178 5 = some (.putfield 172, 11, 14, 0) := by decide +kernel
theorem at_178_8 : j_at 178 8 = some (.aload_n 1, 0, 0, 0) := by decide +kernel
theorem at_178_9 : j_at 178 9 = some (.iconst 0, 0, 0, 0) := by decide +kernel
theorem at_178_10 : j_at 178 10 = some (.putfield 178, 11, 15, 0) := by decide +kernel
theorem at_178_13 : j_at 178 13 = some (.aload_n 1, 0, 0, 0) := by decide +kernel
theorem at_178_14 : j_at 178 14 = some (.iconst 0, 0, 0, 0) := by decide +kernel
theorem at_178_15 : j_at 178 15 = some (.putfield 187, 11, 16, 0) := by decide +kernel
theorem at_178_18 : j_at 178 18 = some (.aload_n 1, 0, 0, 0) := by decide +kernel
theorem at_178_19 : j_at 178 19 = some (.iconst 0, 0, 0, 0) := by decide +kernel
theorem at_178_20 : j_at 178 20 = some (.putfield 190, 11, 17, 0) := by decide +kernel
theorem at_178_23 : j_at 178 23 = some (.aload_n 1, 0, 0, 0) := by decide +kernel
theorem at_178_24 : j_at 178 24 = some (.lconst 0, 0, 0, 0) := by decide +kernel
theorem at_178_25 : j_at 178 25 = some (.putfield 193, 11, 12, 0) := by decide +kernel
theorem at_178_28 : j_at 178 28 = some (.aload_n 1, 0, 0, 0) := by decide +kernel
theorem at_178_29 : j_at 178 29 = some (.lconst 1, 0, 0, 1) := by decide +kernel
theorem at_178_30 : j_at 178 30 = some (.putfield 197, 11, 13, 0) := by decide +kernel
theorem at_178_33 : j_at 178 33 = some (.aload_n 1, 0, 0, 0) := by decide +kernel
theorem at_178_34 : j_at 178 34 = some (.iconst 1, 0, 0, 1) := by decide +kernel
theorem at_178_35 : j_at 178 35 = some (.putfield 85, 11, 18, 0) := by decide +kernel
theorem at_178_38 : j_at 178 38 = some (.aload_n 1, 0, 0, 0) := by decide +kernel
theorem at_178_39 : j_at 178 39 = some (.iconst 0, 0, 0, 0) := by decide +kernel
theorem at_178_40 : j_at 178 40 = some (.putfield 200, 11, 19, 0) := by decide +kernel
theorem at_178_43 : j_at 178 43 = some (.iconst 0, 0, 0, 0) := by decide +kernel
theorem at_178_44 : j_at 178 44 = some (.istore_n 2, 0, 0, 0) := by decide +kernel
theorem at_178_45 : j_at 178 45 = some (.iload_n 2, 0, 0, 0) := by decide +kernel
theorem at_178_46 : j_at 178 46 = some (.aload_n 0, 0, 0, 0) := by decide +kernel
theorem at_178_47 : j_at 178 47 = some (.invokevirtual 89, 151, 0, 0) := by decide +kernel
theorem at_178_50 : j_at 178 50 = some (.if_icmp .ge 32, 82, 0, 0) := by decide +kernel
theorem at_178_53 : j_at 178 53 = some (.aload_n 1, 0, 0, 0) := by decide +kernel
theorem at_178_54 : j_at 178 54 = some (.getfield 203, 11, 2, 0) := by decide +kernel
theorem at_178_57 : j_at 178 57 = some (.iload_n 2, 0, 0, 0) := by decide +kernel
theorem at_178_58 : j_at 178 58 = some (.aload_n 0, 0, 0, 0) := by decide +kernel
theorem at_178_59 : j_at 178 59 = some (.getfield 11, 12, 0, 0) := by decide +kernel
theorem at_178_62 : j_at 178 62 = some (.bipush 7, 0, 0, 7) := by decide +kernel
theorem at_178_64 : j_at 178 64 = some (.iload_n 2, 0, 0, 0) := by decide +kernel
theorem at_178_65 : j_at 178 65 = some (.iadd, 0, 0, 0) := by decide +kernel
theorem at_178_66 : j_at 178 66 = some (.iaload, 0, 0, 0) := by decide +kernel
theorem at_178_67 : j_at 178 67 = some (.i2l, 0, 0, 0) := by decide +kernel
theorem at_178_68 : j_at 178 68 = some (.lastore, 0, 0, 0) := by decide +kernel
theorem at_178_69 : j_at 178 69 = some (.aload_n 1, 0, 0, 0) := by decide +kernel
theorem at_178_70 : j_at 178 70 = some (.getfield 206, 11, 7, 0) := by decide +kernel
theorem at_178_73 : j_at 178 73 = some (.iload_n 2, 0, 0, 0) := by decide +kernel
theorem at_178_74 : j_at 178 74 = some (.iload_n 2, 0, 0, 0) := by decide +kernel
theorem at_178_75 : j_at 178 75 = some (.iastore, 0, 0, 0) := by decide +kernel
theorem at_178_76 : j_at 178 76 = some (.iinc 2 1, 0, 0, 0) := by decide +kernel
theorem at_178_79 : j_at 178 79 = some (.goto (-34), 45, 0, 0) := by decide +kernel
theorem at_178_82 : j_at 178 82 = some (.iconst 0, 0, 0, 0) := by decide +kernel
theorem at_178_83 : j_at 178 83 = some (.istore_n 2, 0, 0, 0) := by decide +kernel
theorem at_178_84 : j_at 178 84 = some (.iload_n 2, 0, 0, 0) := by decide +kernel
theorem at_178_85 : j_at 178 85 = some (.aload_n 0, 0, 0, 0) := by decide +kernel
theorem at_178_86 : j_at 178 86 = some (.getfield 11, 12, 0, 0) := by decide +kernel
theorem at_178_89 : j_at 178 89 = some (.iconst 1, 0, 0, 1) := by decide +kernel
theorem at_178_90 : j_at 178 90 = some (.iaload, 0, 0, 0) := by decide +kernel
theorem at_178_91 : j_at 178 91 = some (.if_icmp .ge 55, 146, 0, 0) := by decide +kernel
theorem at_178_94 : j_at 178 94 = some (.aload_n 0, 0, 0, 0) := by decide +kernel
theorem at_178_95 : j_at 178 95 = some (.aload_n 1, 0, 0, 0) := by decide +kernel
theorem at_178_96 : j_at 178 96 = some (.bipush 10, 0, 0, 10) := by decide +kernel
theorem at_178_98 : j_at 178 98 = some (.iload_n 2, 0, 0, 0) := by decide +kernel
theorem at_178_99 : j_at 178 99 = some (.iadd, 0, 0, 0) := by decide +kernel
theorem at_178_100 : j_at 178 100 = some (.aload_n 0, 0, 0, 0) := by decide +kernel
theorem at_178_101 : j_at 178 101 = some (.iload_n 2, 0, 0, 0) := by decide +kernel
theorem at_178_102 : j_at 178 102 = some (.invokevirtual 209, 158, 1, 0) := by decide +kernel
theorem at_178_105 : j_at 178 105 = some (.invokevirtual 213, 177, 3, 0) := by decide +kernel
theorem at_178_108 : j_at 178 108 = some (.iconst 0, 0, 0, 0) := by decide +kernel
theorem at_178_109 : j_at 178 109 = some (.istore_n 3, 0, 0, 0) := by decide +kernel
theorem at_178_110 : j_at 178 110 = some (.iload_n 3, 0, 0, 0) := by decide +kernel
theorem at_178_111 : j_at 178 111 = some (.aload_n 0, 0, 0, 0) := by decide +kernel
theorem at_178_112 : j_at 178 112 = some (.invokevirtual 89, 151, 0, 0) := by decide +kernel
theorem at_178_115 : j_at 178 115 = some (.if_icmp .ge 25, 140, 0, 0) := by decide +kernel
theorem at_178_118 : j_at 178 118 = some (.aload_n 1, 0, 0, 0) := by decide +kernel
theorem at_178_119 : j_at 178 119 = some (.getfield 175, 11, 0, 0) := by decide +kernel
theorem at_178_122 : j_at 178 122 = some (.iconst 5, 0, 0, 5) := by decide +kernel
theorem at_178_123 : j_at 178 123 = some (.iload_n 2, 0, 0, 0) := by decide +kernel
theorem at_178_124 : j_at 178 124 = some (.imul, 0, 0, 0) := by decide +kernel
theorem at_178_125 : j_at 178 125 = some (.iload_n 3, 0, 0, 0) := by decide +kernel
theorem at_178_126 : j_at 178 126 = some (.iadd, 0, 0, 0) := by decide +kernel
theorem at_178_127 : j_at 178 127 = some (.aload_n 0, 0, 0, 0) := by decide +kernel
theorem at_178_128 : j_at 178 128 = some (.iload_n 2, 0, 0, 0) := by decide +kernel
theorem at_178_129 : j_at 178 129 = some (.iload_n 3, 0, 0, 0) := by decide +kernel
theorem at_178_130 : j_at 178 130 = some (.invokevirtual 217, 157, 2, 0) := by decide +kernel
theorem at_178_133 : j_at 178 133 = some (.lastore, 0, 0, 0) := by decide +kernel
theorem at_178_134 : j_at 178 134 = some (.iinc 3 1, 0, 0, 0) := by decide +kernel
theorem at_178_137 : j_at 178 137 = some (.goto (-27), 110, 0, 0) := by decide +kernel
theorem at_178_140 : j_at 178 140 = some (.iinc 2 1, 0, 0, 0) := by decide +kernel
theorem at_178_143 : j_at 178 143 = some (.goto (-59), 84, 0, 0) := by decide +kernel
theorem at_178_146 : j_at 178 146 = some (.return_, 0, 0, 0) := by decide +kernel
theorem at_179_0 : j_at 179 0 = some (.lload_n 0, 0, 0, 0) := by decide +kernel
theorem at_179_1 : j_at 179 1 = some (.ldc2_w 221, 0, 0, -1000000000) := by decide +kernel
theorem at_179_4 : j_at 179 4 = some (.lcmp, 0, 0, 0) := by decide +kernel
theorem at_179_5 : j_at 179 5 = some (.ifCond .lt 15, 20, 0, 0) := by decide +kernel
theorem at_179_8 : j_at 179 8 = some (.lload_n 0, 0, 0, 0) := by decide +kernel
theorem at_179_9 : j_at 179 9 = some (.ldc2_w 223, 0, 0, 1000000000) := by decide +kernel
theorem at_179_12 : j_at 179 12 = some (.lcmp, 0, 0, 0) := by decide +kernel
theorem at_179_13 : j_at 179 13 = some (.ifCond .gt 7, 20, 0, 0) := by decide +kernel
theorem at_179_16 : j_at 179 16 = some (.iconst 1, 0, 0, 1) := by decide +kernel
theorem at_179_17 : j_at 179 17 = some (.goto 4, 21, 0, 0) := by decide +kernel
theorem at_179_20 : j_at 179 20 = some (.iconst 0, 0, 0, 0) := by decide +kernel
theorem at_179_21 : j_at 179 21 = some (.ireturn, 0, 0, 0) := by decide +kernel
theorem at_180_0 : j_at 180 0 = some (.aload_n 1, 0, 0, 0) := by decide +kernel
theorem at_180_1 : j_at 180 1 = some (.getfield 175, 11, 0, 0) := by decide +kernel
theorem at_180_4 : j_at 180 4 = some (.iconst 5, 0, 0, 5) := by decide +kernel
theorem at_180_5 : j_at 180 5 = some (.iload_n 2, 0, 0, 0) := by decide +kernel
theorem at_180_6 : j_at 180 6 = some (.imul, 0, 0, 0) := by decide +kernel
theorem at_180_7 : j_at 180 7 = some (.iload_n 3, 0, 0, 0) := by decide +kernel
theorem at_180_8 : j_at 180 8 = some (.iadd, 0, 0, 0) := by decide +kernel
theorem at_180_9 : j_at 180 9 = some (.laload, 0, 0, 0) := by decide +kernel
theorem at_180_10 : j_at 180 10 = some (.lneg, 0, 0, 0) := by decide +kernel
theorem at_180_11 : j_at 180 11 = some (.lstore 4, 0, 0, 0) := by decide +kernel
theorem at_180_13 : j_at 180 13 = some (.lload 4, 0, 0, 0) := by decide +kernel
theorem at_180_15 : j_at 180 15 = some (.invokestatic 225, 179, 1, 0) := by decide +kernel
theorem at_180_18 : j_at 180 18 = some (.istore 6, 0, 0, 0) := by decide +kernel
theorem at_180_20 : j_at 180 20 = some (.iconst 0, 0, 0, 0) := by decide +kernel
theorem at_180_21 : j_at 180 21 = some (.istore 7, 0, 0, 0) := by decide +kernel
theorem at_180_23 : j_at 180 23 = some (.iload 7, 0, 0, 0) := by decide +kernel
theorem at_180_25 : j_at 180 25 = some (.aload_n 1, 0, 0, 0) := by decide +kernel
theorem at_180_26 : j_at 180 26 = some (.getfield 178, 11, 15, 0) := by decide +kernel
theorem at_180_29 : j_at 180 29 = some (.if_icmp .ge 212, 241, 0, 0) := by decide +kernel
theorem at_180_32 : j_at 180 32 = some (.aload_n 1, 0, 0, 0) := by decide +kernel
theorem at_180_33 : j_at 180 33 = some (.getfield 175, 11, 0, 0) := by decide +kernel
theorem at_180_36 : j_at 180 36 = some (.iconst 5, 0, 0, 5) := by decide +kernel
theorem at_180_37 : j_at 180 37 = some (.iload 7, 0, 0, 0) := by decide +kernel
theorem at_180_39 : j_at 180 39 = some (.imul, 0, 0, 0) := by decide +kernel
theorem at_180_40 : j_at 180 40 = some (.iload_n 3, 0, 0, 0) := by decide +kernel
theorem at_180_41 : j_at 180 41 = some (.iadd, 0, 0, 0) := by decide +kernel
theorem at_180_42 : j_at 180 42 = some (.laload, 0, 0, 0) := by decide +kernel
theorem at_180_43 : j_at 180 43 = some (.lstore 8, 0, 0, 0) := by decide +kernel
theorem at_180_45 : j_at 180 45 = some (.iconst 0, 0, 0, 0) := by decide +kernel
theorem at_180_46 : j_at 180 46 = some (.istore 10, 0, 0, 0) := by decide +kernel
theorem at_180_48 : j_at 180 48 = some (.iload 10, 0, 0, 0) := by decide +kernel
theorem at_180_50 : j_at 180 50 = some (.aload_n 1, 0, 0, 0) := by decide +kernel
theorem at_180_51 : j_at 180 51 = some (.getfield 172, 11, 14, 0) := by decide +kernel
theorem at_180_54 : j_at 180 54 = some (.if_icmp .ge 117, 171, 0, 0) := by decide +kernel
theorem at_180_57 : j_at 180 57 = some (.iload 7, 0, 0, 0) := by decide +kernel
theorem at_180_59 : j_at 180 59 = some (.iload_n 2, 0, 0, 0) := by decide +kernel
theorem at_180_60 : j_at 180 60 = some (.if_icmp .ne 33, 93, 0, 0) := by decide +kernel
theorem at_180_63 : j_at 180 63 = some (.iload 10, 0, 0, 0) := by decide +kernel
theorem at_180_65 : j_at 180 65 = some (.iload_n 3, 0, 0, 0) := by decide +kernel
theorem at_180_66 : j_at 180 66 = some (.if_icmp .ne 11, 77, 0, 0) := by decide +kernel
theorem at_180_69 : j_at 180 69 = some (.aload_n 1, 0, 0, 0) := by decide +kernel
theorem at_180_70 : j_at 180 70 = some (.getfield 197, 11, 13, 0) := by decide +kernel
theorem at_180_73 : j_at 180 73 = some (.lneg, 0, 0, 0) := by decide +kernel
theorem at_180_74 : j_at 180 74 = some (.goto 65, 139, 0, 0) := by decide +kernel
theorem at_180_77 : j_at 180 77 = some (.aload_n 1, 0, 0, 0) := by decide +kernel
theorem at_180_78 : j_at 180 78 = some (.getfield 175, 11, 0, 0) := by decide +kernel
theorem at_180_81 : j_at 180 81 = some (.iconst 5, 0, 0, 5) := by decide +kernel
theorem at_180_82 : j_at 180 82 = some (.iload 7, 0, 0, 0) := by decide +kernel
theorem at_180_84 : j_at 180 84 = some (.imul, 0, 0, 0) := by decide +kernel
theorem at_180_85 : j_at 180 85 = some (.iload 10, 0, 0, 0) := by decide +kernel
theorem at_180_87 : j_at 180 87 = some (.iadd, 0, 0, 0) := by decide +kernel
theorem at_180_88 : j_at 180 88 = some (.laload, 0, 0, 0) := by decide +kernel
theorem at_180_89 : j_at 180 89 = some (.lneg, 0, 0, 0) := by decide +kernel
theorem at_180_90 : j_at 180 90 = some (.goto 49, 139, 0, 0) := by decide +kernel
theorem at_180_93 : j_at 180 93 = some (.iload 10, 0, 0, 0) := by decide +kernel
theorem at_180_95 : j_at 180 95 = some (.iload_n 3, 0, 0, 0) := by decide +kernel
theorem at_180_96 : j_at 180 96 = some (.if_icmp .ne 8, 104, 0, 0) := by decide +kernel
theorem at_180_99 : j_at 180 99 = some (.lload 8, 0, 0, 0) := by decide +kernel
theorem at_180_101 : j_at 180 101 = some (.goto 38, 139, 0, 0) := by decide +kernel
theorem at_180_104 : j_at 180 104 = some (.lload 4, 0, 0, 0) := by decide +kernel
theorem at_180_106 : j_at 180 106 = some (.aload_n 1, 0, 0, 0) := by decide +kernel
theorem at_180_107 : j_at 180 107 = some (.getfield 175, 11, 0, 0) := by decide +kernel
theorem at_180_110 : j_at 180 110 = some (.iconst 5, 0, 0, 5) := by decide +kernel
theorem at_180_111 : j_at 180 111 = some (.iload 7, 0, 0, 0) := by decide +kernel
theorem at_180_113 : j_at 180 113 = some (.imul, 0, 0, 0) := by decide +kernel
theorem at_180_114 : j_at 180 114 = some (.iload 10, 0, 0, 0) := by decide +kernel
theorem at_180_116 : j_at 180 116 = some (.iadd, 0, 0, 0) := by decide +kernel
theorem at_180_117 : j_at 180 117 = some (.laload, 0, 0, 0) := by decide +kernel
theorem at_180_118 : j_at 180 118 = some (.lmul, 0, 0, 0) := by decide +kernel
theorem at_180_119 : j_at 180 119 = some (.lload 8, 0, 0, 0) := by decide +kernel
theorem at_180_121 : j_at 180 121 = some (.aload_n 1, 0, 0, 0) := by decide +kernel
theorem at_180_122 : j_at 180 122 = some (.getfield 175, 11, 0, 0) := by decide +kernel
theorem at_180_125 : j_at 180 125 = some (.iconst 5, 0, 0, 5) := by decide +kernel
theorem at_180_126 : j_at 180 126 = some (.iload_n 2, 0, 0, 0) := by decide +kernel
theorem at_180_127 : j_at 180 127 = some (.imul, 0, 0, 0) := by decide +kernel
theorem at_180_128 : j_at 180 128 = some (.iload 10, 0, 0, 0) := by decide +kernel
theorem at_180_130 : j_at 180 130 = some (.iadd, 0, 0, 0) := by decide +kernel
theorem at_180_131 : j_at 180 131 = some (.laload, 0, 0, 0) := by decide +kernel
theorem at_180_132 : j_at 180 132 = some (.lmul, 0, 0, 0) := by decide +kernel
theorem at_180_133 : j_at 180 133 = some (.ladd, 0, 0, 0) := by decide +kernel
theorem at_180_134 : j_at 180 134 = some (.aload_n 1, 0, 0, 0) := by decide +kernel
theorem at_180_135 : j_at 180 135 = some (.getfield 197, 11, 13, 0) := by decide +kernel
theorem at_180_138 : j_at 180 138 = some (.ldiv, 0, 0, 0) := by decide +kernel
theorem at_180_139 : j_at 180 139 = some (.lstore 11, 0, 0, 0) := by decide +kernel
theorem at_180_141 : j_at 180 141 = some (.aload_n 1, 0, 0, 0) := by decide +kernel
theorem at_180_142 : j_at 180 142 = some (.getfield 229, 11, 3, 0) := by decide +kernel
theorem at_180_145 : j_at 180 145 = some (.iconst 5, 0, 0, 5) := by decide +kernel
theorem at_180_146 : j_at 180 146 = some (.iload 7, 0, 0, 0) := by decide +kernel
theorem at_180_148 : j_at 180 148 = some (.imul, 0, 0, 0) := by decide +kernel
theorem at_180_149 : j_at 180 149 = some (.iload 10, 0, 0, 0) := by decide +kernel
theorem at_180_151 : j_at 180 151 = some (.iadd, 0, 0, 0) := by decide +kernel
theorem at_180_152 : j_at 180 152 = some (.lload 11, 0, 0, 0) := by decide +kernel
theorem at_180_154 : j_at 180 154 = some (.lastore, 0, 0, 0) := by decide +kernel
theorem at_180_155 : j_at 180 155 = some (.iload 6, 0, 0, 0) := by decide +kernel
theorem at_180_157 : j_at 180 157 = some (.lload 11, 0, 0, 0) := by decide +kernel
theorem at_180_159 : j_at 180 159 = some (.invokestatic 225, 179, 1, 0) := by decide +kernel
theorem at_180_162 : j_at 180 162 = some (.iand, 0, 0, 0) := by decide +kernel
theorem at_180_163 : j_at 180 163 = some (.istore 6, 0, 0, 0) := by decide +kernel
theorem at_180_165 : j_at 180 165 = some (.iinc 10 1, 0, 0, 0) := by decide +kernel
theorem at_180_168 : j_at 180 168 = some (.goto (-120), 48, 0, 0) := by decide +kernel
theorem at_180_171 : j_at 180 171 = some (.aload_n 1, 0, 0, 0) := by decide +kernel
theorem at_180_172 : j_at 180 172 = some (.getfield 232, 11, 4, 0) := by decide +kernel
theorem at_180_175 : j_at 180 175 = some (.iload 7, 0, 0, 0) := by decide +kernel
theorem at_180_177 : j_at 180 177 = some (.iload 7, 0, 0, 0) := by decide +kernel
theorem at_180_179 : j_at 180 179 = some (.iload_n 2, 0, 0, 0) := by decide +kernel
theorem at_180_180 : j_at 180 180 = some (.if_icmp .ne 14, 194, 0, 0) := by decide +kernel
theorem at_180_183 : j_at 180 183 = some (.aload_n 1, 0, 0, 0) := by decide +kernel
theorem at_180_184 : j_at 180 184 = some (.getfield 184, 11, 1, 0) := by decide +kernel
theorem at_180_187 : j_at 180 187 = some (.iload 7, 0, 0, 0) := by decide +kernel
theorem at_180_189 : j_at 180 189 = some (.laload, 0, 0, 0) := by decide +kernel
theorem at_180_190 : j_at 180 190 = some (.lneg, 0, 0, 0) := by decide +kernel
theorem at_180_191 : j_at 180 191 = some (.goto 28, 219, 0, 0) := by decide +kernel
theorem at_180_194 : j_at 180 194 = some (.lload 4, 0, 0, 0) := by decide +kernel
theorem at_180_196 : j_at 180 196 = some (.aload_n 1, 0, 0, 0) := by decide +kernel
theorem at_180_197 : j_at 180 197 = some (.getfield 184, 11, 1, 0) := by decide +kernel
theorem at_180_200 : j_at 180 200 = some (.iload 7, 0, 0, 0) := by decide +kernel
theorem at_180_202 : j_at 180 202 = some (.laload, 0, 0, 0) := by decide +kernel
theorem at_180_203 : j_at 180 203 = some (.lmul, 0, 0, 0) := by decide +kernel
theorem at_180_204 : j_at 180 204 = some (.lload 8, 0, 0, 0) := by decide +kernel
theorem at_180_206 : j_at 180 206 = some (.aload_n 1, 0, 0, 0) := by decide +kernel
theorem at_180_207 : j_at 180 207 = some (.getfield 184, 11, 1, 0) := by decide +kernel
theorem at_180_210 : j_at 180 210 = some (.iload_n 2, 0, 0, 0) := by decide +kernel
theorem at_180_211 : j_at 180 211 = some (.laload, 0, 0, 0) := by decide +kernel
theorem at_180_212 : j_at 180 212 = some (.lmul, 0, 0, 0) := by decide +kernel
theorem at_180_213 : j_at 180 213 = some (.ladd, 0, 0, 0) := by decide +kernel
theorem at_180_214 : j_at 180 214 = some (.aload_n 1, 0, 0, 0) := by decide +kernel
theorem at_180_215 : j_at 180 215 = some (.getfield 197, 11, 13, 0) := by decide +kernel
theorem at_180_218 : j_at 180 218 = some (.ldiv, 0, 0, 0) := by decide +kernel
theorem at_180_219 : j_at 180 219 = some (.lastore, 0, 0, 0) := by decide +kernel
theorem at_180_220 : j_at 180 220 = some (.iload 6, 0, 0, 0) := by decide +kernel
theorem at_180_222 : j_at 180 222 = some (.aload_n 1, 0, 0, 0) := by decide +kernel
theorem at_180_223 : j_at 180 223 = some (.getfield 232, 11, 4, 0) := by decide +kernel
theorem at_180_226 : j_at 180 226 = some (.iload 7, 0, 0, 0) := by decide +kernel
theorem at_180_228 : j_at 180 228 = some (.laload, 0, 0, 0) := by decide +kernel
theorem at_180_229 : j_at 180 229 = some (.invokestatic 225, 179, 1, 0) := by decide +kernel
theorem at_180_232 : j_at 180 232 = some (.iand, 0, 0, 0) := by decide +kernel
theorem at_180_233 : j_at 180 233 = some (.istore 6, 0, 0, 0) := by decide +kernel
theorem at_180_235 : j_at 180 235 = some (.iinc 7 1, 0, 0, 0) := by decide +kernel
theorem at_180_238 : j_at 180 238 = some (.goto (-215), 23, 0, 0) := by decide +kernel
theorem at_180_241 : j_at 180 241 = some (.iconst 0, 0, 0, 0) := by decide +kernel
theorem at_180_242 : j_at 180 242 = some (.istore 7, 0, 0, 0) := by decide +kernel
theorem at_180_244 : j_at 180 244 = some (.iload 7, 0, 0, 0) := by decide +kernel
theorem at_180_246 : j_at 180 246 = some (.aload_n 1, 0, 0, 0) := by decide +kernel
theorem at_180_247 : j_at 180 247 = some (.getfield 172, 11, 14, 0) := by decide +kernel
theorem at_180_250 : j_at 180 250 = some (.if_icmp .ge 81, 331, 0, 0) := by decide +kernel
theorem at_180_253 : j_at 180 253 = some (.aload_n 1, 0, 0, 0) := by decide +kernel
theorem at_180_254 : j_at 180 254 = some (.getfield 235, 11, 5, 0) := by decide +kernel
theorem at_180_257 : j_at 180 257 = some (.iload 7, 0, 0, 0) := by decide +kernel
theorem at_180_259 : j_at 180 259 = some (.iload 7, 0, 0, 0) := by decide +kernel
theorem at_180_261 : j_at 180 261 = some (.iload_n 3, 0, 0, 0) := by decide +kernel
theorem at_180_262 : j_at 180 262 = some (.if_icmp .ne 13, 275, 0, 0) := by decide +kernel
theorem at_180_265 : j_at 180 265 = some (.aload_n 1, 0, 0, 0) := by decide +kernel
theorem at_180_266 : j_at 180 266 = some (.getfield 203, 11, 2, 0) := by decide +kernel
theorem at_180_269 : j_at 180 269 = some (.iload 7, 0, 0, 0) := by decide +kernel
theorem at_180_271 : j_at 180 271 = some (.laload, 0, 0, 0) := by decide +kernel
theorem at_180_272 : j_at 180 272 = some (.goto 37, 309, 0, 0) := by decide +kernel
theorem at_180_275 : j_at 180 275 = some (.lload 4, 0, 0, 0) := by decide +kernel
theorem at_180_277 : j_at 180 277 = some (.aload_n 1, 0, 0, 0) := by decide +kernel
theorem at_180_278 : j_at 180 278 = some (.getfield 203, 11, 2, 0) := by decide +kernel
theorem at_180_281 : j_at 180 281 = some (.iload 7, 0, 0, 0) := by decide +kernel
theorem at_180_283 : j_at 180 283 = some (.laload, 0, 0, 0) := by decide +kernel
theorem at_180_284 : j_at 180 284 = some (.lmul, 0, 0, 0) := by decide +kernel
theorem at_180_285 : j_at 180 285 = some (.aload_n 1, 0, 0, 0) := by decide +kernel
theorem at_180_286 : j_at 180 286 = some (.getfield 203, 11, 2, 0) := by decide +kernel
theorem at_180_289 : j_at 180 289 = some (.iload_n 3, 0, 0, 0) := by decide +kernel
theorem at_180_290 : j_at 180 290 = some (.laload, 0, 0, 0) := by decide +kernel
theorem at_180_291 : j_at 180 291 = some (.aload_n 1, 0, 0, 0) := by decide +kernel
theorem at_180_292 : j_at 180 292 = some (.getfield 175, 11, 0, 0) := by decide +kernel
theorem at_180_295 : j_at 180 295 = some (.iconst 5, 0, 0, 5) := by decide +kernel
theorem at_180_296 : j_at 180 296 = some (.iload_n 2, 0, 0, 0) := by decide +kernel
theorem at_180_297 : j_at 180 297 = some (.imul, 0, 0, 0) := by decide +kernel
theorem at_180_298 : j_at 180 298 = some (.iload 7, 0, 0, 0) := by decide +kernel
theorem at_180_300 : j_at 180 300 = some (.iadd, 0, 0, 0) := by decide +kernel
theorem at_180_301 : j_at 180 301 = some (.laload, 0, 0, 0) := by decide +kernel
theorem at_180_302 : j_at 180 302 = some (.lmul, 0, 0, 0) := by decide +kernel
theorem at_180_303 : j_at 180 303 = some (.ladd, 0, 0, 0) := by decide +kernel
theorem at_180_304 : j_at 180 304 = some (.aload_n 1, 0, 0, 0) := by decide +kernel
theorem at_180_305 : j_at 180 305 = some (.getfield 197, 11, 13, 0) := by decide +kernel
theorem at_180_308 : j_at 180 308 = some (.ldiv, 0, 0, 0) := by decide +kernel
theorem at_180_309 : j_at 180 309 = some (.lastore, 0, 0, 0) := by decide +kernel
theorem at_180_310 : j_at 180 310 = some (.iload 6, 0, 0, 0) := by decide +kernel
theorem at_180_312 : j_at 180 312 = some (.aload_n 1, 0, 0, 0) := by decide +kernel
theorem at_180_313 : j_at 180 313 = some (.getfield 235, 11, 5, 0) := by decide +kernel
theorem at_180_316 : j_at 180 316 = some (.iload 7, 0, 0, 0) := by decide +kernel
theorem at_180_318 : j_at 180 318 = some (.laload, 0, 0, 0) := by decide +kernel
theorem at_180_319 : j_at 180 319 = some (.invokestatic 225, 179, 1, 0) := by decide +kernel
theorem at_180_322 : j_at 180 322 = some (.iand, 0, 0, 0) := by decide +kernel
theorem at_180_323 : j_at 180 323 = some (.istore 6, 0, 0, 0) := by decide +kernel
theorem at_180_325 : j_at 180 325 = some (.iinc 7 1, 0, 0, 0) := by decide +kernel
theorem at_180_328 : j_at 180 328 = some (.goto (-84), 244, 0, 0) := by decide +kernel
theorem at_180_331 : j_at 180 331 = some (.iload 6, 0, 0, 0) := by decide +kernel
theorem at_180_333 : j_at 180 333 = some (.ifCond .eq 39, 372, 0, 0) := by decide +kernel
theorem at_180_336 : j_at 180 336 = some (.lload 4, 0, 0, 0) := by decide +kernel
theorem at_180_338 : j_at 180 338 = some (.aload_n 1, 0, 0, 0) := by decide +kernel
theorem at_180_339 : j_at 180 339 = some (.getfield 193, 11, 12, 0) := by decide +kernel
theorem at_180_342 : j_at 180 342 = some (.lmul, 0, 0, 0) := by decide +kernel
theorem at_180_343 : j_at 180 343 = some (.aload_n 1, 0, 0, 0) := by decide +kernel
theorem at_180_344 : j_at 180 344 = some (.getfield 203, 11, 2, 0) := by decide +kernel
theorem at_180_347 : j_at 180 347 = some (.iload_n 3, 0, 0, 0) := by decide +kernel
theorem at_180_348 : j_at 180 348 = some (.laload, 0, 0, 0) := by decide +kernel
theorem at_180_349 : j_at 180 349 = some (.aload_n 1, 0, 0, 0) := by decide +kernel
theorem at_180_350 : j_at 180 350 = some (.getfield 184, 11, 1, 0) := by decide +kernel
theorem at_180_353 : j_at 180 353 = some (.iload_n 2, 0, 0, 0) := by decide +kernel
theorem at_180_354 : j_at 180 354 = some (.laload, 0, 0, 0) := by decide +kernel
theorem at_180_355 : j_at 180 355 = some (.lmul, 0, 0, 0) := by decide +kernel
theorem at_180_356 : j_at 180 356 = some (.lsub, 0, 0, 0) := by decide +kernel
theorem at_180_357 : j_at 180 357 = some (.aload_n 1, 0, 0, 0) := by decide +kernel
theorem at_180_358 : j_at 180 358 = some (.getfield 197, 11, 13, 0) := by decide +kernel
theorem at_180_361 : j_at 180 361 = some (.ldiv, 0, 0, 0) := by decide +kernel
theorem at_180_362 : j_at 180 362 = some (.invokestatic 225, 179, 1, 0) := by decide +kernel
theorem at_180_365 : j_at 180 365 = some (.ifCond .eq 7, 372, 0, 0) := by decide +kernel
theorem at_180_368 : j_at 180 368 = some (.iconst 1, 0, 0, 1) := by decide +kernel
theorem at_180_369 : j_at 180 369 = some (.goto 4, 373, 0, 0) := by decide +kernel
theorem at_180_372 : j_at 180 372 = some (.iconst 0, 0, 0, 0) := by decide +kernel
theorem at_180_373 : j_at 180 373 = some (.ireturn, 0, 0, 0) := by decide +kernel
theorem at_181_0 : j_at 181 0 = some (.aload_n 0, 0, 0, 0) := by decide +kernel
theorem at_181_1 : j_at 181 1 = some (.aload_n 1, 0, 0, 0) := by decide +kernel
theorem at_181_2 : j_at 181 2 = some (.iload_n 2, 0, 0, 0) := by decide +kernel
theorem at_181_3 : j_at 181 3 = some (.iload_n 3, 0, 0, 0) := by decide +kernel
theorem at_181_4 : j_at 181 4 = some (.invokevirtual 238, 180, 3, 0) := by decide +kernel
theorem at_181_7 : j_at 181 7 = some (.ifCond .ne 5, 12, 0, 0) := by decide +kernel
theorem at_181_10 : j_at 181 10 = some (.iconst 0, 0, 0, 0) := by decide +kernel
theorem at_181_11 : j_at 181 11 = some (.ireturn, 0, 0, 0) := by decide +kernel
theorem at_181_12 : j_at 181 12 = some (.aload_n 1, 0, 0, 0) := by decide +kernel
theorem at_181_13 : j_at 181 13 = some (.getfield 175, 11, 0, 0) := by decide +kernel
theorem at_181_16 : j_at 181 16 = some (.iconst 5, 0, 0, 5) := by decide +kernel
theorem at_181_17 : j_at 181 17 = some (.iload_n 2, 0, 0, 0) := by decide +kernel
theorem at_181_18 : j_at 181 18 = some (.imul, 0, 0, 0) := by decide +kernel
theorem at_181_19 : j_at 181 19 = some (.iload_n 3, 0, 0, 0) := by decide +kernel
theorem at_181_20 : j_at 181 20 = some (.iadd, 0, 0, 0) := by decide +kernel
theorem at_181_21 : j_at 181 21 = some (.laload, 0, 0, 0) := by decide +kernel
theorem at_181_22 : j_at 181 22 = some (.lneg, 0, 0, 0) := by decide +kernel
theorem at_181_23 : j_at 181 23 = some (.lstore 4, 0, 0, 0) := by decide +kernel
theorem at_181_25 : j_at 181 25 = some (.aload_n 1, 0, 0, 0) := by decide +kernel
theorem at_181_26 : j_at 181 26 = some (.lload 4, 0, 0, 0) := by decide +kernel
theorem at_181_28 : j_at 181 28 = some (.aload_n 1, 0, 0, 0) := by decide +kernel
theorem at_181_29 : j_at 181 29 = some (.getfield 193, 11, 12, 0) := by decide +kernel
theorem at_181_32 : j_at 181 32 = some (.lmul, 0, 0, 0) := by decide +kernel
theorem at_181_33 : j_at 181 33 = some (.aload_n 1, 0, 0, 0) := by decide +kernel
theorem at_181_34 : j_at 181 34 = some (.getfield 203, 11, 2, 0) := by decide +kernel
theorem at_181_37 : j_at 181 37 = some (.iload_n 3, 0, 0, 0) := by decide +kernel
theorem at_181_38 : j_at 181 38 = some (.laload, 0, 0, 0) := by decide +kernel
theorem at_181_39 : j_at 181 39 = some (.aload_n 1, 0, 0, 0) := by decide +kernel
theorem at_181_40 : j_at 181 40 = some (.getfield 184, 11, 1, 0) := by decide +kernel
theorem at_181_43 : j_at 181 43 = some (.iload_n 2, 0, 0, 0) := by decide +kernel
theorem at_181_44 : j_at 181 44 = some (.laload, 0, 0, 0) := by decide +kernel
theorem at_181_45 : j_at 181 45 = some (.lmul, 0, 0, 0) := by decide +kernel
theorem at_181_46 : j_at 181 46 = some (.lsub, 0, 0, 0) := by decide +kernel
theorem at_181_47 : j_at 181 47 = some (.aload_n 1, 0, 0, 0) := by decide +kernel
theorem at_181_48 : j_at 181 48 = some (.getfield 197, 11, 13, 0) := by decide +kernel
theorem at_181_51 : j_at 181 51 = some (.ldiv, 0, 0, 0) := by decide +kernel
theorem at_181_52 : j_at 181 52 = some (.putfield 193, 11, 12, 0) := by decide +kernel
theorem at_181_55 : j_at 181 55 = some (.iconst 0, 0, 0, 0) := by decide +kernel
theorem at_181_56 : j_at 181 56 = some (.istore 6, 0, 0, 0) := by decide +kernel
theorem at_181_58 : j_at 181 58 = some (.iload 6, 0, 0, 0) := by decide +kernel
theorem at_181_60 : j_at 181 60 = some (.iconst 5, 0, 0, 5) := by decide +kernel
theorem at_181_61 : j_at 181 61 = some (.aload_n 1, 0, 0, 0) := by decide +kernel
theorem at_181_62 : j_at 181 62 = some (.getfield 178, 11, 15, 0) := by decide +kernel
theorem at_181_65 : j_at 181 65 = some (.imul, 0, 0, 0) := by decide +kernel
theorem at_181_66 : j_at 181 66 = some (.if_icmp .ge 23, 89, 0, 0) := by decide +kernel
theorem at_181_69 : j_at 181 69 = some (.aload_n 1, 0, 0, 0) := by decide +kernel
theorem at_181_70 : j_at 181 70 = some (.getfield 175, 11, 0, 0) := by decide +kernel
theorem at_181_73 : j_at 181 73 = some (.iload 6, 0, 0, 0) := by decide +kernel
theorem at_181_75 : j_at 181 75 = some (.aload_n 1, 0, 0, 0) := by decide +kernel
theorem at_181_76 : j_at 181 76 = some (.getfield 229, 11, 3, 0) := by decide +kernel
theorem at_181_79 : j_at 181 79 = some (.iload 6, 0, 0, 0) := by decide +kernel
theorem at_181_81 : j_at 181 81 = some (.laload, 0, 0, 0) := by decide +kernel
theorem at_181_82 : j_at 181 82 = some (.lastore, 0, 0, 0) := by decide +kernel
theorem at_181_83 : j_at 181 83 = some (.iinc 6 1, 0, 0, 0) := by decide +kernel
theorem at_181_86 : j_at 181 86 = some (.goto (-28), 58, 0, 0) := by decide +kernel
theorem at_181_89 : j_at 181 89 = some (.iconst 0, 0, 0, 0) := by decide +kernel
theorem at_181_90 : j_at 181 90 = some (.istore 6, 0, 0, 0) := by decide +kernel
theorem at_181_92 : j_at 181 92 = some (.iload 6, 0, 0, 0) := by decide +kernel
theorem at_181_94 : j_at 181 94 = some (.aload_n 1, 0, 0, 0) := by decide +kernel
theorem at_181_95 : j_at 181 95 = some (.getfield 178, 11, 15, 0) := by decide +kernel
theorem at_181_98 : j_at 181 98 = some (.if_icmp .ge 23, 121, 0, 0) := by decide +kernel
theorem at_181_101 : j_at 181 101 = some (.aload_n 1, 0, 0, 0) := by decide +kernel
theorem at_181_102 : j_at 181 102 = some (.getfield 184, 11, 1, 0) := by decide +kernel
theorem at_181_105 : j_at 181 105 = some (.iload 6, 0, 0, 0) := by decide +kernel
theorem at_181_107 : j_at 181 107 = some (.aload_n 1, 0, 0, 0) := by decide +kernel
theorem at_181_108 : j_at 181 108 = some (.getfield 232, 11, 4, 0) := by decide +kernel
theorem at_181_111 : j_at 181 111 = some (.iload 6, 0, 0, 0) := by decide +kernel
theorem at_181_113 : j_at 181 113 = some (.laload, 0, 0, 0) := by decide +kernel
theorem at_181_114 : j_at 181 114 = some (.lastore, 0, 0, 0) := by decide +kernel
theorem at_181_115 : j_at 181 115 = some (.iinc 6 1, 0, 0, 0) := by decide +kernel
theorem at_181_118 : j_at 181 118 = some (.goto (-26), 92, 0, 0) := by decide +kernel
theorem at_181_121 : j_at 181 121 = some (.iconst 0, 0, 0, 0) := by decide +kernel
theorem at_181_122 : j_at 181 122 = some (.istore 6, 0, 0, 0) := by decide +kernel
theorem at_181_124 : j_at 181 124 = some (.iload 6, 0, 0, 0) := by decide +kernel
theorem at_181_126 : j_at 181 126 = some (.aload_n 1, 0, 0, 0) := by decide +kernel
theorem at_181_127 : j_at 181 127 = some (.getfield 172, 11, 14, 0) := by decide +kernel
theorem at_181_130 : j_at 181 130 = some (.if_icmp .ge 23, 153, 0, 0) := by decide +kernel
theorem at_181_133 : j_at 181 133 = some (.aload_n 1, 0, 0, 0) := by decide +kernel
theorem at_181_134 : j_at 181 134 = some (.getfield 203, 11, 2, 0) := by decide +kernel
theorem at_181_137 : j_at 181 137 = some (.iload 6, 0, 0, 0) := by decide +kernel
theorem at_181_139 : j_at 181 139 = some (.aload_n 1, 0, 0, 0) := by decide +kernel
theorem at_181_140 : j_at 181 140 = some (.getfield 235, 11, 5, 0) := by decide +kernel
theorem at_181_143 : j_at 181 143 = some (.iload 6, 0, 0, 0) := by decide +kernel
theorem at_181_145 : j_at 181 145 = some (.laload, 0, 0, 0) := by decide +kernel
theorem at_181_146 : j_at 181 146 = some (.lastore, 0, 0, 0) := by decide +kernel
theorem at_181_147 : j_at 181 147 = some (.iinc 6 1, 0, 0, 0) := by decide +kernel
theorem at_181_150 : j_at 181 150 = some (.goto (-26), 124, 0, 0) := by decide +kernel
theorem at_181_153 : j_at 181 153 = some (.aload_n 1, 0, 0, 0) := by decide +kernel
theorem at_181_154 : j_at 181 154 = some (.lload 4, 0, 0, 0) := by decide +kernel
theorem at_181_156 : j_at 181 156 = some (.putfield 197, 11, 13, 0) := by decide +kernel
theorem at_181_159 : j_at 181 159 = some (.aload_n 1, 0, 0, 0) := by decide +kernel
theorem at_181_160 : j_at 181 160 = some (.getfield 181, 11, 6, 0) := by decide +kernel
theorem at_181_163 : j_at 181 163 = some (.iload_n 2, 0, 0, 0) := by decide +kernel
theorem at_181_164 : j_at 181 164 = some (.iaload, 0, 0, 0) := by decide +kernel
theorem at_181_165 : j_at 181 165 = some (.istore 6, 0, 0, 0) := by decide +kernel
theorem at_181_167 : j_at 181 167 = some (.aload_n 1, 0, 0, 0) := by decide +kernel
theorem at_181_168 : j_at 181 168 = some (.getfield 181, 11, 6, 0) := by decide +kernel
theorem at_181_171 : j_at 181 171 = some (.iload_n 2, 0, 0, 0) := by decide +kernel
theorem at_181_172 : j_at 181 172 = some (.aload_n 1, 0, 0, 0) := by decide +kernel
theorem at_181_173 : j_at 181 173 = some (.getfield 206, 11, 7, 0) := by decide +kernel
theorem at_181_176 : j_at 181 176 = some (.iload_n 3, 0, 0, 0) := by decide +kernel
theorem at_181_177 : j_at 181 177 = some (.iaload, 0, 0, 0) := by decide +kernel
theorem at_181_178 : j_at 181 178 = some (.iastore, 0, 0, 0) := by decide +kernel
theorem at_181_179 : j_at 181 179 = some (.aload_n 1, 0, 0, 0) := by decide +kernel
theorem at_181_180 : j_at 181 180 = some (.getfield 206, 11, 7, 0) := by decide +kernel
theorem at_181_183 : j_at 181 183 = some (.iload_n 3, 0, 0, 0) := by decide +kernel
theorem at_181_184 : j_at 181 184 = some (.iload 6, 0, 0, 0) := by decide +kernel
theorem at_181_186 : j_at 181 186 = some (.iastore, 0, 0, 0) := by decide +kernel
theorem at_181_187 : j_at 181 187 = some (.aload_n 1, 0, 0, 0) := by decide +kernel
theorem at_181_188 : j_at 181 188 = some (.dup, 0, 0, 0) := by decide +kernel
theorem at_181_189 : j_at 181 189 = some (.getfield 190, 11, 17, 0) := by decide +kernel
theorem at_181_192 : j_at 181 192 = some (.iconst 1, 0, 0, 1) := by decide +kernel
theorem at_181_193 : j_at 181 193 = some (.iadd, 0, 0, 0) := by decide +kernel
theorem at_181_194 : j_at 181 194 = some (.putfield 190, 11, 17, 0) := by decide +kernel
theorem at_181_197 : j_at 181 197 = some (.iconst 1, 0, 0, 1) := by decide +kernel
theorem at_181_198 : j_at 181 198 = some (.ireturn, 0, 0, 0) := by decide +kernel
theorem at_182_0 : j_at 182 0 = some (.iconst (-1), 0, 0, -1) := by decide +kernel
theorem at_182_1 : j_at 182 1 = some (.istore_n 3, 0, 0, 0) := by decide +kernel
theorem at_182_2 : j_at 182 2 = some (.iconst 0, 0, 0, 0) := by decide +kernel
theorem at_182_3 : j_at 182 3 = some (.istore 4, 0, 0, 0) := by decide +kernel
theorem at_182_5 : j_at 182 5 = some (.iload 4, 0, 0, 0) := by decide +kernel
theorem at_182_7 : j_at 182 7 = some (.aload_n 1, 0, 0, 0) := by decide +kernel
theorem at_182_8 : j_at 182 8 = some (.getfield 172, 11, 14, 0) := by decide +kernel
theorem at_182_11 : j_at 182 11 = some (.if_icmp .ge 107, 118, 0, 0) := by decide +kernel
theorem at_182_14 : j_at 182 14 = some (.aload_n 1, 0, 0, 0) := by decide +kernel
theorem at_182_15 : j_at 182 15 = some (.getfield 175, 11, 0, 0) := by decide +kernel
theorem at_182_18 : j_at 182 18 = some (.iconst 5, 0, 0, 5) := by decide +kernel
theorem at_182_19 : j_at 182 19 = some (.iload_n 2, 0, 0, 0) := by decide +kernel
theorem at_182_20 : j_at 182 20 = some (.imul, 0, 0, 0) := by decide +kernel
theorem at_182_21 : j_at 182 21 = some (.iload 4, 0, 0, 0) := by decide +kernel
theorem at_182_23 : j_at 182 23 = some (.iadd, 0, 0, 0) := by decide +kernel
theorem at_182_24 : j_at 182 24 = some (.laload, 0, 0, 0) := by decide +kernel
theorem at_182_25 : j_at 182 25 = some (.lneg, 0, 0, 0) := by decide +kernel
theorem at_182_26 : j_at 182 26 = some (.lstore 5, 0, 0, 0) := by decide +kernel
theorem at_182_28 : j_at 182 28 = some (.lload 5, 0, 0, 0) := by decide +kernel
theorem at_182_30 : j_at 182 30 = some (.lconst 0, 0, 0, 0) := by decide +kernel
theorem at_182_31 : j_at 182 31 = some (.lcmp, 0, 0, 0) := by decide +kernel
theorem at_182_32 : j_at 182 32 = some (.ifCond .gt 6, 38, 0, 0) := by decide +kernel
theorem at_182_35 : j_at 182 35 = some (.goto 77, 112, 0, 0) := by decide +kernel
theorem at_182_38 : j_at 182 38 = some (.iload_n 3, 0, 0, 0) := by decide +kernel
theorem at_182_39 : j_at 182 39 = some (.ifCond .ge 9, 48, 0, 0) := by decide +kernel
theorem at_182_42 : j_at 182 42 = some (.ldc2_w 242, 0, 0, -1) := by decide +kernel
theorem at_182_45 : j_at 182 45 = some (.goto 32, 77, 0, 0) := by decide +kernel
theorem at_182_48 : j_at 182 48 = some (.aload_n 1, 0, 0, 0) := by decide +kernel
theorem at_182_49 : j_at 182 49 = some (.getfield 203, 11, 2, 0) := by decide +kernel
theorem at_182_52 : j_at 182 52 = some (.iload 4, 0, 0, 0) := by decide +kernel
theorem at_182_54 : j_at 182 54 = some (.laload, 0, 0, 0) := by decide +kernel
theorem at_182_55 : j_at 182 55 = some (.aload_n 1, 0, 0, 0) := by decide +kernel
theorem at_182_56 : j_at 182 56 = some (.getfield 175, 11, 0, 0) := by decide +kernel
theorem at_182_59 : j_at 182 59 = some (.iconst 5, 0, 0, 5) := by decide +kernel
theorem at_182_60 : j_at 182 60 = some (.iload_n 2, 0, 0, 0) := by decide +kernel
theorem at_182_61 : j_at 182 61 = some (.imul, 0, 0, 0) := by decide +kernel
theorem at_182_62 : j_at 182 62 = some (.iload_n 3, 0, 0, 0) := by decide +kernel
theorem at_182_63 : j_at 182 63 = some (.iadd, 0, 0, 0) := by decide +kernel
theorem at_182_64 : j_at 182 64 = some (.laload, 0, 0, 0) := by decide +kernel
theorem at_182_65 : j_at 182 65 = some (.lneg, 0, 0, 0) := by decide +kernel
theorem at_182_66 : j_at 182 66 = some (.lmul, 0, 0, 0) := by decide +kernel
theorem at_182_67 : j_at 182 67 = some (.aload_n 1, 0, 0, 0) := by decide +kernel
theorem at_182_68 : j_at 182 68 = some (.getfield 203, 11, 2, 0) := by decide +kernel
theorem at_182_71 : j_at 182 71 = some (.iload_n 3, 0, 0, 0) := by decide +kernel
theorem at_182_72 : j_at 182 72 = some (.laload, 0, 0, 0) := by decide +kernel
theorem at_182_73 : j_at 182 73 = some (.lload 5, 0, 0, 0) := by decide +kernel
theorem at_182_75 : j_at 182 75 = some (.lmul, 0, 0, 0) := by decide +kernel
theorem at_182_76 : j_at 182 76 = some (.lsub, 0, 0, 0) := by decide +kernel
theorem at_182_77 : j_at 182 77 = some (.lstore 7, 0, 0, 0) := by decide +kernel
theorem at_182_79 : j_at 182 79 = some (.lload 7, 0, 0, 0) := by decide +kernel
theorem at_182_81 : j_at 182 81 = some (.lconst 0, 0, 0, 0) := by decide +kernel
theorem at_182_82 : j_at 182 82 = some (.lcmp, 0, 0, 0) := by decide +kernel
theorem at_182_83 : j_at 182 83 = some (.ifCond .lt 26, 109, 0, 0) := by decide +kernel
theorem at_182_86 : j_at 182 86 = some (.lload 7, 0, 0, 0) := by decide +kernel
theorem at_182_88 : j_at 182 88 = some (.lconst 0, 0, 0, 0) := by decide +kernel
theorem at_182_89 : j_at 182 89 = some (.lcmp, 0, 0, 0) := by decide +kernel
theorem at_182_90 : j_at 182 90 = some (.ifCond .ne 22, 112, 0, 0) := by decide +kernel
theorem at_182_93 : j_at 182 93 = some (.aload_n 1, 0, 0, 0) := by decide +kernel
theorem at_182_94 : j_at 182 94 = some (.getfield 206, 11, 7, 0) := by decide +kernel
theorem at_182_97 : j_at 182 97 = some (.iload 4, 0, 0, 0) := by decide +kernel
theorem at_182_99 : j_at 182 99 = some (.iaload, 0, 0, 0) := by decide +kernel
theorem at_182_100 : j_at 182 100 = some (.aload_n 1, 0, 0, 0) := by decide +kernel
theorem at_182_101 : j_at 182 101 = some (.getfield 206, 11, 7, 0) := by decide +kernel
theorem at_182_104 : j_at 182 104 = some (.iload_n 3, 0, 0, 0) := by decide +kernel
theorem at_182_105 : j_at 182 105 = some (.iaload, 0, 0, 0) := by decide +kernel
theorem at_182_106 : j_at 182 106 = some (.if_icmp .ge 6, 112, 0, 0) := by decide +kernel
theorem at_182_109 : j_at 182 109 = some (.iload 4, 0, 0, 0) := by decide +kernel
theorem at_182_111 : j_at 182 111 = some (.istore_n 3, 0, 0, 0) := by decide +kernel
theorem at_182_112 : j_at 182 112 = some (.iinc 4 1, 0, 0, 0) := by decide +kernel
theorem at_182_115 : j_at 182 115 = some (.goto (-110), 5, 0, 0) := by decide +kernel
theorem at_182_118 : j_at 182 118 = some (.iload_n 3, 0, 0, 0) := by decide +kernel
theorem at_182_119 : j_at 182 119 = some (.ireturn, 0, 0, 0) := by decide +kernel
theorem at_183_0 : j_at 183 0 = some (.iconst (-1), 0, 0, -1) := by decide +kernel
theorem at_183_1 : j_at 183 1 = some (.istore_n 2, 0, 0, 0) := by decide +kernel
theorem at_183_2 : j_at 183 2 = some (.iconst 0, 0, 0, 0) := by decide +kernel
theorem at_183_3 : j_at 183 3 = some (.istore_n 3, 0, 0, 0) := by decide +kernel
theorem at_183_4 : j_at 183 4 = some (.iload_n 3, 0, 0, 0) := by decide +kernel
theorem at_183_5 : j_at 183 5 = some (.aload_n 1, 0, 0, 0) := by decide +kernel
theorem at_183_6 : j_at 183 6 = some (.getfield 178, 11, 15, 0) := by decide +kernel
theorem at_183_9 : j_at 183 9 = some (.if_icmp .ge 42, 51, 0, 0) := by decide +kernel
theorem at_183_12 : j_at 183 12 = some (.aload_n 1, 0, 0, 0) := by decide +kernel
theorem at_183_13 : j_at 183 13 = some (.getfield 184, 11, 1, 0) := by decide +kernel
theorem at_183_16 : j_at 183 16 = some (.iload_n 3, 0, 0, 0) := by decide +kernel
theorem at_183_17 : j_at 183 17 = some (.laload, 0, 0, 0) := by decide +kernel
theorem at_183_18 : j_at 183 18 = some (.lconst 0, 0, 0, 0) := by decide +kernel
theorem at_183_19 : j_at 183 19 = some (.lcmp, 0, 0, 0) := by decide +kernel
theorem at_183_20 : j_at 183 20 = some (.ifCond .ge 25, 45, 0, 0) := by decide +kernel
theorem at_183_23 : j_at 183 23 = some (.iload_n 2, 0, 0, 0) := by decide +kernel
theorem at_183_24 : j_at 183 24 = some (.ifCond .lt 19, 43, 0, 0) := by decide +kernel
theorem at_183_27 : j_at 183 27 = some (.aload_n 1, 0, 0, 0) := by decide +kernel
theorem at_183_28 : j_at 183 28 = some (.getfield 184, 11, 1, 0) := by decide +kernel
theorem at_183_31 : j_at 183 31 = some (.iload_n 3, 0, 0, 0) := by decide +kernel
theorem at_183_32 : j_at 183 32 = some (.laload, 0, 0, 0) := by decide +kernel
theorem at_183_33 : j_at 183 33 = some (.aload_n 1, 0, 0, 0) := by decide +kernel
theorem at_183_34 : j_at 183 34 = some (.getfield 184, 11, 1, 0) := by decide +kernel
theorem at_183_37 : j_at 183 37 = some (.iload_n 2, 0, 0, 0) := by decide +kernel
theorem at_183_38 : j_at 183 38 = some (.laload, 0, 0, 0) := by decide +kernel
theorem at_183_39 : j_at 183 39 = some (.lcmp, 0, 0, 0) := by decide +kernel
theorem at_183_40 : j_at 183 40 = some (.ifCond .ge 5, 45, 0, 0) := by decide +kernel
theorem at_183_43 : j_at 183 43 = some (.iload_n 3, 0, 0, 0) := by decide +kernel
theorem at_183_44 : j_at 183 44 = some (.istore_n 2, 0, 0, 0) := by decide +kernel
theorem at_183_45 : j_at 183 45 = some (.iinc 3 1, 0, 0, 0) := by decide +kernel
theorem at_183_48 : j_at 183 48 = some (.goto (-44), 4, 0, 0) := by decide +kernel
theorem at_183_51 : j_at 183 51 = some (.iload_n 2, 0, 0, 0) := by decide +kernel
theorem at_183_52 : j_at 183 52 = some (.ifCond .ge 5, 57, 0, 0) := by decide +kernel
theorem at_183_55 : j_at 183 55 = some (.iconst 1, 0, 0, 1) := by decide +kernel
theorem at_183_56 : j_at 183 56 = some (.ireturn, 0, 0, 0) := by decide +kernel
theorem at_183_57 : j_at 183 57 = some (.aload_n 0, 0, 0, 0) := by decide +kernel
theorem at_183_58 : j_at 183 58 = some (.aload_n 1, 0, 0, 0) := by decide +kernel
theorem at_183_59 : j_at 183 59 = some (.iload_n 2, 0, 0, 0) := by decide +kernel
theorem at_183_60 : j_at 183 60 = some (.invokevirtual 244, 182, 2, 0) := by decide +kernel
theorem at_183_63 : j_at 183 63 = some (.istore_n 3, 0, 0, 0) := by decide +kernel
theorem at_183_64 : j_at 183 64 = some (.iload_n 3, 0, 0, 0) := by decide +kernel
theorem at_183_65 : j_at 183 65 = some (.ifCond .ge 5, 70, 0, 0) := by decide +kernel
theorem at_183_68 : j_at 183 68 = some (.iconst 0, 0, 0, 0) := by decide +kernel
theorem at_183_69 : j_at 183 69 = some (.ireturn, 0, 0, 0) := by decide +kernel
theorem at_183_70 : j_at 183 70 = some (.aload_n 1, 0, 0, 0) := by decide +kernel
theorem at_183_71 : j_at 183 71 = some (.getfield 190, 11, 17, 0) := by decide +kernel
theorem at_183_74 : j_at 183 74 = some (.bipush 60, 0, 0, 60) := by decide +kernel
theorem at_183_76 : j_at 183 76 = some (.if_icmp .eq 13, 89, 0, 0) := by decide +kernel
theorem at_183_79 : j_at 183 79 = some (.aload_n 0, 0, 0, 0) := by decide +kernel
theorem at_183_80 : j_at 183 80 = some (.aload_n 1, 0, 0, 0) := by decide +kernel
theorem at_183_81 : j_at 183 81 = some (.iload_n 2, 0, 0, 0) := by decide +kernel
theorem at_183_82 : j_at 183 82 = some (.iload_n 3, 0, 0, 0) := by decide +kernel
theorem at_183_83 : j_at 183 83 = some (.invokevirtual 248, 181, 3, 0) := by decide +kernel
theorem at_183_86 : j_at 183 86 = some (.ifCond .ne 6, 92, 0, 0) := by decide +kernel
theorem at_183_89 : j_at 183 89 = some (.bipush (-6), 0, 0, -6) := by decide +kernel
theorem at_183_91 : j_at 183 91 = some (.ireturn, 0, 0, 0) := by decide +kernel
theorem at_183_92 : j_at 183 92 = some (.goto (-92), 0, 0, 0) := by decide +kernel
theorem at_184_0 : j_at 184 0 = some (.iconst 0, 0, 0, 0) := by decide +kernel
theorem at_184_1 : j_at 184 1 = some (.istore_n 3, 0, 0, 0) := by decide +kernel
theorem at_184_2 : j_at 184 2 = some (.iload_n 3, 0, 0, 0) := by decide +kernel
theorem at_184_3 : j_at 184 3 = some (.aload_n 1, 0, 0, 0) := by decide +kernel
theorem at_184_4 : j_at 184 4 = some (.getfield 178, 11, 15, 0) := by decide +kernel
theorem at_184_7 : j_at 184 7 = some (.if_icmp .ge 21, 28, 0, 0) := by decide +kernel
theorem at_184_10 : j_at 184 10 = some (.aload_n 1, 0, 0, 0) := by decide +kernel
theorem at_184_11 : j_at 184 11 = some (.getfield 181, 11, 6, 0) := by decide +kernel
theorem at_184_14 : j_at 184 14 = some (.iload_n 3, 0, 0, 0) := by decide +kernel
theorem at_184_15 : j_at 184 15 = some (.iaload, 0, 0, 0) := by decide +kernel
theorem at_184_16 : j_at 184 16 = some (.iload_n 2, 0, 0, 0) := by decide +kernel
theorem at_184_17 : j_at 184 17 = some (.if_icmp .ne 5, 22, 0, 0) := by decide +kernel
theorem at_184_20 : j_at 184 20 = some (.iload_n 3, 0, 0, 0) := by decide +kernel
theorem at_184_21 : j_at 184 21 = some (.ireturn, 0, 0, 0) := by decide +kernel
theorem at_184_22 : j_at 184 22 = some (.iinc 3 1, 0, 0, 0) := by decide +kernel
theorem at_184_25 : j_at 184 25 = some (.goto (-23), 2, 0, 0) := by decide +kernel
theorem at_184_28 : j_at 184 28 = some (.iconst (-1), 0, 0, -1) := by decide +kernel
theorem at_184_29 : j_at 184 29 = some (.ireturn, 0, 0, 0) := by decide +kernel
theorem at_185_0 : j_at 185 0 = some (.iconst 0, 0, 0, 0) := by decide +kernel
theorem at_185_1 : j_at 185 1 = some (.istore_n 2, 0, 0, 0) := by decide +kernel
theorem at_185_2 : j_at 185 2 = some (.iload_n 2, 0, 0, 0) := by decide +kernel
theorem at_185_3 : j_at 185 3 = some (.aload_n 1, 0, 0, 0) := by decide +kernel
theorem at_185_4 : j_at 185 4 = some (.getfield 178, 11, 15, 0) := by decide +kernel
theorem at_185_7 : j_at 185 7 = some (.if_icmp .ge 38, 45, 0, 0) := by decide +kernel
theorem at_185_10 : j_at 185 10 = some (.aload_n 1, 0, 0, 0) := by decide +kernel
theorem at_185_11 : j_at 185 11 = some (.getfield 181, 11, 6, 0) := by decide +kernel
theorem at_185_14 : j_at 185 14 = some (.iload_n 2, 0, 0, 0) := by decide +kernel
theorem at_185_15 : j_at 185 15 = some (.iaload, 0, 0, 0) := by decide +kernel
theorem at_185_16 : j_at 185 16 = some (.bipush 10, 0, 0, 10) := by decide +kernel
theorem at_185_18 : j_at 185 18 = some (.if_icmp .ge 21, 39, 0, 0) := by decide +kernel
theorem at_185_21 : j_at 185 21 = some (.aload_n 1, 0, 0, 0) := by decide +kernel
theorem at_185_22 : j_at 185 22 = some (.getfield 184, 11, 1, 0) := by decide +kernel
theorem at_185_25 : j_at 185 25 = some (.iload_n 2, 0, 0, 0) := by decide +kernel
theorem at_185_26 : j_at 185 26 = some (.laload, 0, 0, 0) := by decide +kernel
theorem at_185_27 : j_at 185 27 = some (.aload_n 1, 0, 0, 0) := by decide +kernel
theorem at_185_28 : j_at 185 28 = some (.getfield 197, 11, 13, 0) := by decide +kernel
theorem at_185_31 : j_at 185 31 = some (.lrem, 0, 0, 0) := by decide +kernel
theorem at_185_32 : j_at 185 32 = some (.lconst 0, 0, 0, 0) := by decide +kernel
theorem at_185_33 : j_at 185 33 = some (.lcmp, 0, 0, 0) := by decide +kernel
theorem at_185_34 : j_at 185 34 = some (.ifCond .eq 5, 39, 0, 0) := by decide +kernel
theorem at_185_37 : j_at 185 37 = some (.iload_n 2, 0, 0, 0) := by decide +kernel
theorem at_185_38 : j_at 185 38 = some (.ireturn, 0, 0, 0) := by decide +kernel
theorem at_185_39 : j_at 185 39 = some (.iinc 2 1, 0, 0, 0) := by decide +kernel
theorem at_185_42 : j_at 185 42 = some (.goto (-40), 2, 0, 0) := by decide +kernel
theorem at_185_45 : j_at 185 45 = some (.iconst (-1), 0, 0, -1) := by decide +kernel
theorem at_185_46 : j_at 185 46 = some (.ireturn, 0, 0, 0) := by decide +kernel
theorem at_186_0 : j_at 186 0 = some (.iload_n 2, 0, 0, 0) := by decide +kernel
theorem at_186_1 : j_at 186 1 = some (.bipush 20, 0, 0, 20) := by decide +kernel
theorem at_186_3 : j_at 186 3 = some (.if_icmp .ge 15, 18, 0, 0) := by decide +kernel
theorem at_186_6 : j_at 186 6 = some (.aload_n 0, 0, 0, 0) := by decide +kernel
theorem at_186_7 : j_at 186 7 = some (.iload_n 2, 0, 0, 0) := by decide +kernel
theorem at_186_8 : j_at 186 8 = some (.bipush 10, 0, 0, 10) := by decide +kernel
theorem at_186_10 : j_at 186 10 = some (.isub, 0, 0, 0) := by decide +kernel
theorem at_186_11 : j_at 186 11 = some (.iload_n 3, 0, 0, 0) := by decide +kernel
theorem at_186_12 : j_at 186 12 = some (.invokevirtual 217, 157, 2, 0) := by decide +kernel
theorem at_186_15 : j_at 186 15 = some (.goto 16, 31, 0, 0) := by decide +kernel
theorem at_186_18 : j_at 186 18 = some (.aload_n 1, 0, 0, 0) := by decide +kernel
theorem at_186_19 : j_at 186 19 = some (.getfield 250, 11, 8, 0) := by decide +kernel
theorem at_186_22 : j_at 186 22 = some (.iconst 5, 0, 0, 5) := by decide +kernel
theorem at_186_23 : j_at 186 23 = some (.iload_n 2, 0, 0, 0) := by decide +kernel
theorem at_186_24 : j_at 186 24 = some (.bipush 20, 0, 0, 20) := by decide +kernel
theorem at_186_26 : j_at 186 26 = some (.isub, 0, 0, 0) := by decide +kernel
theorem at_186_27 : j_at 186 27 = some (.imul, 0, 0, 0) := by decide +kernel
theorem at_186_28 : j_at 186 28 = some (.iload_n 3, 0, 0, 0) := by decide +kernel
theorem at_186_29 : j_at 186 29 = some (.iadd, 0, 0, 0) := by decide +kernel
theorem at_186_30 : j_at 186 30 = some (.laload, 0, 0, 0) := by decide +kernel
theorem at_186_31 : j_at 186 31 = some (.lreturn, 0, 0, 0) := by decide +kernel
theorem at_187_0 : j_at 187 0 = some (.iload_n 2, 0, 0, 0) := by decide +kernel
theorem at_187_1 : j_at 187 1 = some (.bipush 20, 0, 0, 20) := by decide +kernel
theorem at_187_3 : j_at 187 3 = some (.if_icmp .ge 14, 17, 0, 0) := by decide +kernel
theorem at_187_6 : j_at 187 6 = some (.aload_n 0, 0, 0, 0) := by decide +kernel
theorem at_187_7 : j_at 187 7 = some (.iload_n 2, 0, 0, 0) := by decide +kernel
theorem at_187_8 : j_at 187 8 = some (.bipush 10, 0, 0, 10) := by decide +kernel
theorem at_187_10 : j_at 187 10 = some (.isub, 0, 0, 0) := by decide +kernel
theorem at_187_11 : j_at 187 11 = some (.invokevirtual 209, 158, 1, 0) := by decide +kernel
theorem at_187_14 : j_at 187 14 = some (.goto 12, 26, 0, 0) := by decide +kernel
theorem at_187_17 : j_at 187 17 = some (.aload_n 1, 0, 0, 0) := by decide +kernel
theorem at_187_18 : j_at 187 18 = some (.getfield 253, 11, 9, 0) := by decide +kernel
theorem at_187_21 : j_at 187 21 = some (.iload_n 2, 0, 0, 0) := by decide +kernel
theorem at_187_22 : j_at 187 22 = some (.bipush 20, 0, 0, 20) := by decide +kernel
theorem at_187_24 : j_at 187 24 = some (.isub, 0, 0, 0) := by decide +kernel
theorem at_187_25 : j_at 187 25 = some (.laload, 0, 0, 0) := by decide +kernel
theorem at_187_26 : j_at 187 26 = some (.lreturn, 0, 0, 0) := by decide +kernel
theorem at_188_0 : j_at 188 0 = some (.aload_n 1, 0, 0, 0) := by decide +kernel
theorem at_188_1 : j_at 188 1 = some (.getfield 187, 11, 16, 0) := by decide +kernel
theorem at_188_4 : j_at 188 4 = some (.istore_n 3, 0, 0, 0) := by decide +kernel
theorem at_188_5 : j_at 188 5 = some (.iconst 1, 0, 0, 1) := by decide +kernel
theorem at_188_6 : j_at 188 6 = some (.istore 4, 0, 0, 0) := by decide +kernel
theorem at_188_8 : j_at 188 8 = some (.iconst 0, 0, 0, 0) := by decide +kernel
theorem at_188_9 : j_at 188 9 = some (.istore 5, 0, 0, 0) := by decide +kernel
theorem at_188_11 : j_at 188 11 = some (.iload 5, 0, 0, 0) := by decide +kernel
theorem at_188_13 : j_at 188 13 = some (.aload_n 1, 0, 0, 0) := by decide +kernel
theorem at_188_14 : j_at 188 14 = some (.getfield 172, 11, 14, 0) := by decide +kernel
theorem at_188_17 : j_at 188 17 = some (.if_icmp .ge 144, 161, 0, 0) := by decide +kernel
theorem at_188_20 : j_at 188 20 = some (.aload_n 1, 0, 0, 0) := by decide +kernel
theorem at_188_21 : j_at 188 21 = some (.getfield 181, 11, 6, 0) := by decide +kernel
theorem at_188_24 : j_at 188 24 = some (.iload_n 2, 0, 0, 0) := by decide +kernel
theorem at_188_25 : j_at 188 25 = some (.iaload, 0, 0, 0) := by decide +kernel
theorem at_188_26 : j_at 188 26 = some (.iload 5, 0, 0, 0) := by decide +kernel
theorem at_188_28 : j_at 188 28 = some (.if_icmp .ne 7, 35, 0, 0) := by decide +kernel
theorem at_188_31 : j_at 188 31 = some (.lconst 1, 0, 0, 1) := by decide +kernel
theorem at_188_32 : j_at 188 32 = some (.goto 4, 36, 0, 0) := by decide +kernel
theorem at_188_35 : j_at 188 35 = some (.lconst 0, 0, 0, 0) := by decide +kernel
theorem at_188_36 : j_at 188 36 = some (.lstore 6, 0, 0, 0) := by decide +kernel
theorem at_188_38 : j_at 188 38 = some (.iconst 0, 0, 0, 0) := by decide +kernel
theorem at_188_39 : j_at 188 39 = some (.istore 8, 0, 0, 0) := by decide +kernel
theorem at_188_41 : j_at 188 41 = some (.iload 8, 0, 0, 0) := by decide +kernel
theorem at_188_43 : j_at 188 43 = some (.aload_n 1, 0, 0, 0) := by decide +kernel
theorem at_188_44 : j_at 188 44 = some (.getfield 172, 11, 14, 0) := by decide +kernel
theorem at_188_47 : j_at 188 47 = some (.if_icmp .ge 85, 132, 0, 0) := by decide +kernel
theorem at_188_50 : j_at 188 50 = some (.aload_n 1, 0, 0, 0) := by decide +kernel
theorem at_188_51 : j_at 188 51 = some (.getfield 175, 11, 0, 0) := by decide +kernel
theorem at_188_54 : j_at 188 54 = some (.iconst 5, 0, 0, 5) := by decide +kernel
theorem at_188_55 : j_at 188 55 = some (.iload_n 2, 0, 0, 0) := by decide +kernel
theorem at_188_56 : j_at 188 56 = some (.imul, 0, 0, 0) := by decide +kernel
theorem at_188_57 : j_at 188 57 = some (.iload 8, 0, 0, 0) := by decide +kernel
theorem at_188_59 : j_at 188 59 = some (.iadd, 0, 0, 0) := by decide +kernel
theorem at_188_60 : j_at 188 60 = some (.laload, 0, 0, 0) := by decide +kernel
theorem at_188_61 : j_at 188 61 = some (.aload_n 1, 0, 0, 0) := by decide +kernel
theorem at_188_62 : j_at 188 62 = some (.getfield 197, 11, 13, 0) := by decide +kernel
theorem at_188_65 : j_at 188 65 = some (.invokestatic 256, 265, 2, 0) := by decide +kernel
theorem at_188_68 : j_at 188 68 = some (.lstore 9, 0, 0, 0) := by decide +kernel
theorem at_188_70 : j_at 188 70 = some (.lload 6, 0, 0, 0) := by decide +kernel
theorem at_188_72 : j_at 188 72 = some (.aload_n 1, 0, 0, 0) := by decide +kernel
theorem at_188_73 : j_at 188 73 = some (.getfield 206, 11, 7, 0) := by decide +kernel
theorem at_188_76 : j_at 188 76 = some (.iload 8, 0, 0, 0) := by decide +kernel
theorem at_188_78 : j_at 188 78 = some (.iaload, 0, 0, 0) := by decide +kernel
theorem at_188_79 : j_at 188 79 = some (.bipush 10, 0, 0, 10) := by decide +kernel
theorem at_188_81 : j_at 188 81 = some (.if_icmp .ge 24, 105, 0, 0) := by decide +kernel
theorem at_188_84 : j_at 188 84 = some (.aload_n 1, 0, 0, 0) := by decide +kernel
theorem at_188_85 : j_at 188 85 = some (.getfield 206, 11, 7, 0) := by decide +kernel
theorem at_188_88 : j_at 188 88 = some (.iload 8, 0, 0, 0) := by decide +kernel
theorem at_188_90 : j_at 188 90 = some (.iaload, 0, 0, 0) := by decide +kernel
theorem at_188_91 : j_at 188 91 = some (.iload 5, 0, 0, 0) := by decide +kernel
theorem at_188_93 : j_at 188 93 = some (.if_icmp .ne 8, 101, 0, 0) := by decide +kernel
theorem at_188_96 : j_at 188 96 = some (.lload 9, 0, 0, 0) := by decide +kernel
theorem at_188_98 : j_at 188 98 = some (.goto 25, 123, 0, 0) := by decide +kernel
theorem at_188_101 : j_at 188 101 = some (.lconst 0, 0, 0, 0) := by decide +kernel
theorem at_188_102 : j_at 188 102 = some (.goto 21, 123, 0, 0) := by decide +kernel
theorem at_188_105 : j_at 188 105 = some (.lload 9, 0, 0, 0) := by decide +kernel
theorem at_188_107 : j_at 188 107 = some (.lneg, 0, 0, 0) := by decide +kernel
theorem at_188_108 : j_at 188 108 = some (.aload_n 0, 0, 0, 0) := by decide +kernel
theorem at_188_109 : j_at 188 109 = some (.aload_n 1, 0, 0, 0) := by decide +kernel
theorem at_188_110 : j_at 188 110 = some (.aload_n 1, 0, 0, 0) := by decide +kernel
theorem at_188_111 : j_at 188 111 = some (.getfield 206, 11, 7, 0) := by decide +kernel
theorem at_188_114 : j_at 188 114 = some (.iload 8, 0, 0, 0) := by decide +kernel
theorem at_188_116 : j_at 188 116 = some (.iaload, 0, 0, 0) := by decide +kernel
theorem at_188_117 : j_at 188 117 = some (.iload 5, 0, 0, 0) := by decide +kernel
theorem at_188_119 : j_at 188 119 = some (.invokevirtual 262, 186, 3, 0) := by decide +kernel
theorem at_188_122 : j_at 188 122 = some (.lmul, 0, 0, 0) := by decide +kernel
theorem at_188_123 : j_at 188 123 = some (.ladd, 0, 0, 0) := by decide +kernel
theorem at_188_124 : j_at 188 124 = some (.lstore 6, 0, 0, 0) := by decide +kernel
theorem at_188_126 : j_at 188 126 = some (.iinc 8 1, 0, 0, 0) := by decide +kernel
theorem at_188_129 : j_at 188 129 = some (.goto (-88), 41, 0, 0) := by decide +kernel
theorem at_188_132 : j_at 188 132 = some (.aload_n 1, 0, 0, 0) := by decide +kernel
theorem at_188_133 : j_at 188 133 = some (.getfield 250, 11, 8, 0) := by decide +kernel
theorem at_188_136 : j_at 188 136 = some (.iconst 5, 0, 0, 5) := by decide +kernel
theorem at_188_137 : j_at 188 137 = some (.iload_n 3, 0, 0, 0) := by decide +kernel
theorem at_188_138 : j_at 188 138 = some (.imul, 0, 0, 0) := by decide +kernel
theorem at_188_139 : j_at 188 139 = some (.iload 5, 0, 0, 0) := by decide +kernel
theorem at_188_141 : j_at 188 141 = some (.iadd, 0, 0, 0) := by decide +kernel
theorem at_188_142 : j_at 188 142 = some (.lload 6, 0, 0, 0) := by decide +kernel
theorem at_188_144 : j_at 188 144 = some (.lastore, 0, 0, 0) := by decide +kernel
theorem at_188_145 : j_at 188 145 = some (.iload 4, 0, 0, 0) := by decide +kernel
theorem at_188_147 : j_at 188 147 = some (.lload 6, 0, 0, 0) := by decide +kernel
theorem at_188_149 : j_at 188 149 = some (.invokestatic 225, 179, 1, 0) := by decide +kernel
theorem at_188_152 : j_at 188 152 = some (.iand, 0, 0, 0) := by decide +kernel
theorem at_188_153 : j_at 188 153 = some (.istore 4, 0, 0, 0) := by decide +kernel
theorem at_188_155 : j_at 188 155 = some (.iinc 5 1, 0, 0, 0) := by decide +kernel
theorem at_188_158 : j_at 188 158 = some (.goto (-147), 11, 0, 0) := by decide +kernel
theorem at_188_161 : j_at 188 161 = some (.aload_n 1, 0, 0, 0) := by decide +kernel
theorem at_188_162 : j_at 188 162 = some (.getfield 184, 11, 1, 0) := by decide +kernel
theorem at_188_165 : j_at 188 165 = some (.iload_n 2, 0, 0, 0) := by decide +kernel
theorem at_188_166 : j_at 188 166 = some (.laload, 0, 0, 0) := by decide +kernel
theorem at_188_167 : j_at 188 167 = some (.aload_n 1, 0, 0, 0) := by decide +kernel
theorem at_188_168 : j_at 188 168 = some (.getfield 197, 11, 13, 0) := by decide +kernel
theorem at_188_171 : j_at 188 171 = some (.invokestatic 256, 265, 2, 0) := by decide +kernel
theorem at_188_174 : j_at 188 174 = some (.lstore 5, 0, 0, 0) := by decide +kernel
theorem at_188_176 : j_at 188 176 = some (.iconst 0, 0, 0, 0) := by decide +kernel
theorem at_188_177 : j_at 188 177 = some (.istore 7, 0, 0, 0) := by decide +kernel
theorem at_188_179 : j_at 188 179 = some (.iload 7, 0, 0, 0) := by decide +kernel
theorem at_188_181 : j_at 188 181 = some (.aload_n 1, 0, 0, 0) := by decide +kernel
theorem at_188_182 : j_at 188 182 = some (.getfield 172, 11, 14, 0) := by decide +kernel
theorem at_188_185 : j_at 188 185 = some (.if_icmp .ge 57, 242, 0, 0) := by decide +kernel
theorem at_188_188 : j_at 188 188 = some (.aload_n 1, 0, 0, 0) := by decide +kernel
theorem at_188_189 : j_at 188 189 = some (.getfield 206, 11, 7, 0) := by decide +kernel
theorem at_188_192 : j_at 188 192 = some (.iload 7, 0, 0, 0) := by decide +kernel
theorem at_188_194 : j_at 188 194 = some (.iaload, 0, 0, 0) := by decide +kernel
theorem at_188_195 : j_at 188 195 = some (.bipush 10, 0, 0, 10) := by decide +kernel
theorem at_188_197 : j_at 188 197 = some (.if_icmp .lt 39, 236, 0, 0) := by decide +kernel
theorem at_188_200 : j_at 188 200 = some (.lload 5, 0, 0, 0) := by decide +kernel
theorem at_188_202 : j_at 188 202 = some (.aload_n 1, 0, 0, 0) := by decide +kernel
theorem at_188_203 : j_at 188 203 = some (.getfield 175, 11, 0, 0) := by decide +kernel
theorem at_188_206 : j_at 188 206 = some (.iconst 5, 0, 0, 5) := by decide +kernel
theorem at_188_207 : j_at 188 207 = some (.iload_n 2, 0, 0, 0) := by decide +kernel
theorem at_188_208 : j_at 188 208 = some (.imul, 0, 0, 0) := by decide +kernel
theorem at_188_209 : j_at 188 209 = some (.iload 7, 0, 0, 0) := by decide +kernel
theorem at_188_211 : j_at 188 211 = some (.iadd, 0, 0, 0) := by decide +kernel
theorem at_188_212 : j_at 188 212 = some (.laload, 0, 0, 0) := by decide +kernel
theorem at_188_213 : j_at 188 213 = some (.aload_n 1, 0, 0, 0) := by decide +kernel
theorem at_188_214 : j_at 188 214 = some (.getfield 197, 11, 13, 0) := by decide +kernel
theorem at_188_217 : j_at 188 217 = some (.invokestatic 256, 265, 2, 0) := by decide +kernel
theorem at_188_220 : j_at 188 220 = some (.aload_n 0, 0, 0, 0) := by decide +kernel
theorem at_188_221 : j_at 188 221 = some (.aload_n 1, 0, 0, 0) := by decide +kernel
theorem at_188_222 : j_at 188 222 = some (.aload_n 1, 0, 0, 0) := by decide +kernel
theorem at_188_223 : j_at 188 223 = some (.getfield 206, 11, 7, 0) := by decide +kernel
theorem at_188_226 : j_at 188 226 = some (.iload 7, 0, 0, 0) := by decide +kernel
theorem at_188_228 : j_at 188 228 = some (.iaload, 0, 0, 0) := by decide +kernel
theorem at_188_229 : j_at 188 229 = some (.invokevirtual 266, 187, 2, 0) := by decide +kernel
theorem at_188_232 : j_at 188 232 = some (.lmul, 0, 0, 0) := by decide +kernel
theorem at_188_233 : j_at 188 233 = some (.lsub, 0, 0, 0) := by decide +kernel
theorem at_188_234 : j_at 188 234 = some (.lstore 5, 0, 0, 0) := by decide +kernel
theorem at_188_236 : j_at 188 236 = some (.iinc 7 1, 0, 0, 0) := by decide +kernel
theorem at_188_239 : j_at 188 239 = some (.goto (-60), 179, 0, 0) := by decide +kernel
theorem at_188_242 : j_at 188 242 = some (.aload_n 1, 0, 0, 0) := by decide +kernel
theorem at_188_243 : j_at 188 243 = some (.getfield 253, 11, 9, 0) := by decide +kernel
theorem at_188_246 : j_at 188 246 = some (.iload_n 3, 0, 0, 0) := by decide +kernel
theorem at_188_247 : j_at 188 247 = some (.lload 5, 0, 0, 0) := by decide +kernel
theorem at_188_249 : j_at 188 249 = some (.lastore, 0, 0, 0) := by decide +kernel
theorem at_188_250 : j_at 188 250 = some (.iload 4, 0, 0, 0) := by decide +kernel
theorem at_188_252 : j_at 188 252 = some (.ifCond .eq 15, 267, 0, 0) := by decide +kernel
theorem at_188_255 : j_at 188 255 = some (.lload 5, 0, 0, 0) := by decide +kernel
theorem at_188_257 : j_at 188 257 = some (.invokestatic 225, 179, 1, 0) := by decide +kernel
theorem at_188_260 : j_at 188 260 = some (.ifCond .eq 7, 267, 0, 0) := by decide +kernel
theorem at_188_263 : j_at 188 263 = some (.iconst 1, 0, 0, 1) := by decide +kernel
theorem at_188_264 : j_at 188 264 = some (.goto 4, 268, 0, 0) := by decide +kernel
theorem at_188_267 : j_at 188 267 = some (.iconst 0, 0, 0, 0) := by decide +kernel
theorem at_188_268 : j_at 188 268 = some (.ireturn, 0, 0, 0) := by decide +kernel
theorem at_189_0 : j_at 189 0 = some (.aload_n 0, 0, 0, 0) := by decide +kernel
theorem at_189_1 : j_at 189 1 = some (.aload_n 1, 0, 0, 0) := by decide +kernel
theorem at_189_2 : j_at 189 2 = some (.iload_n 2, 0, 0, 0) := by decide +kernel
theorem at_189_3 : j_at 189 3 = some (.invokevirtual 270, 188, 2, 0) := by decide +kernel
theorem at_189_6 : j_at 189 6 = some (.ifCond .ne 5, 11, 0, 0) := by decide +kernel
theorem at_189_9 : j_at 189 9 = some (.iconst 0, 0, 0, 0) := by decide +kernel
theorem at_189_10 : j_at 189 10 = some (.ireturn, 0, 0, 0) := by decide +kernel
theorem at_189_11 : j_at 189 11 = some (.aload_n 1, 0, 0, 0) := by decide +kernel
theorem at_189_12 : j_at 189 12 = some (.getfield 187, 11, 16, 0) := by decide +kernel
theorem at_189_15 : j_at 189 15 = some (.istore_n 3, 0, 0, 0) := by decide +kernel
theorem at_189_16 : j_at 189 16 = some (.iconst 0, 0, 0, 0) := by decide +kernel
theorem at_189_17 : j_at 189 17 = some (.istore 4, 0, 0, 0) := by decide +kernel
theorem at_189_19 : j_at 189 19 = some (.iload 4, 0, 0, 0) := by decide +kernel
theorem at_189_21 : j_at 189 21 = some (.bipush 20, 0, 0, 20) := by decide +kernel
theorem at_189_23 : j_at 189 23 = some (.if_icmp .ge 22, 45, 0, 0) := by decide +kernel
theorem at_189_26 : j_at 189 26 = some (.aload_n 1, 0, 0, 0) := by decide +kernel
theorem at_189_27 : j_at 189 27 = some (.getfield 274, 11, 10, 0) := by decide +kernel
theorem at_189_30 : j_at 189 30 = some (.bipush 20, 0, 0, 20) := by decide +kernel
theorem at_189_32 : j_at 189 32 = some (.iload_n 3, 0, 0, 0) := by decide +kernel
theorem at_189_33 : j_at 189 33 = some (.imul, 0, 0, 0) := by decide +kernel
theorem at_189_34 : j_at 189 34 = some (.iload 4, 0, 0, 0) := by decide +kernel
theorem at_189_36 : j_at 189 36 = some (.iadd, 0, 0, 0) := by decide +kernel
theorem at_189_37 : j_at 189 37 = some (.lconst 0, 0, 0, 0) := by decide +kernel
theorem at_189_38 : j_at 189 38 = some (.lastore, 0, 0, 0) := by decide +kernel
theorem at_189_39 : j_at 189 39 = some (.iinc 4 1, 0, 0, 0) := by decide +kernel
theorem at_189_42 : j_at 189 42 = some (.goto (-23), 19, 0, 0) := by decide +kernel
theorem at_189_45 : j_at 189 45 = some (.aload_n 1, 0, 0, 0) := by decide +kernel
theorem at_189_46 : j_at 189 46 = some (.getfield 277, 11, 11, 0) := by decide +kernel
theorem at_189_49 : j_at 189 49 = some (.iload_n 3, 0, 0, 0) := by decide +kernel
theorem at_189_50 : j_at 189 50 = some (.aload_n 1, 0, 0, 0) := by decide +kernel
theorem at_189_51 : j_at 189 51 = some (.getfield 197, 11, 13, 0) := by decide +kernel
theorem at_189_54 : j_at 189 54 = some (.lastore, 0, 0, 0) := by decide +kernel
theorem at_189_55 : j_at 189 55 = some (.aload_n 0, 0, 0, 0) := by decide +kernel
theorem at_189_56 : j_at 189 56 = some (.aload_n 1, 0, 0, 0) := by decide +kernel
theorem at_189_57 : j_at 189 57 = some (.bipush 20, 0, 0, 20) := by decide +kernel
theorem at_189_59 : j_at 189 59 = some (.iload_n 3, 0, 0, 0) := by decide +kernel
theorem at_189_60 : j_at 189 60 = some (.iadd, 0, 0, 0) := by decide +kernel
theorem at_189_61 : j_at 189 61 = some (.aload_n 1, 0, 0, 0) := by decide +kernel
theorem at_189_62 : j_at 189 62 = some (.getfield 184, 11, 1, 0) := by decide +kernel
theorem at_189_65 : j_at 189 65 = some (.iload_n 2, 0, 0, 0) := by decide +kernel
theorem at_189_66 : j_at 189 66 = some (.laload, 0, 0, 0) := by decide +kernel
theorem at_189_67 : j_at 189 67 = some (.aload_n 1, 0, 0, 0) := by decide +kernel
theorem at_189_68 : j_at 189 68 = some (.getfield 197, 11, 13, 0) := by decide +kernel
theorem at_189_71 : j_at 189 71 = some (.invokestatic 280, 266, 2, 0) := by decide +kernel
theorem at_189_74 : j_at 189 74 = some (.lneg, 0, 0, 0) := by decide +kernel
theorem at_189_75 : j_at 189 75 = some (.invokevirtual 213, 177, 3, 0) := by decide +kernel
theorem at_189_78 : j_at 189 78 = some (.iconst 0, 0, 0, 0) := by decide +kernel
theorem at_189_79 : j_at 189 79 = some (.istore 4, 0, 0, 0) := by decide +kernel
theorem at_189_81 : j_at 189 81 = some (.iload 4, 0, 0, 0) := by decide +kernel
theorem at_189_83 : j_at 189 83 = some (.aload_n 1, 0, 0, 0) := by decide +kernel
theorem at_189_84 : j_at 189 84 = some (.getfield 172, 11, 14, 0) := by decide +kernel
theorem at_189_87 : j_at 189 87 = some (.if_icmp .ge 82, 169, 0, 0) := by decide +kernel
theorem at_189_90 : j_at 189 90 = some (.aload_n 1, 0, 0, 0) := by decide +kernel
theorem at_189_91 : j_at 189 91 = some (.getfield 175, 11, 0, 0) := by decide +kernel
theorem at_189_94 : j_at 189 94 = some (.iconst 5, 0, 0, 5) := by decide +kernel
theorem at_189_95 : j_at 189 95 = some (.iload_n 2, 0, 0, 0) := by decide +kernel
theorem at_189_96 : j_at 189 96 = some (.imul, 0, 0, 0) := by decide +kernel
theorem at_189_97 : j_at 189 97 = some (.iload 4, 0, 0, 0) := by decide +kernel
theorem at_189_99 : j_at 189 99 = some (.iadd, 0, 0, 0) := by decide +kernel
theorem at_189_100 : j_at 189 100 = some (.laload, 0, 0, 0) := by decide +kernel
theorem at_189_101 : j_at 189 101 = some (.aload_n 1, 0, 0, 0) := by decide +kernel
theorem at_189_102 : j_at 189 102 = some (.getfield 197, 11, 13, 0) := by decide +kernel
theorem at_189_105 : j_at 189 105 = some (.invokestatic 280, 266, 2, 0) := by decide +kernel
theorem at_189_108 : j_at 189 108 = some (.lstore 5, 0, 0, 0) := by decide +kernel
theorem at_189_110 : j_at 189 110 = some (.aload_n 1, 0, 0, 0) := by decide +kernel
theorem at_189_111 : j_at 189 111 = some (.getfield 175, 11, 0, 0) := by decide +kernel
theorem at_189_114 : j_at 189 114 = some (.iconst 5, 0, 0, 5) := by decide +kernel
theorem at_189_115 : j_at 189 115 = some (.aload_n 1, 0, 0, 0) := by decide +kernel
theorem at_189_116 : j_at 189 116 = some (.getfield 178, 11, 15, 0) := by decide +kernel
theorem at_189_119 : j_at 189 119 = some (.iconst 1, 0, 0, 1) := by decide +kernel
theorem at_189_120 : j_at 189 120 = some (.isub, 0, 0, 0) := by decide +kernel
theorem at_189_121 : j_at 189 121 = some (.imul, 0, 0, 0) := by decide +kernel
theorem at_189_122 : j_at 189 122 = some (.iload 4, 0, 0, 0) := by decide +kernel
theorem at_189_124 : j_at 189 124 = some (.iadd, 0, 0, 0) := by decide +kernel
theorem at_189_125 : j_at 189 125 = some (.lload 5, 0, 0, 0) := by decide +kernel
theorem at_189_127 : j_at 189 127 = some (.lneg, 0, 0, 0) := by decide +kernel
theorem at_189_128 : j_at 189 128 = some (.lastore, 0, 0, 0) := by decide +kernel
theorem at_189_129 : j_at 189 129 = some (.aload_n 1, 0, 0, 0) := by decide +kernel
theorem at_189_130 : j_at 189 130 = some (.getfield 206, 11, 7, 0) := by decide +kernel
theorem at_189_133 : j_at 189 133 = some (.iload 4, 0, 0, 0) := by decide +kernel
theorem at_189_135 : j_at 189 135 = some (.iaload, 0, 0, 0) := by decide +kernel
theorem at_189_136 : j_at 189 136 = some (.bipush 10, 0, 0, 10) := by decide +kernel
theorem at_189_138 : j_at 189 138 = some (.if_icmp .lt 25, 163, 0, 0) := by decide +kernel
theorem at_189_141 : j_at 189 141 = some (.aload_n 1, 0, 0, 0) := by decide +kernel
theorem at_189_142 : j_at 189 142 = some (.getfield 274, 11, 10, 0) := by decide +kernel
theorem at_189_145 : j_at 189 145 = some (.bipush 20, 0, 0, 20) := by decide +kernel
theorem at_189_147 : j_at 189 147 = some (.iload_n 3, 0, 0, 0) := by decide +kernel
theorem at_189_148 : j_at 189 148 = some (.imul, 0, 0, 0) := by decide +kernel
theorem at_189_149 : j_at 189 149 = some (.aload_n 1, 0, 0, 0) := by decide +kernel
theorem at_189_150 : j_at 189 150 = some (.getfield 206, 11, 7, 0) := by decide +kernel
theorem at_189_153 : j_at 189 153 = some (.iload 4, 0, 0, 0) := by decide +kernel
theorem at_189_155 : j_at 189 155 = some (.iaload, 0, 0, 0) := by decide +kernel
theorem at_189_156 : j_at 189 156 = some (.invokestatic 283, 190, 1, 0) := by decide +kernel
theorem at_189_159 : j_at 189 159 = some (.iadd, 0, 0, 0) := by decide +kernel
theorem at_189_160 : j_at 189 160 = some (.lload 5, 0, 0, 0) := by decide +kernel
theorem at_189_162 : j_at 189 162 = some (.lastore, 0, 0, 0) := by decide +kernel
theorem at_189_163 : j_at 189 163 = some (.iinc 4 1, 0, 0, 0) := by decide +kernel
theorem at_189_166 : j_at 189 166 = some (.goto (-85), 81, 0, 0) := by decide +kernel
theorem at_189_169 : j_at 189 169 = some (.aload_n 1, 0, 0, 0) := by decide +kernel
theorem at_189_170 : j_at 189 170 = some (.dup, 0, 0, 0) := by decide +kernel
theorem at_189_171 : j_at 189 171 = some (.getfield 187, 11, 16, 0) := by decide +kernel
theorem at_189_174 : j_at 189 174 = some (.iconst 1, 0, 0, 1) := by decide +kernel
theorem at_189_175 : j_at 189 175 = some (.iadd, 0, 0, 0) := by decide +kernel
theorem at_189_176 : j_at 189 176 = some (.putfield 187, 11, 16, 0) := by decide +kernel
theorem at_189_179 : j_at 189 179 = some (.iconst 1, 0, 0, 1) := by decide +kernel
theorem at_189_180 : j_at 189 180 = some (.ireturn, 0, 0, 0) := by decide +kernel
theorem at_190_0 : j_at 190 0 = some (.iload_n 0, 0, 0, 0) := by decide +kernel
theorem at_190_1 : j_at 190 1 = some (.bipush 20, 0, 0, 20) := by decide +kernel
theorem at_190_3 : j_at 190 3 = some (.if_icmp .ge 10, 13, 0, 0) := by decide +kernel
theorem at_190_6 : j_at 190 6 = some (.iload_n 0, 0, 0, 0) := by decide +kernel
theorem at_190_7 : j_at 190 7 = some (.bipush 10, 0, 0, 10) := by decide +kernel
theorem at_190_9 : j_at 190 9 = some (.isub, 0, 0, 0) := by decide +kernel
theorem at_190_10 : j_at 190 10 = some (.goto 10, 20, 0, 0) := by decide +kernel
theorem at_190_13 : j_at 190 13 = some (.bipush 8, 0, 0, 8) := by decide +kernel
theorem at_190_15 : j_at 190 15 = some (.iload_n 0, 0, 0, 0) := by decide +kernel
theorem at_190_16 : j_at 190 16 = some (.iadd, 0, 0, 0) := by decide +kernel
theorem at_190_17 : j_at 190 17 = some (.bipush 20, 0, 0, 20) := by decide +kernel
theorem at_190_19 : j_at 190 19 = some (.isub, 0, 0, 0) := by decide +kernel
theorem at_190_20 : j_at 190 20 = some (.ireturn, 0, 0, 0) := by decide +kernel
theorem at_191_0 : j_at 191 0 = some (.aload_n 0, 0, 0, 0) := by decide +kernel
theorem at_191_1 : j_at 191 1 = some (.aload_n 1, 0, 0, 0) := by decide +kernel
theorem at_191_2 : j_at 191 2 = some (.invokevirtual 286, 178, 1, 0) := by decide +kernel
theorem at_191_5 : j_at 191 5 = some (.aload_n 0, 0, 0, 0) := by decide +kernel
theorem at_191_6 : j_at 191 6 = some (.aload_n 1, 0, 0, 0) := by decide +kernel
theorem at_191_7 : j_at 191 7 = some (.invokevirtual 290, 183, 1, 0) := by decide +kernel
theorem at_191_10 : j_at 191 10 = some (.istore_n 3, 0, 0, 0) := by decide +kernel
theorem at_191_11 : j_at 191 11 = some (.iload_n 3, 0, 0, 0) := by decide +kernel
theorem at_191_12 : j_at 191 12 = some (.iconst 1, 0, 0, 1) := by decide +kernel
theorem at_191_13 : j_at 191 13 = some (.if_icmp .ne 67, 80, 0, 0) := by decide +kernel
theorem at_191_16 : j_at 191 16 = some (.aload_n 0, 0, 0, 0) := by decide +kernel
theorem at_191_17 : j_at 191 17 = some (.aload_n 1, 0, 0, 0) := by decide +kernel
theorem at_191_18 : j_at 191 18 = some (.invokevirtual 294, 185, 1, 0) := by decide +kernel
theorem at_191_21 : j_at 191 21 = some (.istore 4, 0, 0, 0) := by decide +kernel
theorem at_191_23 : j_at 191 23 = some (.aload_n 1, 0, 0, 0) := by decide +kernel
theorem at_191_24 : j_at 191 24 = some (.iload 4, 0, 0, 0) := by decide +kernel
theorem at_191_26 : j_at 191 26 = some (.ifCond .ge 7, 33, 0, 0) := by decide +kernel
theorem at_191_29 : j_at 191 29 = some (.iconst 1, 0, 0, 1) := by decide +kernel
theorem at_191_30 : j_at 191 30 = some (.goto 4, 34, 0, 0) := by decide +kernel
theorem at_191_33 : j_at 191 33 = some (.iconst 0, 0, 0, 0) := by decide +kernel
theorem at_191_34 : j_at 191 34 = some (.putfield 200, 11, 19, 0) := by decide +kernel
theorem at_191_37 : j_at 191 37 = some (.aload_n 1, 0, 0, 0) := by decide +kernel
theorem at_191_38 : j_at 191 38 = some (.getfield 200, 11, 19, 0) := by decide +kernel
theorem at_191_41 : j_at 191 41 = some (.ifCond .eq 5, 46, 0, 0) := by decide +kernel
theorem at_191_44 : j_at 191 44 = some (.iconst 1, 0, 0, 1) := by decide +kernel
theorem at_191_45 : j_at 191 45 = some (.ireturn, 0, 0, 0) := by decide +kernel
theorem at_191_46 : j_at 191 46 = some (.aload_n 1, 0, 0, 0) := by decide +kernel
theorem at_191_47 : j_at 191 47 = some (.getfield 187, 11, 16, 0) := by decide +kernel
theorem at_191_50 : j_at 191 50 = some (.iload_n 2, 0, 0, 0) := by decide +kernel
theorem at_191_51 : j_at 191 51 = some (.if_icmp .ne 5, 56, 0, 0) := by decide +kernel
theorem at_191_54 : j_at 191 54 = some (.iconst 2, 0, 0, 2) := by decide +kernel
theorem at_191_55 : j_at 191 55 = some (.ireturn, 0, 0, 0) := by decide +kernel
theorem at_191_56 : j_at 191 56 = some (.aload_n 0, 0, 0, 0) := by decide +kernel
theorem at_191_57 : j_at 191 57 = some (.aload_n 1, 0, 0, 0) := by decide +kernel
theorem at_191_58 : j_at 191 58 = some (.iload 4, 0, 0, 0) := by decide +kernel
theorem at_191_60 : j_at 191 60 = some (.invokevirtual 297, 189, 2, 0) := by decide +kernel
theorem at_191_63 : j_at 191 63 = some (.ifCond .eq 11, 74, 0, 0) := by decide +kernel
theorem at_191_66 : j_at 191 66 = some (.aload_n 0, 0, 0, 0) := by decide +kernel
theorem at_191_67 : j_at 191 67 = some (.aload_n 1, 0, 0, 0) := by decide +kernel
theorem at_191_68 : j_at 191 68 = some (.invokevirtual 290, 183, 1, 0) := by decide +kernel
theorem at_191_71 : j_at 191 71 = some (.goto 5, 76, 0, 0) := by decide +kernel
theorem at_191_74 : j_at 191 74 = some (.bipush (-6), 0, 0, -6) := by decide +kernel
theorem at_191_76 : j_at 191 76 = some (.istore_n 3, 0, 0, 0) := by decide +kernel
theorem at_191_77 : j_at 191 77 = some (.goto (-66), 11, 0, 0) := by decide +kernel
theorem at_191_80 : j_at 191 80 = some (.iload_n 3, 0, 0, 0) := by decide +kernel
theorem at_191_81 : j_at 191 81 = some (.ireturn, 0, 0, 0) := by decide +kernel
theorem at_192_0 : j_at 192 0 = some (.aload_n 0, 0, 0, 0) := by decide +kernel
theorem at_192_1 : j_at 192 1 = some (.aload_n 0, 0, 0, 0) := by decide +kernel
theorem at_192_2 : j_at 192 2 = some (.getfield 34, 12, 10, 0) := by decide +kernel
theorem at_192_5 : j_at 192 5 = some (.bipush 12, 0, 0, 12) := by decide +kernel
theorem at_192_7 : j_at 192 7 = some (.invokevirtual 299, 191, 2, 0) := by decide +kernel
theorem at_192_10 : j_at 192 10 = some (.istore_n 1, 0, 0, 0) := by decide +kernel
theorem at_192_11 : j_at 192 11 = some (.iload_n 1, 0, 0, 0) := by decide +kernel
theorem at_192_12 : j_at 192 12 = some (.iconst 1, 0, 0, 1) := by decide +kernel
theorem at_192_13 : j_at 192 13 = some (.if_icmp .ne 22, 35, 0, 0) := by decide +kernel
theorem at_192_16 : j_at 192 16 = some (.aload_n 0, 0, 0, 0) := by decide +kernel
theorem at_192_17 : j_at 192 17 = some (.getfield 34, 12, 10, 0) := by decide +kernel
theorem at_192_20 : j_at 192 20 = some (.getfield 193, 11, 12, 0) := by decide +kernel
theorem at_192_23 : j_at 192 23 = some (.aload_n 0, 0, 0, 0) := by decide +kernel
theorem at_192_24 : j_at 192 24 = some (.getfield 34, 12, 10, 0) := by decide +kernel
theorem at_192_27 : j_at 192 27 = some (.getfield 197, 11, 13, 0) := by decide +kernel
theorem at_192_30 : j_at 192 30 = some (.ldiv, 0, 0, 0) := by decide +kernel
theorem at_192_31 : j_at 192 31 = some (.l2i, 0, 0, 0) := by decide +kernel
theorem at_192_32 : j_at 192 32 = some (.goto 14, 46, 0, 0) := by decide +kernel
theorem at_192_35 : j_at 192 35 = some (.iload_n 1, 0, 0, 0) := by decide +kernel
theorem at_192_36 : j_at 192 36 = some (.ifCond .ne 8, 44, 0, 0) := by decide +kernel
theorem at_192_39 : j_at 192 39 = some (.bipush (-5), 0, 0, -5) := by decide +kernel
theorem at_192_41 : j_at 192 41 = some (.goto 5, 46, 0, 0) := by decide +kernel
theorem at_192_44 : j_at 192 44 = some (.bipush (-6), 0, 0, -6) := by decide +kernel
theorem at_192_46 : j_at 192 46 = some (.ireturn, 0, 0, 0) := by decide +kernel
theorem at_193_0 : j_at 193 0 = some (.iload_n 1, 0, 0, 0) := by decide +kernel
theorem at_193_1 : j_at 193 1 = some (.i2l, 0, 0, 0) := by decide +kernel
theorem at_193_2 : j_at 193 2 = some (.lconst 0, 0, 0, 0) := by decide +kernel
theorem at_193_3 : j_at 193 3 = some (.ldc2_w 302, 0, 0, 12) := by decide +kernel
theorem at_193_6 : j_at 193 6 = some (.invokestatic 93, 150, 3, 0) := by decide +kernel
theorem at_193_9 : j_at 193 9 = some (.ifCond .eq 15, 24, 0, 0) := by decide +kernel
theorem at_193_12 : j_at 193 12 = some (.aload_n 0, 0, 0, 0) := by decide +kernel
theorem at_193_13 : j_at 193 13 = some (.aload_n 0, 0, 0, 0) := by decide +kernel
theorem at_193_14 : j_at 193 14 = some (.getfield 30, 12, 9, 0) := by decide +kernel
theorem at_193_17 : j_at 193 17 = some (.iload_n 1, 0, 0, 0) := by decide +kernel
theorem at_193_18 : j_at 193 18 = some (.invokevirtual 299, 191, 2, 0) := by decide +kernel
theorem at_193_21 : j_at 193 21 = some (.goto 5, 26, 0, 0) := by decide +kernel
theorem at_193_24 : j_at 193 24 = some (.bipush (-2), 0, 0, -2) := by decide +kernel
theorem at_193_26 : j_at 193 26 = some (.ireturn, 0, 0, 0) := by decide +kernel
theorem at_194_0 : j_at 194 0 = some (.aload_n 0, 0, 0, 0) := by decide +kernel
theorem at_194_1 : j_at 194 1 = some (.getfield 30, 12, 9, 0) := by decide +kernel
theorem at_194_4 : j_at 194 4 = some (.getfield 85, 11, 18, 0) := by decide +kernel
theorem at_194_7 : j_at 194 7 = some (.ifCond .eq 56, 63, 0, 0) := by decide +kernel
theorem at_194_10 : j_at 194 10 = some (.iload_n 1, 0, 0, 0) := by decide +kernel
theorem at_194_11 : j_at 194 11 = some (.i2l, 0, 0, 0) := by decide +kernel
theorem at_194_12 : j_at 194 12 = some (.ldc2_w 304, 0, 0, -2) := by decide +kernel
theorem at_194_15 : j_at 194 15 = some (.aload_n 0, 0, 0, 0) := by decide +kernel
theorem at_194_16 : j_at 194 16 = some (.getfield 30, 12, 9, 0) := by decide +kernel
theorem at_194_19 : j_at 194 19 = some (.getfield 178, 11, 15, 0) := by decide +kernel
theorem at_194_22 : j_at 194 22 = some (.iconst 1, 0, 0, 1) := by decide +kernel
theorem at_194_23 : j_at 194 23 = some (.isub, 0, 0, 0) := by decide +kernel
theorem at_194_24 : j_at 194 24 = some (.i2l, 0, 0, 0) := by decide +kernel
theorem at_194_25 : j_at 194 25 = some (.invokestatic 93, 150, 3, 0) := by decide +kernel
theorem at_194_28 : j_at 194 28 = some (.ifCond .eq 35, 63, 0, 0) := by decide +kernel
theorem at_194_31 : j_at 194 31 = some (.iload_n 2, 0, 0, 0) := by decide +kernel
theorem at_194_32 : j_at 194 32 = some (.i2l, 0, 0, 0) := by decide +kernel
theorem at_194_33 : j_at 194 33 = some (.lconst 0, 0, 0, 0) := by decide +kernel
theorem at_194_34 : j_at 194 34 = some (.iload_n 1, 0, 0, 0) := by decide +kernel
theorem at_194_35 : j_at 194 35 = some (.bipush (-2), 0, 0, -2) := by decide +kernel
theorem at_194_37 : j_at 194 37 = some (.if_icmp .ne 13, 50, 0, 0) := by decide +kernel
theorem at_194_40 : j_at 194 40 = some (.aload_n 0, 0, 0, 0) := by decide +kernel
theorem at_194_41 : j_at 194 41 = some (.invokevirtual 89, 151, 0, 0) := by decide +kernel
theorem at_194_44 : j_at 194 44 = some (.iconst 1, 0, 0, 1) := by decide +kernel
theorem at_194_45 : j_at 194 45 = some (.isub, 0, 0, 0) := by decide +kernel
theorem at_194_46 : j_at 194 46 = some (.i2l, 0, 0, 0) := by decide +kernel
theorem at_194_47 : j_at 194 47 = some (.goto 10, 57, 0, 0) := by decide +kernel
theorem at_194_50 : j_at 194 50 = some (.aload_n 0, 0, 0, 0) := by decide +kernel
theorem at_194_51 : j_at 194 51 = some (.invokevirtual 89, 151, 0, 0) := by decide +kernel
theorem at_194_54 : j_at 194 54 = some (.iconst 1, 0, 0, 1) := by decide +kernel
theorem at_194_55 : j_at 194 55 = some (.iadd, 0, 0, 0) := by decide +kernel
theorem at_194_56 : j_at 194 56 = some (.i2l, 0, 0, 0) := by decide +kernel
theorem at_194_57 : j_at 194 57 = some (.invokestatic 93, 150, 3, 0) := by decide +kernel
theorem at_194_60 : j_at 194 60 = some (.ifCond .ne 7, 67, 0, 0) := by decide +kernel
theorem at_194_63 : j_at 194 63 = some (.ldc2_w 306, 0, 0, -9223372036854775808) := by decide +kernel
theorem at_194_66 : j_at 194 66 = some (.lreturn, 0, 0, 0) := by decide +kernel
theorem at_194_67 : j_at 194 67 = some (.iload_n 2, 0, 0, 0) := by decide +kernel
theorem at_194_68 : j_at 194 68 = some (.aload_n 0, 0, 0, 0) := by decide +kernel
theorem at_194_69 : j_at 194 69 = some (.invokevirtual 89, 151, 0, 0) := by decide +kernel
theorem at_194_72 : j_at 194 72 = some (.if_icmp .ne 27, 99, 0, 0) := by decide +kernel
theorem at_194_75 : j_at 194 75 = some (.iload_n 1, 0, 0, 0) := by decide +kernel
theorem at_194_76 : j_at 194 76 = some (.ifCond .ge 13, 89, 0, 0) := by decide +kernel
theorem at_194_79 : j_at 194 79 = some (.aload_n 0, 0, 0, 0) := by decide +kernel
theorem at_194_80 : j_at 194 80 = some (.getfield 30, 12, 9, 0) := by decide +kernel
theorem at_194_83 : j_at 194 83 = some (.getfield 193, 11, 12, 0) := by decide +kernel
theorem at_194_86 : j_at 194 86 = some (.goto 12, 98, 0, 0) := by decide +kernel
theorem at_194_89 : j_at 194 89 = some (.aload_n 0, 0, 0, 0) := by decide +kernel
theorem at_194_90 : j_at 194 90 = some (.getfield 30, 12, 9, 0) := by decide +kernel
theorem at_194_93 : j_at 194 93 = some (.getfield 184, 11, 1, 0) := by decide +kernel
theorem at_194_96 : j_at 194 96 = some (.iload_n 1, 0, 0, 0) := by decide +kernel
theorem at_194_97 : j_at 194 97 = some (.laload, 0, 0, 0) := by decide +kernel
theorem at_194_98 : j_at 194 98 = some (.lreturn, 0, 0, 0) := by decide +kernel
theorem at_194_99 : j_at 194 99 = some (.iload_n 2, 0, 0, 0) := by decide +kernel
theorem at_194_100 : j_at 194 100 = some (.aload_n 0, 0, 0, 0) := by decide +kernel
theorem at_194_101 : j_at 194 101 = some (.invokevirtual 89, 151, 0, 0) := by decide +kernel
theorem at_194_104 : j_at 194 104 = some (.if_icmp .le 28, 132, 0, 0) := by decide +kernel
theorem at_194_107 : j_at 194 107 = some (.iload_n 1, 0, 0, 0) := by decide +kernel
theorem at_194_108 : j_at 194 108 = some (.ifCond .ge 13, 121, 0, 0) := by decide +kernel
theorem at_194_111 : j_at 194 111 = some (.aload_n 0, 0, 0, 0) := by decide +kernel
theorem at_194_112 : j_at 194 112 = some (.getfield 30, 12, 9, 0) := by decide +kernel
theorem at_194_115 : j_at 194 115 = some (.getfield 197, 11, 13, 0) := by decide +kernel
theorem at_194_118 : j_at 194 118 = some (.goto 13, 131, 0, 0) := by decide +kernel
theorem at_194_121 : j_at 194 121 = some (.aload_n 0, 0, 0, 0) := by decide +kernel
theorem at_194_122 : j_at 194 122 = some (.getfield 30, 12, 9, 0) := by decide +kernel
theorem at_194_125 : j_at 194 125 = some (.getfield 181, 11, 6, 0) := by decide +kernel
theorem at_194_128 : j_at 194 128 = some (.iload_n 1, 0, 0, 0) := by decide +kernel
theorem at_194_129 : j_at 194 129 = some (.iaload, 0, 0, 0) := by decide +kernel
theorem at_194_130 : j_at 194 130 = some (.i2l, 0, 0, 0) := by decide +kernel
theorem at_194_131 : j_at 194 131 = some (.lreturn, 0, 0, 0) := by decide +kernel
theorem at_194_132 : j_at 194 132 = some (.iload_n 1, 0, 0, 0) := by decide +kernel
theorem at_194_133 : j_at 194 133 = some (.bipush (-2), 0, 0, -2) := by decide +kernel
theorem at_194_135 : j_at 194 135 = some (.if_icmp .ne 16, 151, 0, 0) := by decide +kernel
theorem at_194_138 : j_at 194 138 = some (.aload_n 0, 0, 0, 0) := by decide +kernel
theorem at_194_139 : j_at 194 139 = some (.getfield 30, 12, 9, 0) := by decide +kernel
theorem at_194_142 : j_at 194 142 = some (.getfield 206, 11, 7, 0) := by decide +kernel
theorem at_194_145 : j_at 194 145 = some (.iload_n 2, 0, 0, 0) := by decide +kernel
theorem at_194_146 : j_at 194 146 = some (.iaload, 0, 0, 0) := by decide +kernel
theorem at_194_147 : j_at 194 147 = some (.i2l, 0, 0, 0) := by decide +kernel
theorem at_194_148 : j_at 194 148 = some (.goto 33, 181, 0, 0) := by decide +kernel
theorem at_194_151 : j_at 194 151 = some (.iload_n 1, 0, 0, 0) := by decide +kernel
theorem at_194_152 : j_at 194 152 = some (.iconst (-1), 0, 0, -1) := by decide +kernel
theorem at_194_153 : j_at 194 153 = some (.if_icmp .ne 15, 168, 0, 0) := by decide +kernel
theorem at_194_156 : j_at 194 156 = some (.aload_n 0, 0, 0, 0) := by decide +kernel
theorem at_194_157 : j_at 194 157 = some (.getfield 30, 12, 9, 0) := by decide +kernel
theorem at_194_160 : j_at 194 160 = some (.getfield 203, 11, 2, 0) := by decide +kernel
theorem at_194_163 : j_at 194 163 = some (.iload_n 2, 0, 0, 0) := by decide +kernel
theorem at_194_164 : j_at 194 164 = some (.laload, 0, 0, 0) := by decide +kernel
theorem at_194_165 : j_at 194 165 = some (.goto 16, 181, 0, 0) := by decide +kernel
theorem at_194_168 : j_at 194 168 = some (.aload_n 0, 0, 0, 0) := by decide +kernel
theorem at_194_169 : j_at 194 169 = some (.getfield 30, 12, 9, 0) := by decide +kernel
theorem at_194_172 : j_at 194 172 = some (.getfield 175, 11, 0, 0) := by decide +kernel
theorem at_194_175 : j_at 194 175 = some (.iconst 5, 0, 0, 5) := by decide +kernel
theorem at_194_176 : j_at 194 176 = some (.iload_n 1, 0, 0, 0) := by decide +kernel
theorem at_194_177 : j_at 194 177 = some (.imul, 0, 0, 0) := by decide +kernel
theorem at_194_178 : j_at 194 178 = some (.iload_n 2, 0, 0, 0) := by decide +kernel
theorem at_194_179 : j_at 194 179 = some (.iadd, 0, 0, 0) := by decide +kernel
theorem at_194_180 : j_at 194 180 = some (.laload, 0, 0, 0) := by decide +kernel
theorem at_194_181 : j_at 194 181 = some (.lreturn, 0, 0, 0) := by decide +kernel
theorem at_195_0 : j_at 195 0 = some (.lload_n 0, 0, 0, 0) := by decide +kernel
theorem at_195_1 : j_at 195 1 = some (.lconst 0, 0, 0, 0) := by decide +kernel
theorem at_195_2 : j_at 195 2 = some (.lcmp, 0, 0, 0) := by decide +kernel
theorem at_195_3 : j_at 195 3 = some (.ifCond .ge 8, 11, 0, 0) := by decide +kernel
theorem at_195_6 : j_at 195 6 = some (.lload_n 0, 0, 0, 0) := by decide +kernel
theorem at_195_7 : j_at 195 7 = some (.lneg, 0, 0, 0) := by decide +kernel
theorem at_195_8 : j_at 195 8 = some (.goto 4, 12, 0, 0) := by decide +kernel
theorem at_195_11 : j_at 195 11 = some (.lload_n 0, 0, 0, 0) := by decide +kernel
theorem at_195_12 : j_at 195 12 = some (.lstore 5, 0, 0, 0) := by decide +kernel
theorem at_195_14 : j_at 195 14 = some (.lload_n 2, 0, 0, 0) := by decide +kernel
theorem at_195_15 : j_at 195 15 = some (.lstore 7, 0, 0, 0) := by decide +kernel
theorem at_195_17 : j_at 195 17 = some (.lload 7, 0, 0, 0) := by decide +kernel
theorem at_195_19 : j_at 195 19 = some (.lconst 0, 0, 0, 0) := by decide +kernel
theorem at_195_20 : j_at 195 20 = some (.lcmp, 0, 0, 0) := by decide +kernel
theorem at_195_21 : j_at 195 21 = some (.ifCond .eq 21, 42, 0, 0) := by decide +kernel
theorem at_195_24 : j_at 195 24 = some (.lload 5, 0, 0, 0) := by decide +kernel
theorem at_195_26 : j_at 195 26 = some (.lload 7, 0, 0, 0) := by decide +kernel
theorem at_195_28 : j_at 195 28 = some (.lrem, 0, 0, 0) := by decide +kernel
theorem at_195_29 : j_at 195 29 = some (.lstore 9, 0, 0, 0) := by decide +kernel
theorem at_195_31 : j_at 195 31 = some (.lload 7, 0, 0, 0) := by decide +kernel
theorem at_195_33 : j_at 195 33 = some (.lstore 5, 0, 0, 0) := by decide +kernel
theorem at_195_35 : j_at 195 35 = some (.lload 9, 0, 0, 0) := by decide +kernel
theorem at_195_37 : j_at 195 37 = some (.lstore 7, 0, 0, 0) := by decide +kernel
theorem at_195_39 : j_at 195 39 = some (.goto (-22), 17, 0, 0) := by decide +kernel
theorem at_195_42 : j_at 195 42 = some (.iload 4, 0, 0, 0) := by decide +kernel
theorem at_195_44 : j_at 195 44 = some (.ifCond .ne 10, 54, 0, 0) := by decide +kernel
theorem at_195_47 : j_at 195 47 = some (.lload_n 0, 0, 0, 0) := by decide +kernel
theorem at_195_48 : j_at 195 48 = some (.lload 5, 0, 0, 0) := by decide +kernel
theorem at_195_50 : j_at 195 50 = some (.ldiv, 0, 0, 0) := by decide +kernel
theorem at_195_51 : j_at 195 51 = some (.goto 7, 58, 0, 0) := by decide +kernel
theorem at_195_54 : j_at 195 54 = some (.lload_n 2, 0, 0, 0) := by decide +kernel
theorem at_195_55 : j_at 195 55 = some (.lload 5, 0, 0, 0) := by decide +kernel
theorem at_195_57 : j_at 195 57 = some (.ldiv, 0, 0, 0) := by decide +kernel
theorem at_195_58 : j_at 195 58 = some (.lreturn, 0, 0, 0) := by decide +kernel
theorem at_196_0 : j_at 196 0 = some (.iload_n 0, 0, 0, 0) := by decide +kernel
theorem at_196_1 : j_at 196 1 = some (.i2l, 0, 0, 0) := by decide +kernel
theorem at_196_2 : j_at 196 2 = some (.lconst 0, 0, 0, 0) := by decide +kernel
theorem at_196_3 : j_at 196 3 = some (.lconst 1, 0, 0, 1) := by decide +kernel
theorem at_196_4 : j_at 196 4 = some (.invokestatic 93, 150, 3, 0) := by decide +kernel
theorem at_196_7 : j_at 196 7 = some (.ireturn, 0, 0, 0) := by decide +kernel
theorem at_197_0 : j_at 197 0 = some (.aload_n 0, 0, 0, 0) := by decide +kernel
theorem at_197_1 : j_at 197 1 = some (.aload_n 1, 0, 0, 0) := by decide +kernel
theorem at_197_2 : j_at 197 2 = some (.iload_n 2, 0, 0, 0) := by decide +kernel
theorem at_197_3 : j_at 197 3 = some (.invokevirtual 308, 184, 2, 0) := by decide +kernel
theorem at_197_6 : j_at 197 6 = some (.istore_n 3, 0, 0, 0) := by decide +kernel
theorem at_197_7 : j_at 197 7 = some (.iload_n 3, 0, 0, 0) := by decide +kernel
theorem at_197_8 : j_at 197 8 = some (.ifCond .ge 7, 15, 0, 0) := by decide +kernel
theorem at_197_11 : j_at 197 11 = some (.lconst 0, 0, 0, 0) := by decide +kernel
theorem at_197_12 : j_at 197 12 = some (.goto 9, 21, 0, 0) := by decide +kernel
theorem at_197_15 : j_at 197 15 = some (.aload_n 1, 0, 0, 0) := by decide +kernel
theorem at_197_16 : j_at 197 16 = some (.getfield 184, 11, 1, 0) := by decide +kernel
theorem at_197_19 : j_at 197 19 = some (.iload_n 3, 0, 0, 0) := by decide +kernel
theorem at_197_20 : j_at 197 20 = some (.laload, 0, 0, 0) := by decide +kernel
theorem at_197_21 : j_at 197 21 = some (.lreturn, 0, 0, 0) := by decide +kernel
theorem at_198_0 : j_at 198 0 = some (.aload_n 0, 0, 0, 0) := by decide +kernel
theorem at_198_1 : j_at 198 1 = some (.getfield 30, 12, 9, 0) := by decide +kernel
theorem at_198_4 : j_at 198 4 = some (.getfield 85, 11, 18, 0) := by decide +kernel
theorem at_198_7 : j_at 198 7 = some (.ifCond .eq 41, 48, 0, 0) := by decide +kernel
theorem at_198_10 : j_at 198 10 = some (.aload_n 0, 0, 0, 0) := by decide +kernel
theorem at_198_11 : j_at 198 11 = some (.iload_n 1, 0, 0, 0) := by decide +kernel
theorem at_198_12 : j_at 198 12 = some (.invokevirtual 110, 152, 1, 0) := by decide +kernel
theorem at_198_15 : j_at 198 15 = some (.ifCond .eq 33, 48, 0, 0) := by decide +kernel
theorem at_198_18 : j_at 198 18 = some (.iload_n 2, 0, 0, 0) := by decide +kernel
theorem at_198_19 : j_at 198 19 = some (.invokestatic 311, 196, 1, 0) := by decide +kernel
theorem at_198_22 : j_at 198 22 = some (.ifCond .eq 26, 48, 0, 0) := by decide +kernel
theorem at_198_25 : j_at 198 25 = some (.aload_n 0, 0, 0, 0) := by decide +kernel
theorem at_198_26 : j_at 198 26 = some (.aload_n 0, 0, 0, 0) := by decide +kernel
theorem at_198_27 : j_at 198 27 = some (.getfield 30, 12, 9, 0) := by decide +kernel
theorem at_198_30 : j_at 198 30 = some (.iload_n 1, 0, 0, 0) := by decide +kernel
theorem at_198_31 : j_at 198 31 = some (.invokevirtual 314, 197, 2, 0) := by decide +kernel
theorem at_198_34 : j_at 198 34 = some (.aload_n 0, 0, 0, 0) := by decide +kernel
theorem at_198_35 : j_at 198 35 = some (.getfield 30, 12, 9, 0) := by decide +kernel
theorem at_198_38 : j_at 198 38 = some (.getfield 197, 11, 13, 0) := by decide +kernel
theorem at_198_41 : j_at 198 41 = some (.iload_n 2, 0, 0, 0) := by decide +kernel
theorem at_198_42 : j_at 198 42 = some (.invokestatic 317, 195, 3, 0) := by decide +kernel
theorem at_198_45 : j_at 198 45 = some (.goto 6, 51, 0, 0) := by decide +kernel
theorem at_198_48 : j_at 198 48 = some (.ldc2_w 306, 0, 0, -9223372036854775808) := by decide +kernel
theorem at_198_51 : j_at 198 51 = some (.lreturn, 0, 0, 0) := by decide +kernel
theorem at_199_0 : j_at 199 0 = some (.aload_n 0, 0, 0, 0) := by decide +kernel
theorem at_199_1 : j_at 199 1 = some (.getfield 30, 12, 9, 0) := by decide +kernel
theorem at_199_4 : j_at 199 4 = some (.getfield 85, 11, 18, 0) := by decide +kernel
theorem at_199_7 : j_at 199 7 = some (.ifCond .eq 31, 38, 0, 0) := by decide +kernel
theorem at_199_10 : j_at 199 10 = some (.iload_n 1, 0, 0, 0) := by decide +kernel
theorem at_199_11 : j_at 199 11 = some (.invokestatic 311, 196, 1, 0) := by decide +kernel
theorem at_199_14 : j_at 199 14 = some (.ifCond .eq 24, 38, 0, 0) := by decide +kernel
theorem at_199_17 : j_at 199 17 = some (.aload_n 0, 0, 0, 0) := by decide +kernel
theorem at_199_18 : j_at 199 18 = some (.getfield 30, 12, 9, 0) := by decide +kernel
theorem at_199_21 : j_at 199 21 = some (.getfield 193, 11, 12, 0) := by decide +kernel
theorem at_199_24 : j_at 199 24 = some (.aload_n 0, 0, 0, 0) := by decide +kernel
theorem at_199_25 : j_at 199 25 = some (.getfield 30, 12, 9, 0) := by decide +kernel
theorem at_199_28 : j_at 199 28 = some (.getfield 197, 11, 13, 0) := by decide +kernel
theorem at_199_31 : j_at 199 31 = some (.iload_n 1, 0, 0, 0) := by decide +kernel
theorem at_199_32 : j_at 199 32 = some (.invokestatic 317, 195, 3, 0) := by decide +kernel
theorem at_199_35 : j_at 199 35 = some (.goto 6, 41, 0, 0) := by decide +kernel
theorem at_199_38 : j_at 199 38 = some (.ldc2_w 306, 0, 0, -9223372036854775808) := by decide +kernel
theorem at_199_41 : j_at 199 41 = some (.lreturn, 0, 0, 0) := by decide +kernel
theorem at_200_0 : j_at 200 0 = some (.aload_n 0, 0, 0, 0) := by decide +kernel
theorem at_200_1 : j_at 200 1 = some (.getfield 30, 12, 9, 0) := by decide +kernel
theorem at_200_4 : j_at 200 4 = some (.getfield 85, 11, 18, 0) := by decide +kernel
theorem at_200_7 : j_at 200 7 = some (.ifCond .eq 18, 25, 0, 0) := by decide +kernel
theorem at_200_10 : j_at 200 10 = some (.aload_n 0, 0, 0, 0) := by decide +kernel
theorem at_200_11 : j_at 200 11 = some (.iload_n 1, 0, 0, 0) := by decide +kernel
theorem at_200_12 : j_at 200 12 = some (.invokevirtual 124, 153, 1, 0) := by decide +kernel
theorem at_200_15 : j_at 200 15 = some (.ifCond .eq 10, 25, 0, 0) := by decide +kernel
theorem at_200_18 : j_at 200 18 = some (.iload_n 2, 0, 0, 0) := by decide +kernel
theorem at_200_19 : j_at 200 19 = some (.invokestatic 311, 196, 1, 0) := by decide +kernel
theorem at_200_22 : j_at 200 22 = some (.ifCond .ne 7, 29, 0, 0) := by decide +kernel
theorem at_200_25 : j_at 200 25 = some (.ldc2_w 306, 0, 0, -9223372036854775808) := by decide +kernel
theorem at_200_28 : j_at 200 28 = some (.lreturn, 0, 0, 0) := by decide +kernel
theorem at_200_29 : j_at 200 29 = some (.iconst 0, 0, 0, 0) := by decide +kernel
theorem at_200_30 : j_at 200 30 = some (.istore_n 3, 0, 0, 0) := by decide +kernel
theorem at_200_31 : j_at 200 31 = some (.iload_n 3, 0, 0, 0) := by decide +kernel
theorem at_200_32 : j_at 200 32 = some (.aload_n 0, 0, 0, 0) := by decide +kernel
theorem at_200_33 : j_at 200 33 = some (.invokevirtual 89, 151, 0, 0) := by decide +kernel
theorem at_200_36 : j_at 200 36 = some (.if_icmp .ge 46, 82, 0, 0) := by decide +kernel
theorem at_200_39 : j_at 200 39 = some (.aload_n 0, 0, 0, 0) := by decide +kernel
theorem at_200_40 : j_at 200 40 = some (.getfield 30, 12, 9, 0) := by decide +kernel
theorem at_200_43 : j_at 200 43 = some (.getfield 206, 11, 7, 0) := by decide +kernel
theorem at_200_46 : j_at 200 46 = some (.iload_n 3, 0, 0, 0) := by decide +kernel
theorem at_200_47 : j_at 200 47 = some (.iaload, 0, 0, 0) := by decide +kernel
theorem at_200_48 : j_at 200 48 = some (.bipush 10, 0, 0, 10) := by decide +kernel
theorem at_200_50 : j_at 200 50 = some (.iload_n 1, 0, 0, 0) := by decide +kernel
theorem at_200_51 : j_at 200 51 = some (.iadd, 0, 0, 0) := by decide +kernel
theorem at_200_52 : j_at 200 52 = some (.if_icmp .ne 24, 76, 0, 0) := by decide +kernel
theorem at_200_55 : j_at 200 55 = some (.aload_n 0, 0, 0, 0) := by decide +kernel
theorem at_200_56 : j_at 200 56 = some (.getfield 30, 12, 9, 0) := by decide +kernel
theorem at_200_59 : j_at 200 59 = some (.getfield 203, 11, 2, 0) := by decide +kernel
theorem at_200_62 : j_at 200 62 = some (.iload_n 3, 0, 0, 0) := by decide +kernel
theorem at_200_63 : j_at 200 63 = some (.laload, 0, 0, 0) := by decide +kernel
theorem at_200_64 : j_at 200 64 = some (.aload_n 0, 0, 0, 0) := by decide +kernel
theorem at_200_65 : j_at 200 65 = some (.getfield 30, 12, 9, 0) := by decide +kernel
theorem at_200_68 : j_at 200 68 = some (.getfield 197, 11, 13, 0) := by decide +kernel
theorem at_200_71 : j_at 200 71 = some (.iload_n 2, 0, 0, 0) := by decide +kernel
theorem at_200_72 : j_at 200 72 = some (.invokestatic 317, 195, 3, 0) := by decide +kernel
theorem at_200_75 : j_at 200 75 = some (.lreturn, 0, 0, 0) := by decide +kernel
theorem at_200_76 : j_at 200 76 = some (.iinc 3 1, 0, 0, 0) := by decide +kernel
theorem at_200_79 : j_at 200 79 = some (.goto (-48), 31, 0, 0) := by decide +kernel
theorem at_200_82 : j_at 200 82 = some (.iload_n 2, 0, 0, 0) := by decide +kernel
theorem at_200_83 : j_at 200 83 = some (.i2l, 0, 0, 0) := by decide +kernel
theorem at_200_84 : j_at 200 84 = some (.lreturn, 0, 0, 0) := by decide +kernel
theorem at_201_0 : j_at 201 0 = some (.aload_n 0, 0, 0, 0) := by decide +kernel
theorem at_201_1 : j_at 201 1 = some (.getfield 30, 12, 9, 0) := by decide +kernel
theorem at_201_4 : j_at 201 4 = some (.getfield 85, 11, 18, 0) := by decide +kernel
theorem at_201_7 : j_at 201 7 = some (.ifCond .eq 26, 33, 0, 0) := by decide +kernel
theorem at_201_10 : j_at 201 10 = some (.iload_n 1, 0, 0, 0) := by decide +kernel
theorem at_201_11 : j_at 201 11 = some (.i2l, 0, 0, 0) := by decide +kernel
theorem at_201_12 : j_at 201 12 = some (.lconst 0, 0, 0, 0) := by decide +kernel
theorem at_201_13 : j_at 201 13 = some (.aload_n 0, 0, 0, 0) := by decide +kernel
theorem at_201_14 : j_at 201 14 = some (.getfield 30, 12, 9, 0) := by decide +kernel
theorem at_201_17 : j_at 201 17 = some (.getfield 187, 11, 16, 0) := by decide +kernel
theorem at_201_20 : j_at 201 20 = some (.iconst 1, 0, 0, 1) := by decide +kernel
theorem at_201_21 : j_at 201 21 = some (.isub, 0, 0, 0) := by decide +kernel
theorem at_201_22 : j_at 201 22 = some (.i2l, 0, 0, 0) := by decide +kernel
theorem at_201_23 : j_at 201 23 = some (.invokestatic 93, 150, 3, 0) := by decide +kernel
theorem at_201_26 : j_at 201 26 = some (.ifCond .eq 7, 33, 0, 0) := by decide +kernel
theorem at_201_29 : j_at 201 29 = some (.iconst 1, 0, 0, 1) := by decide +kernel
theorem at_201_30 : j_at 201 30 = some (.goto 4, 34, 0, 0) := by decide +kernel
theorem at_201_33 : j_at 201 33 = some (.iconst 0, 0, 0, 0) := by decide +kernel
theorem at_201_34 : j_at 201 34 = some (.ireturn, 0, 0, 0) := by decide +kernel
theorem at_202_0 : j_at 202 0 = some (.aload_n 0, 0, 0, 0) := by decide +kernel
theorem at_202_1 : j_at 202 1 = some (.iload_n 1, 0, 0, 0) := by decide +kernel
theorem at_202_2 : j_at 202 2 = some (.invokevirtual 321, 201, 1, 0) := by decide +kernel
theorem at_202_5 : j_at 202 5 = some (.ifCond .eq 17, 22, 0, 0) := by decide +kernel
theorem at_202_8 : j_at 202 8 = some (.iload_n 2, 0, 0, 0) := by decide +kernel
