/-! The fixed layout as a heap; its facts; memory steps over it. -/
def hH (L : Nat) (m : j_M0) : j_H := (j_KL L, j_PL, m)
theorem ka_0 (L : Nat) (m : j_M0) : (hH L m).1[0]? = some (32, L) := rfl
theorem ka_1 (L : Nat) (m : j_M0) : (hH L m).1[1]? = some (32, 6) := rfl
theorem ka_2 (L : Nat) (m : j_M0) : (hH L m).1[2]? = some (10, 13) := rfl
theorem ka_3 (L : Nat) (m : j_M0) : (hH L m).1[3]? = some (4, 12) := rfl
theorem ka_4 (L : Nat) (m : j_M0) : (hH L m).1[4]? = some (1, 6) := rfl
theorem ka_5 (L : Nat) (m : j_M0) : (hH L m).1[5]? = some (32, 5) := rfl
theorem ka_6 (L : Nat) (m : j_M0) : (hH L m).1[6]? = some (32, 8) := rfl
theorem ka_7 (L : Nat) (m : j_M0) : (hH L m).1[7]? = some (32, 8) := rfl
theorem ka_8 (L : Nat) (m : j_M0) : (hH L m).1[8]? = some (32, 40) := rfl
theorem ka_9 (L : Nat) (m : j_M0) : (hH L m).1[9]? = some (2, 4) := rfl
theorem ka_10 (L : Nat) (m : j_M0) : (hH L m).1[10]? = some (32, 20) := rfl
theorem ka_11 (L : Nat) (m : j_M0) : (hH L m).1[11]? = some (32, 20) := rfl
theorem ka_12 (L : Nat) (m : j_M0) : (hH L m).1[12]? = some (32, 20) := rfl
theorem ka_13 (L : Nat) (m : j_M0) : (hH L m).1[13]? = some (32, 8) := rfl
theorem ka_14 (L : Nat) (m : j_M0) : (hH L m).1[14]? = some (32, 5) := rfl
theorem ka_15 (L : Nat) (m : j_M0) : (hH L m).1[15]? = some (32, 5) := rfl
theorem ka_16 (L : Nat) (m : j_M0) : (hH L m).1[16]? = some (32, 8) := rfl
theorem ka_17 (L : Nat) (m : j_M0) : (hH L m).1[17]? = some (32, 8) := rfl
theorem ka_18 (L : Nat) (m : j_M0) : (hH L m).1[18]? = some (32, 8) := rfl
theorem ka_19 (L : Nat) (m : j_M0) : (hH L m).1[19]? = some (4, 12) := rfl
theorem ka_20 (L : Nat) (m : j_M0) : (hH L m).1[20]? = some (1, 6) := rfl
theorem ka_21 (L : Nat) (m : j_M0) : (hH L m).1[21]? = some (32, 5) := rfl
theorem ka_22 (L : Nat) (m : j_M0) : (hH L m).1[22]? = some (32, 8) := rfl
theorem ka_23 (L : Nat) (m : j_M0) : (hH L m).1[23]? = some (32, 8) := rfl
theorem ka_24 (L : Nat) (m : j_M0) : (hH L m).1[24]? = some (32, 40) := rfl
theorem ka_25 (L : Nat) (m : j_M0) : (hH L m).1[25]? = some (2, 4) := rfl
theorem ka_26 (L : Nat) (m : j_M0) : (hH L m).1[26]? = some (32, 20) := rfl
theorem ka_27 (L : Nat) (m : j_M0) : (hH L m).1[27]? = some (32, 20) := rfl
theorem ka_28 (L : Nat) (m : j_M0) : (hH L m).1[28]? = some (32, 20) := rfl
theorem ka_29 (L : Nat) (m : j_M0) : (hH L m).1[29]? = some (32, 8) := rfl
theorem ka_30 (L : Nat) (m : j_M0) : (hH L m).1[30]? = some (32, 5) := rfl
theorem ka_31 (L : Nat) (m : j_M0) : (hH L m).1[31]? = some (32, 5) := rfl
theorem ka_32 (L : Nat) (m : j_M0) : (hH L m).1[32]? = some (32, 8) := rfl
theorem ka_33 (L : Nat) (m : j_M0) : (hH L m).1[33]? = some (32, 8) := rfl
theorem ka_34 (L : Nat) (m : j_M0) : (hH L m).1[34]? = some (32, 8) := rfl
theorem ka_35 (L : Nat) (m : j_M0) : (hH L m).1[35]? = some (1, 6) := rfl
theorem ka_36 (L : Nat) (m : j_M0) : (hH L m).1[36]? = some (32, 5) := rfl
theorem ka_37 (L : Nat) (m : j_M0) : (hH L m).1[37]? = some (32, 8) := rfl
theorem ka_38 (L : Nat) (m : j_M0) : (hH L m).1[38]? = some (32, 8) := rfl
theorem ka_39 (L : Nat) (m : j_M0) : (hH L m).1[39]? = some (32, 40) := rfl
theorem ka_40 (L : Nat) (m : j_M0) : (hH L m).1[40]? = some (3, 3) := rfl
theorem ka_41 (L : Nat) (m : j_M0) : (hH L m).1[41]? = some (5, 13) := rfl
theorem ka_42 (L : Nat) (m : j_M0) : (hH L m).1[42]? = some (32, 20) := rfl
theorem ka_43 (L : Nat) (m : j_M0) : (hH L m).1[43]? = some (32, 5) := rfl
theorem ka_44 (L : Nat) (m : j_M0) : (hH L m).1[44]? = some (33, 100) := rfl
theorem ka_45 (L : Nat) (m : j_M0) : (hH L m).1[45]? = some (33, 20) := rfl
theorem ka_46 (L : Nat) (m : j_M0) : (hH L m).1[46]? = some (33, 5) := rfl
theorem ka_47 (L : Nat) (m : j_M0) : (hH L m).1[47]? = some (33, 100) := rfl
theorem ka_48 (L : Nat) (m : j_M0) : (hH L m).1[48]? = some (33, 20) := rfl
theorem ka_49 (L : Nat) (m : j_M0) : (hH L m).1[49]? = some (33, 5) := rfl
theorem ka_50 (L : Nat) (m : j_M0) : (hH L m).1[50]? = some (0, 4) := rfl
theorem ka_51 (L : Nat) (m : j_M0) : (hH L m).1[51]? = some (33, 12) := rfl
theorem ka_52 (L : Nat) (m : j_M0) : (hH L m).1[52]? = some (33, 72) := rfl
theorem ka_53 (L : Nat) (m : j_M0) : (hH L m).1[53]? = some (33, 264) := rfl
theorem ka_54 (L : Nat) (m : j_M0) : (hH L m).1[54]? = some (3, 3) := rfl
theorem ka_55 (L : Nat) (m : j_M0) : (hH L m).1[55]? = some (5, 13) := rfl
theorem ka_56 (L : Nat) (m : j_M0) : (hH L m).1[56]? = some (32, 20) := rfl
theorem ka_57 (L : Nat) (m : j_M0) : (hH L m).1[57]? = some (32, 5) := rfl
theorem ka_58 (L : Nat) (m : j_M0) : (hH L m).1[58]? = some (33, 100) := rfl
theorem ka_59 (L : Nat) (m : j_M0) : (hH L m).1[59]? = some (33, 20) := rfl
theorem ka_60 (L : Nat) (m : j_M0) : (hH L m).1[60]? = some (33, 5) := rfl
theorem ka_61 (L : Nat) (m : j_M0) : (hH L m).1[61]? = some (33, 100) := rfl
theorem ka_62 (L : Nat) (m : j_M0) : (hH L m).1[62]? = some (33, 20) := rfl
theorem ka_63 (L : Nat) (m : j_M0) : (hH L m).1[63]? = some (33, 5) := rfl
theorem ka_64 (L : Nat) (m : j_M0) : (hH L m).1[64]? = some (0, 4) := rfl
theorem ka_65 (L : Nat) (m : j_M0) : (hH L m).1[65]? = some (33, 12) := rfl
theorem ka_66 (L : Nat) (m : j_M0) : (hH L m).1[66]? = some (33, 72) := rfl
theorem ka_67 (L : Nat) (m : j_M0) : (hH L m).1[67]? = some (33, 264) := rfl
theorem ka_68 (L : Nat) (m : j_M0) : (hH L m).1[68]? = some (8, 11) := rfl
theorem ka_69 (L : Nat) (m : j_M0) : (hH L m).1[69]? = some (32, 40) := rfl
theorem ka_70 (L : Nat) (m : j_M0) : (hH L m).1[70]? = some (33, 200) := rfl
theorem ka_71 (L : Nat) (m : j_M0) : (hH L m).1[71]? = some (5, 13) := rfl
theorem ka_72 (L : Nat) (m : j_M0) : (hH L m).1[72]? = some (32, 20) := rfl
theorem ka_73 (L : Nat) (m : j_M0) : (hH L m).1[73]? = some (32, 5) := rfl
theorem ka_74 (L : Nat) (m : j_M0) : (hH L m).1[74]? = some (33, 100) := rfl
theorem ka_75 (L : Nat) (m : j_M0) : (hH L m).1[75]? = some (33, 20) := rfl
theorem ka_76 (L : Nat) (m : j_M0) : (hH L m).1[76]? = some (33, 5) := rfl
theorem ka_77 (L : Nat) (m : j_M0) : (hH L m).1[77]? = some (33, 100) := rfl
theorem ka_78 (L : Nat) (m : j_M0) : (hH L m).1[78]? = some (33, 20) := rfl
theorem ka_79 (L : Nat) (m : j_M0) : (hH L m).1[79]? = some (33, 5) := rfl
theorem ka_80 (L : Nat) (m : j_M0) : (hH L m).1[80]? = some (33, 200) := rfl
theorem ka_81 (L : Nat) (m : j_M0) : (hH L m).1[81]? = some (33, 200) := rfl
theorem ka_82 (L : Nat) (m : j_M0) : (hH L m).1[82]? = some (33, 40) := rfl
theorem ka_83 (L : Nat) (m : j_M0) : (hH L m).1[83]? = some (33, 40) := rfl
theorem ka_84 (L : Nat) (m : j_M0) : (hH L m).1[84]? = some (32, 40) := rfl
theorem ka_85 (L : Nat) (m : j_M0) : (hH L m).1[85]? = some (35, 40) := rfl
theorem ka_86 (L : Nat) (m : j_M0) : (hH L m).1[86]? = some (9, 7) := rfl
theorem ka_87 (L : Nat) (m : j_M0) : (hH L m).1[87]? = some (32, 5) := rfl
theorem ka_88 (L : Nat) (m : j_M0) : (hH L m).1[88]? = some (32, 8) := rfl
theorem ka_89 (L : Nat) (m : j_M0) : (hH L m).1[89]? = some (2, 4) := rfl
theorem ka_90 (L : Nat) (m : j_M0) : (hH L m).1[90]? = some (32, 20) := rfl
theorem ka_91 (L : Nat) (m : j_M0) : (hH L m).1[91]? = some (32, 20) := rfl
theorem ka_92 (L : Nat) (m : j_M0) : (hH L m).1[92]? = some (32, 20) := rfl
theorem ka_93 (L : Nat) (m : j_M0) : (hH L m).1[93]? = some (7, 8) := rfl
theorem ka_94 (L : Nat) (m : j_M0) : (hH L m).1[94]? = some (34, 80) := rfl
theorem ka_95 (L : Nat) (m : j_M0) : (hH L m).1[95]? = some (32, 4) := rfl
theorem ka_96 (L : Nat) (m : j_M0) : (hH L m).1[96]? = some (32, 4) := rfl
theorem ka_97 (L : Nat) (m : j_M0) : (hH L m).1[97]? = some (32, 20) := rfl
theorem ka_98 (L : Nat) (m : j_M0) : (hH L m).1[98]? = some (6, 3) := rfl
theorem ka_99 (L : Nat) (m : j_M0) : (hH L m).1[99]? = some (32, 6) := rfl
theorem ka_100 (L : Nat) (m : j_M0) : (hH L m).1[100]? = some (32, 6) := rfl
theorem ka_101 (L : Nat) (m : j_M0) : (hH L m).1[101]? = some (36, 6) := rfl
theorem ka_102 (L : Nat) (m : j_M0) : (hH L m).1[102]? = some (33, 60) := rfl
theorem ka_103 (L : Nat) (m : j_M0) : (hH L m).1[103]? = some (33, 60) := rfl
theorem ka_104 (L : Nat) (m : j_M0) : (hH L m).1[104]? = some (33, 60) := rfl
theorem ka_105 (L : Nat) (m : j_M0) : (hH L m).1[105]? = some (33, 60) := rfl
theorem ka_106 (L : Nat) (m : j_M0) : (hH L m).1[106]? = some (33, 60) := rfl
theorem ka_107 (L : Nat) (m : j_M0) : (hH L m).1[107]? = some (33, 60) := rfl
theorem ka_108 (L : Nat) (m : j_M0) : (hH L m).1[108]? = some (33, 6) := rfl
theorem ka_109 (L : Nat) (m : j_M0) : (hH L m).1[109]? = some (12, 29) := rfl
theorem ka_110 (L : Nat) (m : j_M0) : (hH L m).1[110]? = some (32, 150) := rfl
theorem ka_111 (L : Nat) (m : j_M0) : (hH L m).1[111]? = some (32, 150) := rfl
theorem ka_112 (L : Nat) (m : j_M0) : (hH L m).1[112]? = some (32, 150) := rfl
theorem ka_113 (L : Nat) (m : j_M0) : (hH L m).1[113]? = some (32, 80) := rfl
theorem ka_114 (L : Nat) (m : j_M0) : (hH L m).1[114]? = some (32, 28) := rfl
theorem ka_115 (L : Nat) (m : j_M0) : (hH L m).1[115]? = some (11, 20) := rfl
theorem ka_116 (L : Nat) (m : j_M0) : (hH L m).1[116]? = some (33, 100) := rfl
theorem ka_117 (L : Nat) (m : j_M0) : (hH L m).1[117]? = some (33, 20) := rfl
theorem ka_118 (L : Nat) (m : j_M0) : (hH L m).1[118]? = some (33, 5) := rfl
theorem ka_119 (L : Nat) (m : j_M0) : (hH L m).1[119]? = some (33, 100) := rfl
theorem ka_120 (L : Nat) (m : j_M0) : (hH L m).1[120]? = some (33, 20) := rfl
theorem ka_121 (L : Nat) (m : j_M0) : (hH L m).1[121]? = some (33, 5) := rfl
theorem ka_122 (L : Nat) (m : j_M0) : (hH L m).1[122]? = some (32, 20) := rfl
theorem ka_123 (L : Nat) (m : j_M0) : (hH L m).1[123]? = some (32, 5) := rfl
theorem ka_124 (L : Nat) (m : j_M0) : (hH L m).1[124]? = some (33, 60) := rfl
theorem ka_125 (L : Nat) (m : j_M0) : (hH L m).1[125]? = some (33, 12) := rfl
theorem ka_126 (L : Nat) (m : j_M0) : (hH L m).1[126]? = some (33, 240) := rfl
theorem ka_127 (L : Nat) (m : j_M0) : (hH L m).1[127]? = some (33, 12) := rfl
theorem ka_128 (L : Nat) (m : j_M0) : (hH L m).1[128]? = some (11, 20) := rfl
theorem ka_129 (L : Nat) (m : j_M0) : (hH L m).1[129]? = some (33, 100) := rfl
theorem ka_130 (L : Nat) (m : j_M0) : (hH L m).1[130]? = some (33, 20) := rfl
theorem ka_131 (L : Nat) (m : j_M0) : (hH L m).1[131]? = some (33, 5) := rfl
theorem ka_132 (L : Nat) (m : j_M0) : (hH L m).1[132]? = some (33, 100) := rfl
theorem ka_133 (L : Nat) (m : j_M0) : (hH L m).1[133]? = some (33, 20) := rfl
theorem ka_134 (L : Nat) (m : j_M0) : (hH L m).1[134]? = some (33, 5) := rfl
theorem ka_135 (L : Nat) (m : j_M0) : (hH L m).1[135]? = some (32, 20) := rfl
theorem ka_136 (L : Nat) (m : j_M0) : (hH L m).1[136]? = some (32, 5) := rfl
theorem ka_137 (L : Nat) (m : j_M0) : (hH L m).1[137]? = some (33, 60) := rfl
theorem ka_138 (L : Nat) (m : j_M0) : (hH L m).1[138]? = some (33, 12) := rfl
theorem ka_139 (L : Nat) (m : j_M0) : (hH L m).1[139]? = some (33, 240) := rfl
theorem ka_140 (L : Nat) (m : j_M0) : (hH L m).1[140]? = some (33, 12) := rfl
theorem ka_141 (L : Nat) (m : j_M0) : (hH L m).1[141]? = some (32, 5) := rfl
theorem ka_142 (L : Nat) (m : j_M0) : (hH L m).1[142]? = some (32, 21) := rfl
theorem ka_143 (L : Nat) (m : j_M0) : (hH L m).1[143]? = some (32, 21) := rfl
theorem ka_144 (L : Nat) (m : j_M0) : (hH L m).1[144]? = some (32, 200) := rfl
theorem ka_145 (L : Nat) (m : j_M0) : (hH L m).1[145]? = some (32, 200) := rfl
theorem ka_146 (L : Nat) (m : j_M0) : (hH L m).1[146]? = some (32, 40) := rfl
theorem ka_147 (L : Nat) (m : j_M0) : (hH L m).1[147]? = some (33, 200) := rfl
theorem ka_148 (L : Nat) (m : j_M0) : (hH L m).1[148]? = some (33, 40) := rfl
theorem ka_149 (L : Nat) (m : j_M0) : (hH L m).1[149]? = some (33, 40) := rfl
theorem ka_150 (L : Nat) (m : j_M0) : (hH L m).1[150]? = some (35, 40) := rfl
theorem ka_151 (L : Nat) (m : j_M0) : (hH L m).1[151]? = some (32, 6) := rfl
theorem ka_152 (L : Nat) (m : j_M0) : (hH L m).1[152]? = some (32, 6) := rfl
theorem ka_153 (L : Nat) (m : j_M0) : (hH L m).1[153]? = some (33, 360) := rfl
theorem ka_154 (L : Nat) (m : j_M0) : (hH L m).1[154]? = some (33, 60) := rfl
theorem ka_155 (L : Nat) (m : j_M0) : (hH L m).1[155]? = some (1, 6) := rfl
theorem ka_156 (L : Nat) (m : j_M0) : (hH L m).1[156]? = some (32, 5) := rfl
theorem ka_157 (L : Nat) (m : j_M0) : (hH L m).1[157]? = some (32, 8) := rfl
theorem ka_158 (L : Nat) (m : j_M0) : (hH L m).1[158]? = some (32, 8) := rfl
theorem ka_159 (L : Nat) (m : j_M0) : (hH L m).1[159]? = some (32, 40) := rfl
theorem f_2_0 (L : Nat) (m : j_M0) : j_rf (hH L m) 2 0 = some 3 := rfl
theorem f_2_1 (L : Nat) (m : j_M0) : j_rf (hH L m) 2 1 = some 19 := rfl
theorem f_2_2 (L : Nat) (m : j_M0) : j_rf (hH L m) 2 2 = some 35 := rfl
theorem f_2_3 (L : Nat) (m : j_M0) : j_rf (hH L m) 2 3 = some 40 := rfl
theorem f_2_4 (L : Nat) (m : j_M0) : j_rf (hH L m) 2 4 = some 54 := rfl
theorem f_2_5 (L : Nat) (m : j_M0) : j_rf (hH L m) 2 5 = some 68 := rfl
theorem f_2_6 (L : Nat) (m : j_M0) : j_rf (hH L m) 2 6 = some 86 := rfl
theorem f_2_7 (L : Nat) (m : j_M0) : j_rf (hH L m) 2 7 = some 89 := rfl
theorem f_2_8 (L : Nat) (m : j_M0) : j_rf (hH L m) 2 8 = some 93 := rfl
theorem f_2_9 (L : Nat) (m : j_M0) : j_rf (hH L m) 2 9 = some 98 := rfl
theorem f_2_10 (L : Nat) (m : j_M0) : j_rf (hH L m) 2 10 = some 108 := rfl
theorem f_3_0 (L : Nat) (m : j_M0) : j_rf (hH L m) 3 0 = some 4 := rfl
theorem f_3_1 (L : Nat) (m : j_M0) : j_rf (hH L m) 3 1 = some 9 := rfl
theorem f_3_2 (L : Nat) (m : j_M0) : j_rf (hH L m) 3 2 = some 13 := rfl
theorem f_3_6 (L : Nat) (m : j_M0) : j_rf (hH L m) 3 6 = some 14 := rfl
theorem f_3_7 (L : Nat) (m : j_M0) : j_rf (hH L m) 3 7 = some 15 := rfl
theorem f_3_9 (L : Nat) (m : j_M0) : j_rf (hH L m) 3 9 = some 16 := rfl
theorem f_3_10 (L : Nat) (m : j_M0) : j_rf (hH L m) 3 10 = some 17 := rfl
theorem f_3_11 (L : Nat) (m : j_M0) : j_rf (hH L m) 3 11 = some 18 := rfl
theorem f_4_2 (L : Nat) (m : j_M0) : j_rf (hH L m) 4 2 = some 5 := rfl
theorem f_4_3 (L : Nat) (m : j_M0) : j_rf (hH L m) 4 3 = some 6 := rfl
theorem f_4_4 (L : Nat) (m : j_M0) : j_rf (hH L m) 4 4 = some 7 := rfl
theorem f_4_5 (L : Nat) (m : j_M0) : j_rf (hH L m) 4 5 = some 8 := rfl
theorem f_9_1 (L : Nat) (m : j_M0) : j_rf (hH L m) 9 1 = some 10 := rfl
theorem f_9_2 (L : Nat) (m : j_M0) : j_rf (hH L m) 9 2 = some 11 := rfl
theorem f_9_3 (L : Nat) (m : j_M0) : j_rf (hH L m) 9 3 = some 12 := rfl
theorem f_19_0 (L : Nat) (m : j_M0) : j_rf (hH L m) 19 0 = some 20 := rfl
theorem f_19_1 (L : Nat) (m : j_M0) : j_rf (hH L m) 19 1 = some 25 := rfl
theorem f_19_2 (L : Nat) (m : j_M0) : j_rf (hH L m) 19 2 = some 29 := rfl
theorem f_19_6 (L : Nat) (m : j_M0) : j_rf (hH L m) 19 6 = some 30 := rfl
theorem f_19_7 (L : Nat) (m : j_M0) : j_rf (hH L m) 19 7 = some 31 := rfl
theorem f_19_9 (L : Nat) (m : j_M0) : j_rf (hH L m) 19 9 = some 32 := rfl
theorem f_19_10 (L : Nat) (m : j_M0) : j_rf (hH L m) 19 10 = some 33 := rfl
theorem f_19_11 (L : Nat) (m : j_M0) : j_rf (hH L m) 19 11 = some 34 := rfl
theorem f_20_2 (L : Nat) (m : j_M0) : j_rf (hH L m) 20 2 = some 21 := rfl
theorem f_20_3 (L : Nat) (m : j_M0) : j_rf (hH L m) 20 3 = some 22 := rfl
theorem f_20_4 (L : Nat) (m : j_M0) : j_rf (hH L m) 20 4 = some 23 := rfl
theorem f_20_5 (L : Nat) (m : j_M0) : j_rf (hH L m) 20 5 = some 24 := rfl
theorem f_25_1 (L : Nat) (m : j_M0) : j_rf (hH L m) 25 1 = some 26 := rfl
theorem f_25_2 (L : Nat) (m : j_M0) : j_rf (hH L m) 25 2 = some 27 := rfl
theorem f_25_3 (L : Nat) (m : j_M0) : j_rf (hH L m) 25 3 = some 28 := rfl
theorem f_35_2 (L : Nat) (m : j_M0) : j_rf (hH L m) 35 2 = some 36 := rfl
theorem f_35_3 (L : Nat) (m : j_M0) : j_rf (hH L m) 35 3 = some 37 := rfl
theorem f_35_4 (L : Nat) (m : j_M0) : j_rf (hH L m) 35 4 = some 38 := rfl
theorem f_35_5 (L : Nat) (m : j_M0) : j_rf (hH L m) 35 5 = some 39 := rfl
theorem f_40_0 (L : Nat) (m : j_M0) : j_rf (hH L m) 40 0 = some 41 := rfl
theorem f_40_1 (L : Nat) (m : j_M0) : j_rf (hH L m) 40 1 = some 50 := rfl
theorem f_41_5 (L : Nat) (m : j_M0) : j_rf (hH L m) 41 5 = some 42 := rfl
theorem f_41_6 (L : Nat) (m : j_M0) : j_rf (hH L m) 41 6 = some 43 := rfl
theorem f_41_7 (L : Nat) (m : j_M0) : j_rf (hH L m) 41 7 = some 44 := rfl
theorem f_41_8 (L : Nat) (m : j_M0) : j_rf (hH L m) 41 8 = some 45 := rfl
theorem f_41_9 (L : Nat) (m : j_M0) : j_rf (hH L m) 41 9 = some 46 := rfl
theorem f_41_10 (L : Nat) (m : j_M0) : j_rf (hH L m) 41 10 = some 47 := rfl
theorem f_41_11 (L : Nat) (m : j_M0) : j_rf (hH L m) 41 11 = some 48 := rfl
theorem f_41_12 (L : Nat) (m : j_M0) : j_rf (hH L m) 41 12 = some 49 := rfl
theorem f_50_1 (L : Nat) (m : j_M0) : j_rf (hH L m) 50 1 = some 51 := rfl
theorem f_50_2 (L : Nat) (m : j_M0) : j_rf (hH L m) 50 2 = some 52 := rfl
theorem f_50_3 (L : Nat) (m : j_M0) : j_rf (hH L m) 50 3 = some 53 := rfl
theorem f_54_0 (L : Nat) (m : j_M0) : j_rf (hH L m) 54 0 = some 55 := rfl
theorem f_54_1 (L : Nat) (m : j_M0) : j_rf (hH L m) 54 1 = some 64 := rfl
theorem f_55_5 (L : Nat) (m : j_M0) : j_rf (hH L m) 55 5 = some 56 := rfl
theorem f_55_6 (L : Nat) (m : j_M0) : j_rf (hH L m) 55 6 = some 57 := rfl
theorem f_55_7 (L : Nat) (m : j_M0) : j_rf (hH L m) 55 7 = some 58 := rfl
theorem f_55_8 (L : Nat) (m : j_M0) : j_rf (hH L m) 55 8 = some 59 := rfl
theorem f_55_9 (L : Nat) (m : j_M0) : j_rf (hH L m) 55 9 = some 60 := rfl
theorem f_55_10 (L : Nat) (m : j_M0) : j_rf (hH L m) 55 10 = some 61 := rfl
theorem f_55_11 (L : Nat) (m : j_M0) : j_rf (hH L m) 55 11 = some 62 := rfl
theorem f_55_12 (L : Nat) (m : j_M0) : j_rf (hH L m) 55 12 = some 63 := rfl
theorem f_64_1 (L : Nat) (m : j_M0) : j_rf (hH L m) 64 1 = some 65 := rfl
theorem f_64_2 (L : Nat) (m : j_M0) : j_rf (hH L m) 64 2 = some 66 := rfl
theorem f_64_3 (L : Nat) (m : j_M0) : j_rf (hH L m) 64 3 = some 67 := rfl
theorem f_68_2 (L : Nat) (m : j_M0) : j_rf (hH L m) 68 2 = some 69 := rfl
theorem f_68_3 (L : Nat) (m : j_M0) : j_rf (hH L m) 68 3 = some 70 := rfl
theorem f_68_4 (L : Nat) (m : j_M0) : j_rf (hH L m) 68 4 = some 71 := rfl
theorem f_68_5 (L : Nat) (m : j_M0) : j_rf (hH L m) 68 5 = some 80 := rfl
theorem f_68_6 (L : Nat) (m : j_M0) : j_rf (hH L m) 68 6 = some 81 := rfl
theorem f_68_7 (L : Nat) (m : j_M0) : j_rf (hH L m) 68 7 = some 82 := rfl
theorem f_68_8 (L : Nat) (m : j_M0) : j_rf (hH L m) 68 8 = some 83 := rfl
theorem f_68_9 (L : Nat) (m : j_M0) : j_rf (hH L m) 68 9 = some 84 := rfl
theorem f_68_10 (L : Nat) (m : j_M0) : j_rf (hH L m) 68 10 = some 85 := rfl
theorem f_71_5 (L : Nat) (m : j_M0) : j_rf (hH L m) 71 5 = some 72 := rfl
theorem f_71_6 (L : Nat) (m : j_M0) : j_rf (hH L m) 71 6 = some 73 := rfl
theorem f_71_7 (L : Nat) (m : j_M0) : j_rf (hH L m) 71 7 = some 74 := rfl
theorem f_71_8 (L : Nat) (m : j_M0) : j_rf (hH L m) 71 8 = some 75 := rfl
theorem f_71_9 (L : Nat) (m : j_M0) : j_rf (hH L m) 71 9 = some 76 := rfl
theorem f_71_10 (L : Nat) (m : j_M0) : j_rf (hH L m) 71 10 = some 77 := rfl
theorem f_71_11 (L : Nat) (m : j_M0) : j_rf (hH L m) 71 11 = some 78 := rfl
theorem f_71_12 (L : Nat) (m : j_M0) : j_rf (hH L m) 71 12 = some 79 := rfl
theorem f_86_4 (L : Nat) (m : j_M0) : j_rf (hH L m) 86 4 = some 155 := rfl
theorem f_86_5 (L : Nat) (m : j_M0) : j_rf (hH L m) 86 5 = some 87 := rfl
theorem f_86_6 (L : Nat) (m : j_M0) : j_rf (hH L m) 86 6 = some 88 := rfl
theorem f_89_1 (L : Nat) (m : j_M0) : j_rf (hH L m) 89 1 = some 90 := rfl
theorem f_89_2 (L : Nat) (m : j_M0) : j_rf (hH L m) 89 2 = some 91 := rfl
theorem f_89_3 (L : Nat) (m : j_M0) : j_rf (hH L m) 89 3 = some 92 := rfl
theorem f_93_2 (L : Nat) (m : j_M0) : j_rf (hH L m) 93 2 = some 94 := rfl
theorem f_93_5 (L : Nat) (m : j_M0) : j_rf (hH L m) 93 5 = some 95 := rfl
theorem f_93_6 (L : Nat) (m : j_M0) : j_rf (hH L m) 93 6 = some 96 := rfl
theorem f_93_7 (L : Nat) (m : j_M0) : j_rf (hH L m) 93 7 = some 97 := rfl
theorem f_98_0 (L : Nat) (m : j_M0) : j_rf (hH L m) 98 0 = some 99 := rfl
theorem f_98_1 (L : Nat) (m : j_M0) : j_rf (hH L m) 98 1 = some 100 := rfl
theorem f_98_2 (L : Nat) (m : j_M0) : j_rf (hH L m) 98 2 = some 101 := rfl
theorem f_109_0 (L : Nat) (m : j_M0) : j_rf (hH L m) 109 0 = some 110 := rfl
theorem f_109_1 (L : Nat) (m : j_M0) : j_rf (hH L m) 109 1 = some 111 := rfl
theorem f_109_2 (L : Nat) (m : j_M0) : j_rf (hH L m) 109 2 = some 112 := rfl
theorem f_109_4 (L : Nat) (m : j_M0) : j_rf (hH L m) 109 4 = some 113 := rfl
theorem f_109_5 (L : Nat) (m : j_M0) : j_rf (hH L m) 109 5 = some 114 := rfl
theorem f_109_9 (L : Nat) (m : j_M0) : j_rf (hH L m) 109 9 = some 115 := rfl
theorem f_109_10 (L : Nat) (m : j_M0) : j_rf (hH L m) 109 10 = some 128 := rfl
theorem f_109_11 (L : Nat) (m : j_M0) : j_rf (hH L m) 109 11 = some 141 := rfl
theorem f_109_12 (L : Nat) (m : j_M0) : j_rf (hH L m) 109 12 = some 142 := rfl
theorem f_109_13 (L : Nat) (m : j_M0) : j_rf (hH L m) 109 13 = some 143 := rfl
theorem f_109_14 (L : Nat) (m : j_M0) : j_rf (hH L m) 109 14 = some 144 := rfl
theorem f_109_15 (L : Nat) (m : j_M0) : j_rf (hH L m) 109 15 = some 145 := rfl
theorem f_109_16 (L : Nat) (m : j_M0) : j_rf (hH L m) 109 16 = some 146 := rfl
theorem f_109_17 (L : Nat) (m : j_M0) : j_rf (hH L m) 109 17 = some 147 := rfl
theorem f_109_18 (L : Nat) (m : j_M0) : j_rf (hH L m) 109 18 = some 148 := rfl
theorem f_109_19 (L : Nat) (m : j_M0) : j_rf (hH L m) 109 19 = some 149 := rfl
theorem f_109_20 (L : Nat) (m : j_M0) : j_rf (hH L m) 109 20 = some 150 := rfl
theorem f_109_25 (L : Nat) (m : j_M0) : j_rf (hH L m) 109 25 = some 151 := rfl
theorem f_109_26 (L : Nat) (m : j_M0) : j_rf (hH L m) 109 26 = some 152 := rfl
theorem f_109_27 (L : Nat) (m : j_M0) : j_rf (hH L m) 109 27 = some 153 := rfl
theorem f_109_28 (L : Nat) (m : j_M0) : j_rf (hH L m) 109 28 = some 154 := rfl
theorem f_115_0 (L : Nat) (m : j_M0) : j_rf (hH L m) 115 0 = some 116 := rfl
theorem f_115_1 (L : Nat) (m : j_M0) : j_rf (hH L m) 115 1 = some 117 := rfl
theorem f_115_2 (L : Nat) (m : j_M0) : j_rf (hH L m) 115 2 = some 118 := rfl
theorem f_115_3 (L : Nat) (m : j_M0) : j_rf (hH L m) 115 3 = some 119 := rfl
theorem f_115_4 (L : Nat) (m : j_M0) : j_rf (hH L m) 115 4 = some 120 := rfl
theorem f_115_5 (L : Nat) (m : j_M0) : j_rf (hH L m) 115 5 = some 121 := rfl
theorem f_115_6 (L : Nat) (m : j_M0) : j_rf (hH L m) 115 6 = some 122 := rfl
theorem f_115_7 (L : Nat) (m : j_M0) : j_rf (hH L m) 115 7 = some 123 := rfl
theorem f_115_8 (L : Nat) (m : j_M0) : j_rf (hH L m) 115 8 = some 124 := rfl
theorem f_115_9 (L : Nat) (m : j_M0) : j_rf (hH L m) 115 9 = some 125 := rfl
theorem f_115_10 (L : Nat) (m : j_M0) : j_rf (hH L m) 115 10 = some 126 := rfl
theorem f_115_11 (L : Nat) (m : j_M0) : j_rf (hH L m) 115 11 = some 127 := rfl
theorem f_128_0 (L : Nat) (m : j_M0) : j_rf (hH L m) 128 0 = some 129 := rfl
theorem f_128_1 (L : Nat) (m : j_M0) : j_rf (hH L m) 128 1 = some 130 := rfl
theorem f_128_2 (L : Nat) (m : j_M0) : j_rf (hH L m) 128 2 = some 131 := rfl
theorem f_128_3 (L : Nat) (m : j_M0) : j_rf (hH L m) 128 3 = some 132 := rfl
theorem f_128_4 (L : Nat) (m : j_M0) : j_rf (hH L m) 128 4 = some 133 := rfl
theorem f_128_5 (L : Nat) (m : j_M0) : j_rf (hH L m) 128 5 = some 134 := rfl
theorem f_128_6 (L : Nat) (m : j_M0) : j_rf (hH L m) 128 6 = some 135 := rfl
theorem f_128_7 (L : Nat) (m : j_M0) : j_rf (hH L m) 128 7 = some 136 := rfl
theorem f_128_8 (L : Nat) (m : j_M0) : j_rf (hH L m) 128 8 = some 137 := rfl
theorem f_128_9 (L : Nat) (m : j_M0) : j_rf (hH L m) 128 9 = some 138 := rfl
theorem f_128_10 (L : Nat) (m : j_M0) : j_rf (hH L m) 128 10 = some 139 := rfl
theorem f_128_11 (L : Nat) (m : j_M0) : j_rf (hH L m) 128 11 = some 140 := rfl
theorem f_155_2 (L : Nat) (m : j_M0) : j_rf (hH L m) 155 2 = some 156 := rfl
theorem f_155_3 (L : Nat) (m : j_M0) : j_rf (hH L m) 155 3 = some 157 := rfl
theorem f_155_4 (L : Nat) (m : j_M0) : j_rf (hH L m) 155 4 = some 158 := rfl
theorem f_155_5 (L : Nat) (m : j_M0) : j_rf (hH L m) 155 5 = some 159 := rfl
theorem ka_tp {L : Nat} {m : j_M0} {k : Nat} (hk : k < 6) : (hH L m).1[102 + k]? = some (33, 60) := by
  match k, hk with
  | 0, _ => rfl
  | 1, _ => rfl
  | 2, _ => rfl
  | 3, _ => rfl
  | 4, _ => rfl
  | 5, _ => rfl
theorem f_tp {L : Nat} {m : j_M0} {k : Nat} (hk : k < 6) : j_rf (hH L m) 101 k = some (102 + k) := by
  match k, hk with
  | 0, _ => rfl
  | 1, _ => rfl
  | 2, _ => rfl
  | 3, _ => rfl
  | 4, _ => rfl
  | 5, _ => rfl
section HS
variable {C : Nat → List j_V → j_H → Option j_Z} {y pc a b : Nat} {z : Int} {ls : j_L} {r : List j_V} {L : Nat} {m : j_M0}
theorem H_tapes {i : Int} (hat : j_at y pc = some (.aaload, a, b, z)) : j_fin C y pc ls (jI i :: jR 101 :: r) (hH L m) = if 0 ≤ i ∧ i < ((6 : Nat) : Int) then j_fin C y (pc + 1) ls (jR (102 + i.toNat) :: r) (hH L m) else none := by
  rw [S_aaload (ka_101 L m) (B := 102 + i.toNat) (fun h1 h2 => f_tp (by omega)) hat]
theorem H_iaload {q N : Nat} {i : Int} (hK : (hH L m).1[q]? = some (32, N)) (hat : j_at y pc = some (.iaload, a, b, z)) : j_fin C y pc ls (jI i :: jR q :: r) (hH L m) = if 0 ≤ i ∧ i < (N : Int) then j_fin C y (pc + 1) ls (jI (m q i.toNat) :: r) (hH L m) else none := S_iaload hK hat
theorem H_laload {q N : Nat} {i : Int} (hK : (hH L m).1[q]? = some (33, N)) (hat : j_at y pc = some (.laload, a, b, z)) : j_fin C y pc ls (jI i :: jR q :: r) (hH L m) = if 0 ≤ i ∧ i < (N : Int) then j_fin C y (pc + 1) ls (jL (m q i.toNat) :: r) (hH L m) else none := S_laload hK hat
theorem H_baload34 {q N : Nat} {i : Int} (hK : (hH L m).1[q]? = some (34, N)) (hat : j_at y pc = some (.baload, a, b, z)) : j_fin C y pc ls (jI i :: jR q :: r) (hH L m) = if 0 ≤ i ∧ i < (N : Int) then j_fin C y (pc + 1) ls (jI (m q i.toNat) :: r) (hH L m) else none := S_baload34 hK hat
theorem H_baload35 {q N : Nat} {i : Int} (hK : (hH L m).1[q]? = some (35, N)) (hat : j_at y pc = some (.baload, a, b, z)) : j_fin C y pc ls (jI i :: jR q :: r) (hH L m) = if 0 ≤ i ∧ i < (N : Int) then j_fin C y (pc + 1) ls (jI (m q i.toNat) :: r) (hH L m) else none := S_baload35 hK hat
theorem H_iastore {q N : Nat} {i x : Int} (h2 : 2 ≤ q) (hK : (hH L m).1[q]? = some (32, N)) (hat : j_at y pc = some (.iastore, a, b, z)) : j_fin C y pc ls (jI x :: jI i :: jR q :: r) (hH L m) = if 0 ≤ i ∧ i < (N : Int) then j_fin C y (pc + 1) ls r (hH L (j_up m q i.toNat x)) else none := S_iastore h2 hK hat
theorem H_lastore {q N : Nat} {i x : Int} (h2 : 2 ≤ q) (hK : (hH L m).1[q]? = some (33, N)) (hat : j_at y pc = some (.lastore, a, b, z)) : j_fin C y pc ls (jL x :: jI i :: jR q :: r) (hH L m) = if 0 ≤ i ∧ i < (N : Int) then j_fin C y (pc + 1) ls r (hH L (j_up m q i.toNat x)) else none := S_lastore h2 hK hat
theorem H_bastore34 {q N : Nat} {i x : Int} (h2 : 2 ≤ q) (hK : (hH L m).1[q]? = some (34, N)) (hat : j_at y pc = some (.bastore, a, b, z)) : j_fin C y pc ls (jI x :: jI i :: jR q :: r) (hH L m) = if 0 ≤ i ∧ i < (N : Int) then j_fin C y (pc + 1) ls r (hH L (j_up m q i.toNat (w8 x))) else none := S_bastore34 h2 hK hat
theorem H_bastore35 {q N : Nat} {i x : Int} (h2 : 2 ≤ q) (hK : (hH L m).1[q]? = some (35, N)) (hat : j_at y pc = some (.bastore, a, b, z)) : j_fin C y pc ls (jI x :: jI i :: jR q :: r) (hH L m) = if 0 ≤ i ∧ i < (N : Int) then (if x = 0 ∨ x = 1 then j_fin C y (pc + 1) ls r (hH L (j_up m q i.toNat x)) else none) else none := S_bastore35 h2 hK hat
theorem H_get0 {q N n : Nat} (hK : (hH L m).1[q]? = some (a, N)) (hty : j_ty a b = 0) (hat : j_at y pc = some (.getfield n, a, b, z)) : j_fin C y pc ls (jR q :: r) (hH L m) = j_fin C y (pc + 3) ls (jI (m q b) :: r) (hH L m) := S_get0 hK hty hat
theorem H_get1 {q N n : Nat} (hK : (hH L m).1[q]? = some (a, N)) (hty : j_ty a b = 1) (hat : j_at y pc = some (.getfield n, a, b, z)) : j_fin C y pc ls (jR q :: r) (hH L m) = j_fin C y (pc + 3) ls (jL (m q b) :: r) (hH L m) := S_get1 hK hty hat
theorem H_get2 {q N n : Nat} (hK : (hH L m).1[q]? = some (a, N)) (hty : j_ty a b = 2) (hat : j_at y pc = some (.getfield n, a, b, z)) : j_fin C y pc ls (jR q :: r) (hH L m) = j_fin C y (pc + 3) ls (jI (m q b) :: r) (hH L m) := S_get2 hK hty hat
theorem H_put0 {q N n : Nat} {x : Int} (hK : (hH L m).1[q]? = some (a, N)) (hty : j_ty a b = 0) (hat : j_at y pc = some (.putfield n, a, b, z)) : j_fin C y pc ls (jI x :: jR q :: r) (hH L m) = j_fin C y (pc + 3) ls r (hH L (j_up m q b x)) := S_put0 hK hty hat
theorem H_put1 {q N n : Nat} {x : Int} (hK : (hH L m).1[q]? = some (a, N)) (hty : j_ty a b = 1) (hat : j_at y pc = some (.putfield n, a, b, z)) : j_fin C y pc ls (jL x :: jR q :: r) (hH L m) = j_fin C y (pc + 3) ls r (hH L (j_up m q b x)) := S_put1 hK hty hat
theorem H_put2 {q N n : Nat} {x : Int} (hK : (hH L m).1[q]? = some (a, N)) (hty : j_ty a b = 2) (hat : j_at y pc = some (.putfield n, a, b, z)) : j_fin C y pc ls (jI x :: jR q :: r) (hH L m) = if x = 0 ∨ x = 1 then j_fin C y (pc + 3) ls r (hH L (j_up m q b x)) else none := S_put2 hK hty hat
theorem H_cpy {n0 q1 q0 k N0 N1 : Nat} {n dp sp : Int} (ha : a = 9999) (hk : k = 32 ∨ k = 33) (h0 : (hH L m).1[q0]? = some (k, N0)) (h1 : (hH L m).1[q1]? = some (k, N1)) (hq : 2 ≤ q0 ∧ 2 ≤ q1) (hcat : (r.map j_cat).sum ≤ 8) (hat : j_at y pc = some (.invokestatic n0, a, b, z)) : j_fin C y pc ls (jI n :: jI dp :: jR q1 :: jI sp :: jR q0 :: r) (hH L m) = if 0 ≤ n ∧ 0 ≤ sp ∧ 0 ≤ dp ∧ sp + n ≤ (N0 : Int) ∧ dp + n ≤ (N1 : Int) then j_fin C y (pc + 3) ls r (hH L (j_cpy m q0 sp.toNat q1 dp.toNat n.toNat)) else none := S_cpy ha hk h0 h1 hq hcat hat
end HS
theorem kn_1 : j_kn[1]? = some (0, 0, 0) := by decide +kernel
theorem kn_2 : j_kn[2]? = some (0, 0, 2) := by decide +kernel
theorem kn_3 : j_kn[3]? = some (0, 0, 2) := by decide +kernel
theorem kn_4 : j_kn[4]? = some (0, 0, 3) := by decide +kernel
theorem kn_5 : j_kn[5]? = some (0, 0, 4) := by decide +kernel
theorem kn_6 : j_kn[6]? = some (0, 0, 2) := by decide +kernel
theorem kn_8 : j_kn[8]? = some (1, 0, 1) := by decide +kernel
theorem kn_9 : j_kn[9]? = some (1, 0, 1) := by decide +kernel
theorem kn_10 : j_kn[10]? = some (1, 0, 2) := by decide +kernel
theorem kn_11 : j_kn[11]? = some (1, 0, 2) := by decide +kernel
theorem kn_12 : j_kn[12]? = some (1, 0, 3) := by decide +kernel
theorem kn_13 : j_kn[13]? = some (1, 0, 2) := by decide +kernel
theorem kn_14 : j_kn[14]? = some (1, 0, 1) := by decide +kernel
theorem kn_15 : j_kn[15]? = some (1, 0, 1) := by decide +kernel
theorem kn_16 : j_kn[16]? = some (1, 0, 2) := by decide +kernel
theorem kn_17 : j_kn[17]? = some (1, 0, 3) := by decide +kernel
theorem kn_18 : j_kn[18]? = some (1, 0, 2) := by decide +kernel
theorem kn_19 : j_kn[19]? = some (1, 1, 1) := by decide +kernel
theorem kn_21 : j_kn[21]? = some (2, 0, 1) := by decide +kernel
theorem kn_22 : j_kn[22]? = some (2, 0, 0) := by decide +kernel
theorem kn_23 : j_kn[23]? = some (2, 0, 1) := by decide +kernel
theorem kn_24 : j_kn[24]? = some (2, 0, 1) := by decide +kernel
theorem kn_25 : j_kn[25]? = some (2, 0, 3) := by decide +kernel
theorem kn_26 : j_kn[26]? = some (2, 0, 2) := by decide +kernel
theorem kn_27 : j_kn[27]? = some (2, 0, 3) := by decide +kernel
theorem kn_29 : j_kn[29]? = some (3, 0, 2) := by decide +kernel
theorem kn_30 : j_kn[30]? = some (3, 0, 1) := by decide +kernel
theorem kn_32 : j_kn[32]? = some (4, 0, 1) := by decide +kernel
theorem kn_33 : j_kn[33]? = some (4, 0, 1) := by decide +kernel
theorem kn_34 : j_kn[34]? = some (4, 0, 2) := by decide +kernel
theorem kn_35 : j_kn[35]? = some (4, 0, 3) := by decide +kernel
theorem kn_36 : j_kn[36]? = some (4, 0, 1) := by decide +kernel
theorem kn_38 : j_kn[38]? = some (5, 0, 1) := by decide +kernel
theorem kn_39 : j_kn[39]? = some (5, 0, 2) := by decide +kernel
theorem kn_40 : j_kn[40]? = some (5, 0, 2) := by decide +kernel
theorem kn_41 : j_kn[41]? = some (5, 0, 2) := by decide +kernel
theorem kn_42 : j_kn[42]? = some (5, 0, 2) := by decide +kernel
theorem kn_43 : j_kn[43]? = some (5, 0, 1) := by decide +kernel
theorem kn_44 : j_kn[44]? = some (5, 0, 1) := by decide +kernel
theorem kn_45 : j_kn[45]? = some (5, 0, 0) := by decide +kernel
theorem kn_46 : j_kn[46]? = some (5, 0, 0) := by decide +kernel
theorem kn_47 : j_kn[47]? = some (5, 0, 1) := by decide +kernel
theorem kn_48 : j_kn[48]? = some (5, 0, 3) := by decide +kernel
theorem kn_49 : j_kn[49]? = some (5, 0, 2) := by decide +kernel
theorem kn_50 : j_kn[50]? = some (5, 0, 3) := by decide +kernel
theorem kn_51 : j_kn[51]? = some (5, 0, 5) := by decide +kernel
theorem kn_52 : j_kn[52]? = some (5, 0, 1) := by decide +kernel
theorem kn_53 : j_kn[53]? = some (5, 0, 1) := by decide +kernel
theorem kn_54 : j_kn[54]? = some (5, 0, 1) := by decide +kernel
theorem kn_55 : j_kn[55]? = some (5, 0, 1) := by decide +kernel
theorem kn_56 : j_kn[56]? = some (5, 0, 0) := by decide +kernel
theorem kn_57 : j_kn[57]? = some (5, 0, 0) := by decide +kernel
theorem kn_58 : j_kn[58]? = some (5, 0, 2) := by decide +kernel
theorem kn_59 : j_kn[59]? = some (5, 0, 1) := by decide +kernel
theorem kn_61 : j_kn[61]? = some (6, 0, 3) := by decide +kernel
theorem kn_62 : j_kn[62]? = some (6, 0, 2) := by decide +kernel
theorem kn_63 : j_kn[63]? = some (6, 0, 3) := by decide +kernel
theorem kn_65 : j_kn[65]? = some (7, 0, 1) := by decide +kernel
theorem kn_66 : j_kn[66]? = some (7, 0, 1) := by decide +kernel
theorem kn_67 : j_kn[67]? = some (7, 0, 0) := by decide +kernel
theorem kn_68 : j_kn[68]? = some (7, 0, 1) := by decide +kernel
theorem kn_69 : j_kn[69]? = some (7, 0, 0) := by decide +kernel
theorem kn_70 : j_kn[70]? = some (7, 0, 0) := by decide +kernel
theorem kn_71 : j_kn[71]? = some (7, 0, 1) := by decide +kernel
theorem kn_72 : j_kn[72]? = some (7, 0, 1) := by decide +kernel
theorem kn_74 : j_kn[74]? = some (8, 0, 1) := by decide +kernel
theorem kn_75 : j_kn[75]? = some (8, 0, 2) := by decide +kernel
theorem kn_76 : j_kn[76]? = some (8, 0, 1) := by decide +kernel
theorem kn_77 : j_kn[77]? = some (8, 0, 1) := by decide +kernel
theorem kn_78 : j_kn[78]? = some (8, 0, 0) := by decide +kernel
theorem kn_79 : j_kn[79]? = some (8, 0, 1) := by decide +kernel
theorem kn_81 : j_kn[81]? = some (9, 0, 2) := by decide +kernel
theorem kn_82 : j_kn[82]? = some (9, 0, 0) := by decide +kernel
theorem kn_83 : j_kn[83]? = some (9, 0, 2) := by decide +kernel
theorem kn_84 : j_kn[84]? = some (9, 0, 0) := by decide +kernel
theorem kn_85 : j_kn[85]? = some (9, 0, 0) := by decide +kernel
theorem kn_86 : j_kn[86]? = some (9, 0, 1) := by decide +kernel
theorem kn_88 : j_kn[88]? = some (10, 0, 1) := by decide +kernel
theorem kn_89 : j_kn[89]? = some (10, 0, 2) := by decide +kernel
theorem kn_90 : j_kn[90]? = some (10, 0, 2) := by decide +kernel
theorem kn_91 : j_kn[91]? = some (10, 0, 3) := by decide +kernel
theorem kn_92 : j_kn[92]? = some (10, 0, 2) := by decide +kernel
theorem kn_93 : j_kn[93]? = some (10, 0, 0) := by decide +kernel
theorem kn_94 : j_kn[94]? = some (10, 0, 1) := by decide +kernel
theorem kn_95 : j_kn[95]? = some (10, 0, 0) := by decide +kernel
theorem kn_96 : j_kn[96]? = some (10, 0, 2) := by decide +kernel
theorem kn_97 : j_kn[97]? = some (10, 0, 1) := by decide +kernel
theorem kn_98 : j_kn[98]? = some (10, 0, 2) := by decide +kernel
theorem kn_99 : j_kn[99]? = some (10, 0, 2) := by decide +kernel
theorem kn_100 : j_kn[100]? = some (10, 0, 1) := by decide +kernel
theorem kn_101 : j_kn[101]? = some (10, 0, 2) := by decide +kernel
theorem kn_102 : j_kn[102]? = some (10, 0, 2) := by decide +kernel
theorem kn_103 : j_kn[103]? = some (10, 0, 3) := by decide +kernel
theorem kn_104 : j_kn[104]? = some (10, 0, 1) := by decide +kernel
theorem kn_105 : j_kn[105]? = some (10, 0, 2) := by decide +kernel
theorem kn_106 : j_kn[106]? = some (10, 0, 1) := by decide +kernel
theorem kn_107 : j_kn[107]? = some (10, 0, 1) := by decide +kernel
theorem kn_108 : j_kn[108]? = some (10, 0, 0) := by decide +kernel
theorem kn_109 : j_kn[109]? = some (10, 0, 1) := by decide +kernel
theorem kn_110 : j_kn[110]? = some (10, 0, 1) := by decide +kernel
theorem kn_111 : j_kn[111]? = some (10, 0, 1) := by decide +kernel
theorem kn_112 : j_kn[112]? = some (10, 0, 1) := by decide +kernel
theorem kn_113 : j_kn[113]? = some (10, 0, 1) := by decide +kernel
theorem kn_114 : j_kn[114]? = some (10, 0, 1) := by decide +kernel
theorem kn_115 : j_kn[115]? = some (10, 0, 2) := by decide +kernel
theorem kn_116 : j_kn[116]? = some (10, 0, 2) := by decide +kernel
theorem kn_117 : j_kn[117]? = some (10, 0, 2) := by decide +kernel
theorem kn_118 : j_kn[118]? = some (10, 0, 5) := by decide +kernel
theorem kn_119 : j_kn[119]? = some (10, 0, 1) := by decide +kernel
theorem kn_120 : j_kn[120]? = some (10, 0, 2) := by decide +kernel
theorem kn_121 : j_kn[121]? = some (10, 0, 2) := by decide +kernel
theorem kn_122 : j_kn[122]? = some (10, 0, 2) := by decide +kernel
theorem kn_123 : j_kn[123]? = some (10, 0, 1) := by decide +kernel
theorem kn_124 : j_kn[124]? = some (10, 0, 0) := by decide +kernel
theorem kn_125 : j_kn[125]? = some (10, 0, 3) := by decide +kernel
theorem kn_126 : j_kn[126]? = some (10, 0, 0) := by decide +kernel
theorem kn_127 : j_kn[127]? = some (10, 0, 2) := by decide +kernel
theorem kn_128 : j_kn[128]? = some (10, 0, 0) := by decide +kernel
theorem kn_129 : j_kn[129]? = some (10, 0, 0) := by decide +kernel
theorem kn_130 : j_kn[130]? = some (10, 0, 1) := by decide +kernel
theorem kn_131 : j_kn[131]? = some (10, 0, 3) := by decide +kernel
theorem kn_132 : j_kn[132]? = some (10, 0, 3) := by decide +kernel
theorem kn_133 : j_kn[133]? = some (10, 0, 2) := by decide +kernel
theorem kn_134 : j_kn[134]? = some (10, 0, 5) := by decide +kernel
theorem kn_135 : j_kn[135]? = some (10, 0, 1) := by decide +kernel
theorem kn_136 : j_kn[136]? = some (10, 0, 1) := by decide +kernel
theorem kn_137 : j_kn[137]? = some (10, 0, 1) := by decide +kernel
theorem kn_138 : j_kn[138]? = some (10, 0, 1) := by decide +kernel
theorem kn_139 : j_kn[139]? = some (10, 1, 1) := by decide +kernel
theorem kn_140 : j_kn[140]? = some (10, 1, 1) := by decide +kernel
theorem kn_141 : j_kn[141]? = some (10, 1, 1) := by decide +kernel
theorem kn_142 : j_kn[142]? = some (10, 1, 1) := by decide +kernel
theorem kn_143 : j_kn[143]? = some (10, 1, 2) := by decide +kernel
theorem kn_144 : j_kn[144]? = some (10, 1, 1) := by decide +kernel
theorem kn_145 : j_kn[145]? = some (10, 0, 0) := by decide +kernel
theorem kn_146 : j_kn[146]? = some (10, 1, 3) := by decide +kernel
theorem kn_149 : j_kn[149]? = some (12, 0, 1) := by decide +kernel
theorem kn_150 : j_kn[150]? = some (12, 1, 3) := by decide +kernel
theorem kn_151 : j_kn[151]? = some (12, 0, 0) := by decide +kernel
theorem kn_152 : j_kn[152]? = some (12, 0, 1) := by decide +kernel
theorem kn_153 : j_kn[153]? = some (12, 0, 1) := by decide +kernel
theorem kn_154 : j_kn[154]? = some (12, 0, 1) := by decide +kernel
theorem kn_155 : j_kn[155]? = some (12, 0, 1) := by decide +kernel
theorem kn_156 : j_kn[156]? = some (12, 0, 2) := by decide +kernel
theorem kn_157 : j_kn[157]? = some (12, 0, 2) := by decide +kernel
theorem kn_158 : j_kn[158]? = some (12, 0, 1) := by decide +kernel
theorem kn_159 : j_kn[159]? = some (12, 0, 1) := by decide +kernel
theorem kn_160 : j_kn[160]? = some (12, 0, 2) := by decide +kernel
theorem kn_161 : j_kn[161]? = some (12, 0, 2) := by decide +kernel
theorem kn_162 : j_kn[162]? = some (12, 0, 2) := by decide +kernel
theorem kn_163 : j_kn[163]? = some (12, 0, 3) := by decide +kernel
theorem kn_164 : j_kn[164]? = some (12, 0, 2) := by decide +kernel
theorem kn_165 : j_kn[165]? = some (12, 0, 0) := by decide +kernel
theorem kn_166 : j_kn[166]? = some (12, 0, 2) := by decide +kernel
theorem kn_167 : j_kn[167]? = some (12, 0, 1) := by decide +kernel
theorem kn_168 : j_kn[168]? = some (12, 0, 0) := by decide +kernel
theorem kn_169 : j_kn[169]? = some (12, 0, 1) := by decide +kernel
theorem kn_170 : j_kn[170]? = some (12, 0, 0) := by decide +kernel
theorem kn_171 : j_kn[171]? = some (12, 0, 2) := by decide +kernel
theorem kn_172 : j_kn[172]? = some (12, 0, 1) := by decide +kernel
theorem kn_173 : j_kn[173]? = some (12, 0, 1) := by decide +kernel
theorem kn_174 : j_kn[174]? = some (12, 0, 1) := by decide +kernel
theorem kn_175 : j_kn[175]? = some (12, 0, 0) := by decide +kernel
theorem kn_176 : j_kn[176]? = some (12, 0, 0) := by decide +kernel
theorem kn_177 : j_kn[177]? = some (12, 0, 3) := by decide +kernel
theorem kn_178 : j_kn[178]? = some (12, 0, 1) := by decide +kernel
theorem kn_179 : j_kn[179]? = some (12, 1, 1) := by decide +kernel
theorem kn_180 : j_kn[180]? = some (12, 0, 3) := by decide +kernel
theorem kn_181 : j_kn[181]? = some (12, 0, 3) := by decide +kernel
theorem kn_182 : j_kn[182]? = some (12, 0, 2) := by decide +kernel
theorem kn_183 : j_kn[183]? = some (12, 0, 1) := by decide +kernel
theorem kn_184 : j_kn[184]? = some (12, 0, 2) := by decide +kernel
theorem kn_185 : j_kn[185]? = some (12, 0, 1) := by decide +kernel
theorem kn_186 : j_kn[186]? = some (12, 0, 3) := by decide +kernel
theorem kn_187 : j_kn[187]? = some (12, 0, 2) := by decide +kernel
theorem kn_188 : j_kn[188]? = some (12, 0, 2) := by decide +kernel
theorem kn_189 : j_kn[189]? = some (12, 0, 2) := by decide +kernel
theorem kn_190 : j_kn[190]? = some (12, 1, 1) := by decide +kernel
theorem kn_191 : j_kn[191]? = some (12, 0, 2) := by decide +kernel
theorem kn_192 : j_kn[192]? = some (12, 0, 0) := by decide +kernel
theorem kn_193 : j_kn[193]? = some (12, 0, 1) := by decide +kernel
theorem kn_194 : j_kn[194]? = some (12, 0, 2) := by decide +kernel
theorem kn_195 : j_kn[195]? = some (12, 1, 3) := by decide +kernel
theorem kn_196 : j_kn[196]? = some (12, 1, 1) := by decide +kernel
theorem kn_197 : j_kn[197]? = some (12, 0, 2) := by decide +kernel
theorem kn_198 : j_kn[198]? = some (12, 0, 2) := by decide +kernel
theorem kn_199 : j_kn[199]? = some (12, 0, 1) := by decide +kernel
theorem kn_200 : j_kn[200]? = some (12, 0, 2) := by decide +kernel
theorem kn_201 : j_kn[201]? = some (12, 0, 1) := by decide +kernel
theorem kn_202 : j_kn[202]? = some (12, 0, 2) := by decide +kernel
theorem kn_203 : j_kn[203]? = some (12, 0, 3) := by decide +kernel
theorem kn_204 : j_kn[204]? = some (12, 0, 2) := by decide +kernel
theorem kn_205 : j_kn[205]? = some (12, 0, 1) := by decide +kernel
theorem kn_206 : j_kn[206]? = some (12, 0, 2) := by decide +kernel
theorem kn_207 : j_kn[207]? = some (12, 0, 1) := by decide +kernel
theorem kn_208 : j_kn[208]? = some (12, 0, 1) := by decide +kernel
theorem kn_209 : j_kn[209]? = some (12, 0, 0) := by decide +kernel
theorem kn_210 : j_kn[210]? = some (12, 0, 0) := by decide +kernel
theorem kn_211 : j_kn[211]? = some (12, 0, 1) := by decide +kernel
theorem kn_212 : j_kn[212]? = some (12, 0, 1) := by decide +kernel
theorem kn_213 : j_kn[213]? = some (12, 0, 1) := by decide +kernel
theorem kn_214 : j_kn[214]? = some (12, 0, 1) := by decide +kernel
theorem kn_215 : j_kn[215]? = some (12, 0, 0) := by decide +kernel
theorem kn_216 : j_kn[216]? = some (12, 0, 1) := by decide +kernel
theorem kn_217 : j_kn[217]? = some (12, 0, 1) := by decide +kernel
theorem kn_218 : j_kn[218]? = some (12, 0, 1) := by decide +kernel
theorem kn_219 : j_kn[219]? = some (12, 0, 1) := by decide +kernel
theorem kn_220 : j_kn[220]? = some (12, 0, 1) := by decide +kernel
theorem kn_221 : j_kn[221]? = some (12, 0, 1) := by decide +kernel
theorem kn_222 : j_kn[222]? = some (12, 0, 1) := by decide +kernel
theorem kn_223 : j_kn[223]? = some (12, 0, 4) := by decide +kernel
theorem kn_224 : j_kn[224]? = some (12, 0, 3) := by decide +kernel
theorem kn_225 : j_kn[225]? = some (12, 0, 1) := by decide +kernel
theorem kn_226 : j_kn[226]? = some (12, 0, 0) := by decide +kernel
theorem kn_227 : j_kn[227]? = some (12, 0, 1) := by decide +kernel
theorem kn_228 : j_kn[228]? = some (12, 0, 0) := by decide +kernel
theorem kn_229 : j_kn[229]? = some (12, 0, 1) := by decide +kernel
theorem kn_230 : j_kn[230]? = some (12, 0, 2) := by decide +kernel
theorem kn_231 : j_kn[231]? = some (12, 0, 2) := by decide +kernel
theorem kn_232 : j_kn[232]? = some (12, 0, 2) := by decide +kernel
theorem kn_233 : j_kn[233]? = some (12, 0, 0) := by decide +kernel
theorem kn_234 : j_kn[234]? = some (12, 0, 2) := by decide +kernel
theorem kn_235 : j_kn[235]? = some (12, 0, 5) := by decide +kernel
theorem kn_236 : j_kn[236]? = some (12, 0, 1) := by decide +kernel
theorem kn_237 : j_kn[237]? = some (12, 0, 0) := by decide +kernel
theorem kn_238 : j_kn[238]? = some (12, 0, 0) := by decide +kernel
theorem kn_239 : j_kn[239]? = some (12, 0, 1) := by decide +kernel
theorem kn_240 : j_kn[240]? = some (12, 0, 2) := by decide +kernel
theorem kn_241 : j_kn[241]? = some (12, 0, 1) := by decide +kernel
theorem kn_242 : j_kn[242]? = some (12, 0, 2) := by decide +kernel
theorem kn_243 : j_kn[243]? = some (12, 0, 2) := by decide +kernel
theorem kn_244 : j_kn[244]? = some (12, 0, 1) := by decide +kernel
theorem kn_245 : j_kn[245]? = some (12, 0, 2) := by decide +kernel
theorem kn_246 : j_kn[246]? = some (12, 0, 1) := by decide +kernel
theorem kn_247 : j_kn[247]? = some (12, 0, 1) := by decide +kernel
theorem kn_248 : j_kn[248]? = some (12, 0, 0) := by decide +kernel
theorem kn_249 : j_kn[249]? = some (12, 1, 2) := by decide +kernel
theorem kn_250 : j_kn[250]? = some (12, 0, 3) := by decide +kernel
theorem kn_251 : j_kn[251]? = some (12, 0, 3) := by decide +kernel
theorem kn_252 : j_kn[252]? = some (12, 0, 0) := by decide +kernel
theorem kn_253 : j_kn[253]? = some (12, 1, 1) := by decide +kernel
theorem kn_254 : j_kn[254]? = some (12, 0, 2) := by decide +kernel
theorem kn_255 : j_kn[255]? = some (12, 0, 0) := by decide +kernel
theorem kn_256 : j_kn[256]? = some (12, 0, 0) := by decide +kernel
theorem kn_257 : j_kn[257]? = some (12, 0, 1) := by decide +kernel
theorem kn_258 : j_kn[258]? = some (12, 0, 3) := by decide +kernel
theorem kn_259 : j_kn[259]? = some (12, 1, 2) := by decide +kernel
theorem kn_260 : j_kn[260]? = some (12, 0, 3) := by decide +kernel
theorem kn_261 : j_kn[261]? = some (12, 0, 2) := by decide +kernel
theorem kn_262 : j_kn[262]? = some (12, 0, 5) := by decide +kernel
theorem kn_263 : j_kn[263]? = some (14, 1, 2) := by decide +kernel
theorem kn_264 : j_kn[264]? = some (14, 1, 2) := by decide +kernel
theorem kn_265 : j_kn[265]? = some (14, 1, 2) := by decide +kernel
theorem kn_266 : j_kn[266]? = some (14, 1, 2) := by decide +kernel
theorem kn_267 : j_kn[267]? = some (14, 1, 1) := by decide +kernel
theorem kn_268 : j_kn[268]? = some (14, 1, 2) := by decide +kernel
theorem kn_269 : j_kn[269]? = some (15, 1, 2) := by decide +kernel
theorem kn_270 : j_kn[270]? = some (15, 1, 2) := by decide +kernel
theorem kn_271 : j_kn[271]? = some (13, 1, 1) := by decide +kernel
