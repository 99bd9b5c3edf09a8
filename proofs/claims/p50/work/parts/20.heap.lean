/-! The fixed layout as a heap; its facts; memory steps over it. -/
/-- the script's length; what the law has made beyond: kinds, references -/
abbrev j_B : Type := Nat × List (Nat × Nat) × List (List (Option Nat))
def hH (L : j_B) (m : j_M0) : j_H := (j_KL L.1 ++ L.2.1, j_PL ++ L.2.2, m)
theorem ka_0 (L : j_B) (m : j_M0) : (hH L m).1[0]? = some (32, L.1) := rfl
theorem kd_0 (L : j_B) (m : j_M0) : j_kd (hH L m) 0 = some (32, L.1) := rfl
theorem ka_1 (L : j_B) (m : j_M0) : (hH L m).1[1]? = some (32, 6) := rfl
theorem kd_1 (L : j_B) (m : j_M0) : j_kd (hH L m) 1 = some (32, 6) := rfl
theorem ka_2 (L : j_B) (m : j_M0) : (hH L m).1[2]? = some (12, 13) := rfl
theorem kd_2 (L : j_B) (m : j_M0) : j_kd (hH L m) 2 = some (12, 13) := rfl
theorem ka_3 (L : j_B) (m : j_M0) : (hH L m).1[3]? = some (6, 12) := rfl
theorem kd_3 (L : j_B) (m : j_M0) : j_kd (hH L m) 3 = some (6, 12) := rfl
theorem ka_4 (L : j_B) (m : j_M0) : (hH L m).1[4]? = some (3, 6) := rfl
theorem kd_4 (L : j_B) (m : j_M0) : j_kd (hH L m) 4 = some (3, 6) := rfl
theorem ka_5 (L : j_B) (m : j_M0) : (hH L m).1[5]? = some (32, 5) := rfl
theorem kd_5 (L : j_B) (m : j_M0) : j_kd (hH L m) 5 = some (32, 5) := rfl
theorem ka_6 (L : j_B) (m : j_M0) : (hH L m).1[6]? = some (32, 8) := rfl
theorem kd_6 (L : j_B) (m : j_M0) : j_kd (hH L m) 6 = some (32, 8) := rfl
theorem ka_7 (L : j_B) (m : j_M0) : (hH L m).1[7]? = some (32, 8) := rfl
theorem kd_7 (L : j_B) (m : j_M0) : j_kd (hH L m) 7 = some (32, 8) := rfl
theorem ka_8 (L : j_B) (m : j_M0) : (hH L m).1[8]? = some (32, 40) := rfl
theorem kd_8 (L : j_B) (m : j_M0) : j_kd (hH L m) 8 = some (32, 40) := rfl
theorem ka_9 (L : j_B) (m : j_M0) : (hH L m).1[9]? = some (4, 4) := rfl
theorem kd_9 (L : j_B) (m : j_M0) : j_kd (hH L m) 9 = some (4, 4) := rfl
theorem ka_10 (L : j_B) (m : j_M0) : (hH L m).1[10]? = some (32, 20) := rfl
theorem kd_10 (L : j_B) (m : j_M0) : j_kd (hH L m) 10 = some (32, 20) := rfl
theorem ka_11 (L : j_B) (m : j_M0) : (hH L m).1[11]? = some (32, 20) := rfl
theorem kd_11 (L : j_B) (m : j_M0) : j_kd (hH L m) 11 = some (32, 20) := rfl
theorem ka_12 (L : j_B) (m : j_M0) : (hH L m).1[12]? = some (32, 20) := rfl
theorem kd_12 (L : j_B) (m : j_M0) : j_kd (hH L m) 12 = some (32, 20) := rfl
theorem ka_13 (L : j_B) (m : j_M0) : (hH L m).1[13]? = some (32, 8) := rfl
theorem kd_13 (L : j_B) (m : j_M0) : j_kd (hH L m) 13 = some (32, 8) := rfl
theorem ka_14 (L : j_B) (m : j_M0) : (hH L m).1[14]? = some (32, 5) := rfl
theorem kd_14 (L : j_B) (m : j_M0) : j_kd (hH L m) 14 = some (32, 5) := rfl
theorem ka_15 (L : j_B) (m : j_M0) : (hH L m).1[15]? = some (32, 5) := rfl
theorem kd_15 (L : j_B) (m : j_M0) : j_kd (hH L m) 15 = some (32, 5) := rfl
theorem ka_16 (L : j_B) (m : j_M0) : (hH L m).1[16]? = some (32, 8) := rfl
theorem kd_16 (L : j_B) (m : j_M0) : j_kd (hH L m) 16 = some (32, 8) := rfl
theorem ka_17 (L : j_B) (m : j_M0) : (hH L m).1[17]? = some (32, 8) := rfl
theorem kd_17 (L : j_B) (m : j_M0) : j_kd (hH L m) 17 = some (32, 8) := rfl
theorem ka_18 (L : j_B) (m : j_M0) : (hH L m).1[18]? = some (32, 8) := rfl
theorem kd_18 (L : j_B) (m : j_M0) : j_kd (hH L m) 18 = some (32, 8) := rfl
theorem ka_19 (L : j_B) (m : j_M0) : (hH L m).1[19]? = some (6, 12) := rfl
theorem kd_19 (L : j_B) (m : j_M0) : j_kd (hH L m) 19 = some (6, 12) := rfl
theorem ka_20 (L : j_B) (m : j_M0) : (hH L m).1[20]? = some (3, 6) := rfl
theorem kd_20 (L : j_B) (m : j_M0) : j_kd (hH L m) 20 = some (3, 6) := rfl
theorem ka_21 (L : j_B) (m : j_M0) : (hH L m).1[21]? = some (32, 5) := rfl
theorem kd_21 (L : j_B) (m : j_M0) : j_kd (hH L m) 21 = some (32, 5) := rfl
theorem ka_22 (L : j_B) (m : j_M0) : (hH L m).1[22]? = some (32, 8) := rfl
theorem kd_22 (L : j_B) (m : j_M0) : j_kd (hH L m) 22 = some (32, 8) := rfl
theorem ka_23 (L : j_B) (m : j_M0) : (hH L m).1[23]? = some (32, 8) := rfl
theorem kd_23 (L : j_B) (m : j_M0) : j_kd (hH L m) 23 = some (32, 8) := rfl
theorem ka_24 (L : j_B) (m : j_M0) : (hH L m).1[24]? = some (32, 40) := rfl
theorem kd_24 (L : j_B) (m : j_M0) : j_kd (hH L m) 24 = some (32, 40) := rfl
theorem ka_25 (L : j_B) (m : j_M0) : (hH L m).1[25]? = some (4, 4) := rfl
theorem kd_25 (L : j_B) (m : j_M0) : j_kd (hH L m) 25 = some (4, 4) := rfl
theorem ka_26 (L : j_B) (m : j_M0) : (hH L m).1[26]? = some (32, 20) := rfl
theorem kd_26 (L : j_B) (m : j_M0) : j_kd (hH L m) 26 = some (32, 20) := rfl
theorem ka_27 (L : j_B) (m : j_M0) : (hH L m).1[27]? = some (32, 20) := rfl
theorem kd_27 (L : j_B) (m : j_M0) : j_kd (hH L m) 27 = some (32, 20) := rfl
theorem ka_28 (L : j_B) (m : j_M0) : (hH L m).1[28]? = some (32, 20) := rfl
theorem kd_28 (L : j_B) (m : j_M0) : j_kd (hH L m) 28 = some (32, 20) := rfl
theorem ka_29 (L : j_B) (m : j_M0) : (hH L m).1[29]? = some (32, 8) := rfl
theorem kd_29 (L : j_B) (m : j_M0) : j_kd (hH L m) 29 = some (32, 8) := rfl
theorem ka_30 (L : j_B) (m : j_M0) : (hH L m).1[30]? = some (32, 5) := rfl
theorem kd_30 (L : j_B) (m : j_M0) : j_kd (hH L m) 30 = some (32, 5) := rfl
theorem ka_31 (L : j_B) (m : j_M0) : (hH L m).1[31]? = some (32, 5) := rfl
theorem kd_31 (L : j_B) (m : j_M0) : j_kd (hH L m) 31 = some (32, 5) := rfl
theorem ka_32 (L : j_B) (m : j_M0) : (hH L m).1[32]? = some (32, 8) := rfl
theorem kd_32 (L : j_B) (m : j_M0) : j_kd (hH L m) 32 = some (32, 8) := rfl
theorem ka_33 (L : j_B) (m : j_M0) : (hH L m).1[33]? = some (32, 8) := rfl
theorem kd_33 (L : j_B) (m : j_M0) : j_kd (hH L m) 33 = some (32, 8) := rfl
theorem ka_34 (L : j_B) (m : j_M0) : (hH L m).1[34]? = some (32, 8) := rfl
theorem kd_34 (L : j_B) (m : j_M0) : j_kd (hH L m) 34 = some (32, 8) := rfl
theorem ka_35 (L : j_B) (m : j_M0) : (hH L m).1[35]? = some (3, 6) := rfl
theorem kd_35 (L : j_B) (m : j_M0) : j_kd (hH L m) 35 = some (3, 6) := rfl
theorem ka_36 (L : j_B) (m : j_M0) : (hH L m).1[36]? = some (32, 5) := rfl
theorem kd_36 (L : j_B) (m : j_M0) : j_kd (hH L m) 36 = some (32, 5) := rfl
theorem ka_37 (L : j_B) (m : j_M0) : (hH L m).1[37]? = some (32, 8) := rfl
theorem kd_37 (L : j_B) (m : j_M0) : j_kd (hH L m) 37 = some (32, 8) := rfl
theorem ka_38 (L : j_B) (m : j_M0) : (hH L m).1[38]? = some (32, 8) := rfl
theorem kd_38 (L : j_B) (m : j_M0) : j_kd (hH L m) 38 = some (32, 8) := rfl
theorem ka_39 (L : j_B) (m : j_M0) : (hH L m).1[39]? = some (32, 40) := rfl
theorem kd_39 (L : j_B) (m : j_M0) : j_kd (hH L m) 39 = some (32, 40) := rfl
theorem ka_40 (L : j_B) (m : j_M0) : (hH L m).1[40]? = some (5, 3) := rfl
theorem kd_40 (L : j_B) (m : j_M0) : j_kd (hH L m) 40 = some (5, 3) := rfl
theorem ka_41 (L : j_B) (m : j_M0) : (hH L m).1[41]? = some (7, 13) := rfl
theorem kd_41 (L : j_B) (m : j_M0) : j_kd (hH L m) 41 = some (7, 13) := rfl
theorem ka_42 (L : j_B) (m : j_M0) : (hH L m).1[42]? = some (32, 20) := rfl
theorem kd_42 (L : j_B) (m : j_M0) : j_kd (hH L m) 42 = some (32, 20) := rfl
theorem ka_43 (L : j_B) (m : j_M0) : (hH L m).1[43]? = some (32, 5) := rfl
theorem kd_43 (L : j_B) (m : j_M0) : j_kd (hH L m) 43 = some (32, 5) := rfl
theorem ka_44 (L : j_B) (m : j_M0) : (hH L m).1[44]? = some (33, 100) := rfl
theorem kd_44 (L : j_B) (m : j_M0) : j_kd (hH L m) 44 = some (33, 100) := rfl
theorem ka_45 (L : j_B) (m : j_M0) : (hH L m).1[45]? = some (33, 20) := rfl
theorem kd_45 (L : j_B) (m : j_M0) : j_kd (hH L m) 45 = some (33, 20) := rfl
theorem ka_46 (L : j_B) (m : j_M0) : (hH L m).1[46]? = some (33, 5) := rfl
theorem kd_46 (L : j_B) (m : j_M0) : j_kd (hH L m) 46 = some (33, 5) := rfl
theorem ka_47 (L : j_B) (m : j_M0) : (hH L m).1[47]? = some (33, 100) := rfl
theorem kd_47 (L : j_B) (m : j_M0) : j_kd (hH L m) 47 = some (33, 100) := rfl
theorem ka_48 (L : j_B) (m : j_M0) : (hH L m).1[48]? = some (33, 20) := rfl
theorem kd_48 (L : j_B) (m : j_M0) : j_kd (hH L m) 48 = some (33, 20) := rfl
theorem ka_49 (L : j_B) (m : j_M0) : (hH L m).1[49]? = some (33, 5) := rfl
theorem kd_49 (L : j_B) (m : j_M0) : j_kd (hH L m) 49 = some (33, 5) := rfl
theorem ka_50 (L : j_B) (m : j_M0) : (hH L m).1[50]? = some (2, 4) := rfl
theorem kd_50 (L : j_B) (m : j_M0) : j_kd (hH L m) 50 = some (2, 4) := rfl
theorem ka_51 (L : j_B) (m : j_M0) : (hH L m).1[51]? = some (33, 12) := rfl
theorem kd_51 (L : j_B) (m : j_M0) : j_kd (hH L m) 51 = some (33, 12) := rfl
theorem ka_52 (L : j_B) (m : j_M0) : (hH L m).1[52]? = some (33, 72) := rfl
theorem kd_52 (L : j_B) (m : j_M0) : j_kd (hH L m) 52 = some (33, 72) := rfl
theorem ka_53 (L : j_B) (m : j_M0) : (hH L m).1[53]? = some (33, 264) := rfl
theorem kd_53 (L : j_B) (m : j_M0) : j_kd (hH L m) 53 = some (33, 264) := rfl
theorem ka_54 (L : j_B) (m : j_M0) : (hH L m).1[54]? = some (5, 3) := rfl
theorem kd_54 (L : j_B) (m : j_M0) : j_kd (hH L m) 54 = some (5, 3) := rfl
theorem ka_55 (L : j_B) (m : j_M0) : (hH L m).1[55]? = some (7, 13) := rfl
theorem kd_55 (L : j_B) (m : j_M0) : j_kd (hH L m) 55 = some (7, 13) := rfl
theorem ka_56 (L : j_B) (m : j_M0) : (hH L m).1[56]? = some (32, 20) := rfl
theorem kd_56 (L : j_B) (m : j_M0) : j_kd (hH L m) 56 = some (32, 20) := rfl
theorem ka_57 (L : j_B) (m : j_M0) : (hH L m).1[57]? = some (32, 5) := rfl
theorem kd_57 (L : j_B) (m : j_M0) : j_kd (hH L m) 57 = some (32, 5) := rfl
theorem ka_58 (L : j_B) (m : j_M0) : (hH L m).1[58]? = some (33, 100) := rfl
theorem kd_58 (L : j_B) (m : j_M0) : j_kd (hH L m) 58 = some (33, 100) := rfl
theorem ka_59 (L : j_B) (m : j_M0) : (hH L m).1[59]? = some (33, 20) := rfl
theorem kd_59 (L : j_B) (m : j_M0) : j_kd (hH L m) 59 = some (33, 20) := rfl
theorem ka_60 (L : j_B) (m : j_M0) : (hH L m).1[60]? = some (33, 5) := rfl
theorem kd_60 (L : j_B) (m : j_M0) : j_kd (hH L m) 60 = some (33, 5) := rfl
theorem ka_61 (L : j_B) (m : j_M0) : (hH L m).1[61]? = some (33, 100) := rfl
theorem kd_61 (L : j_B) (m : j_M0) : j_kd (hH L m) 61 = some (33, 100) := rfl
theorem ka_62 (L : j_B) (m : j_M0) : (hH L m).1[62]? = some (33, 20) := rfl
theorem kd_62 (L : j_B) (m : j_M0) : j_kd (hH L m) 62 = some (33, 20) := rfl
theorem ka_63 (L : j_B) (m : j_M0) : (hH L m).1[63]? = some (33, 5) := rfl
theorem kd_63 (L : j_B) (m : j_M0) : j_kd (hH L m) 63 = some (33, 5) := rfl
theorem ka_64 (L : j_B) (m : j_M0) : (hH L m).1[64]? = some (2, 4) := rfl
theorem kd_64 (L : j_B) (m : j_M0) : j_kd (hH L m) 64 = some (2, 4) := rfl
theorem ka_65 (L : j_B) (m : j_M0) : (hH L m).1[65]? = some (33, 12) := rfl
theorem kd_65 (L : j_B) (m : j_M0) : j_kd (hH L m) 65 = some (33, 12) := rfl
theorem ka_66 (L : j_B) (m : j_M0) : (hH L m).1[66]? = some (33, 72) := rfl
theorem kd_66 (L : j_B) (m : j_M0) : j_kd (hH L m) 66 = some (33, 72) := rfl
theorem ka_67 (L : j_B) (m : j_M0) : (hH L m).1[67]? = some (33, 264) := rfl
theorem kd_67 (L : j_B) (m : j_M0) : j_kd (hH L m) 67 = some (33, 264) := rfl
theorem ka_68 (L : j_B) (m : j_M0) : (hH L m).1[68]? = some (10, 11) := rfl
theorem kd_68 (L : j_B) (m : j_M0) : j_kd (hH L m) 68 = some (10, 11) := rfl
theorem ka_69 (L : j_B) (m : j_M0) : (hH L m).1[69]? = some (32, 40) := rfl
theorem kd_69 (L : j_B) (m : j_M0) : j_kd (hH L m) 69 = some (32, 40) := rfl
theorem ka_70 (L : j_B) (m : j_M0) : (hH L m).1[70]? = some (33, 200) := rfl
theorem kd_70 (L : j_B) (m : j_M0) : j_kd (hH L m) 70 = some (33, 200) := rfl
theorem ka_71 (L : j_B) (m : j_M0) : (hH L m).1[71]? = some (7, 13) := rfl
theorem kd_71 (L : j_B) (m : j_M0) : j_kd (hH L m) 71 = some (7, 13) := rfl
theorem ka_72 (L : j_B) (m : j_M0) : (hH L m).1[72]? = some (32, 20) := rfl
theorem kd_72 (L : j_B) (m : j_M0) : j_kd (hH L m) 72 = some (32, 20) := rfl
theorem ka_73 (L : j_B) (m : j_M0) : (hH L m).1[73]? = some (32, 5) := rfl
theorem kd_73 (L : j_B) (m : j_M0) : j_kd (hH L m) 73 = some (32, 5) := rfl
theorem ka_74 (L : j_B) (m : j_M0) : (hH L m).1[74]? = some (33, 100) := rfl
theorem kd_74 (L : j_B) (m : j_M0) : j_kd (hH L m) 74 = some (33, 100) := rfl
theorem ka_75 (L : j_B) (m : j_M0) : (hH L m).1[75]? = some (33, 20) := rfl
theorem kd_75 (L : j_B) (m : j_M0) : j_kd (hH L m) 75 = some (33, 20) := rfl
theorem ka_76 (L : j_B) (m : j_M0) : (hH L m).1[76]? = some (33, 5) := rfl
theorem kd_76 (L : j_B) (m : j_M0) : j_kd (hH L m) 76 = some (33, 5) := rfl
theorem ka_77 (L : j_B) (m : j_M0) : (hH L m).1[77]? = some (33, 100) := rfl
theorem kd_77 (L : j_B) (m : j_M0) : j_kd (hH L m) 77 = some (33, 100) := rfl
theorem ka_78 (L : j_B) (m : j_M0) : (hH L m).1[78]? = some (33, 20) := rfl
theorem kd_78 (L : j_B) (m : j_M0) : j_kd (hH L m) 78 = some (33, 20) := rfl
theorem ka_79 (L : j_B) (m : j_M0) : (hH L m).1[79]? = some (33, 5) := rfl
theorem kd_79 (L : j_B) (m : j_M0) : j_kd (hH L m) 79 = some (33, 5) := rfl
theorem ka_80 (L : j_B) (m : j_M0) : (hH L m).1[80]? = some (33, 200) := rfl
theorem kd_80 (L : j_B) (m : j_M0) : j_kd (hH L m) 80 = some (33, 200) := rfl
theorem ka_81 (L : j_B) (m : j_M0) : (hH L m).1[81]? = some (33, 200) := rfl
theorem kd_81 (L : j_B) (m : j_M0) : j_kd (hH L m) 81 = some (33, 200) := rfl
theorem ka_82 (L : j_B) (m : j_M0) : (hH L m).1[82]? = some (33, 40) := rfl
theorem kd_82 (L : j_B) (m : j_M0) : j_kd (hH L m) 82 = some (33, 40) := rfl
theorem ka_83 (L : j_B) (m : j_M0) : (hH L m).1[83]? = some (33, 40) := rfl
theorem kd_83 (L : j_B) (m : j_M0) : j_kd (hH L m) 83 = some (33, 40) := rfl
theorem ka_84 (L : j_B) (m : j_M0) : (hH L m).1[84]? = some (32, 40) := rfl
theorem kd_84 (L : j_B) (m : j_M0) : j_kd (hH L m) 84 = some (32, 40) := rfl
theorem ka_85 (L : j_B) (m : j_M0) : (hH L m).1[85]? = some (35, 40) := rfl
theorem kd_85 (L : j_B) (m : j_M0) : j_kd (hH L m) 85 = some (35, 40) := rfl
theorem ka_86 (L : j_B) (m : j_M0) : (hH L m).1[86]? = some (11, 7) := rfl
theorem kd_86 (L : j_B) (m : j_M0) : j_kd (hH L m) 86 = some (11, 7) := rfl
theorem ka_87 (L : j_B) (m : j_M0) : (hH L m).1[87]? = some (32, 5) := rfl
theorem kd_87 (L : j_B) (m : j_M0) : j_kd (hH L m) 87 = some (32, 5) := rfl
theorem ka_88 (L : j_B) (m : j_M0) : (hH L m).1[88]? = some (32, 8) := rfl
theorem kd_88 (L : j_B) (m : j_M0) : j_kd (hH L m) 88 = some (32, 8) := rfl
theorem ka_89 (L : j_B) (m : j_M0) : (hH L m).1[89]? = some (4, 4) := rfl
theorem kd_89 (L : j_B) (m : j_M0) : j_kd (hH L m) 89 = some (4, 4) := rfl
theorem ka_90 (L : j_B) (m : j_M0) : (hH L m).1[90]? = some (32, 20) := rfl
theorem kd_90 (L : j_B) (m : j_M0) : j_kd (hH L m) 90 = some (32, 20) := rfl
theorem ka_91 (L : j_B) (m : j_M0) : (hH L m).1[91]? = some (32, 20) := rfl
theorem kd_91 (L : j_B) (m : j_M0) : j_kd (hH L m) 91 = some (32, 20) := rfl
theorem ka_92 (L : j_B) (m : j_M0) : (hH L m).1[92]? = some (32, 20) := rfl
theorem kd_92 (L : j_B) (m : j_M0) : j_kd (hH L m) 92 = some (32, 20) := rfl
theorem ka_93 (L : j_B) (m : j_M0) : (hH L m).1[93]? = some (9, 8) := rfl
theorem kd_93 (L : j_B) (m : j_M0) : j_kd (hH L m) 93 = some (9, 8) := rfl
theorem ka_94 (L : j_B) (m : j_M0) : (hH L m).1[94]? = some (34, 80) := rfl
theorem kd_94 (L : j_B) (m : j_M0) : j_kd (hH L m) 94 = some (34, 80) := rfl
theorem ka_95 (L : j_B) (m : j_M0) : (hH L m).1[95]? = some (32, 4) := rfl
theorem kd_95 (L : j_B) (m : j_M0) : j_kd (hH L m) 95 = some (32, 4) := rfl
theorem ka_96 (L : j_B) (m : j_M0) : (hH L m).1[96]? = some (32, 4) := rfl
theorem kd_96 (L : j_B) (m : j_M0) : j_kd (hH L m) 96 = some (32, 4) := rfl
theorem ka_97 (L : j_B) (m : j_M0) : (hH L m).1[97]? = some (32, 20) := rfl
theorem kd_97 (L : j_B) (m : j_M0) : j_kd (hH L m) 97 = some (32, 20) := rfl
theorem ka_98 (L : j_B) (m : j_M0) : (hH L m).1[98]? = some (8, 3) := rfl
theorem kd_98 (L : j_B) (m : j_M0) : j_kd (hH L m) 98 = some (8, 3) := rfl
theorem ka_99 (L : j_B) (m : j_M0) : (hH L m).1[99]? = some (32, 6) := rfl
theorem kd_99 (L : j_B) (m : j_M0) : j_kd (hH L m) 99 = some (32, 6) := rfl
theorem ka_100 (L : j_B) (m : j_M0) : (hH L m).1[100]? = some (32, 6) := rfl
theorem kd_100 (L : j_B) (m : j_M0) : j_kd (hH L m) 100 = some (32, 6) := rfl
theorem ka_101 (L : j_B) (m : j_M0) : (hH L m).1[101]? = some (36, 6) := rfl
theorem kd_101 (L : j_B) (m : j_M0) : j_kd (hH L m) 101 = some (36, 6) := rfl
theorem ka_102 (L : j_B) (m : j_M0) : (hH L m).1[102]? = some (33, 60) := rfl
theorem kd_102 (L : j_B) (m : j_M0) : j_kd (hH L m) 102 = some (33, 60) := rfl
theorem ka_103 (L : j_B) (m : j_M0) : (hH L m).1[103]? = some (33, 60) := rfl
theorem kd_103 (L : j_B) (m : j_M0) : j_kd (hH L m) 103 = some (33, 60) := rfl
theorem ka_104 (L : j_B) (m : j_M0) : (hH L m).1[104]? = some (33, 60) := rfl
theorem kd_104 (L : j_B) (m : j_M0) : j_kd (hH L m) 104 = some (33, 60) := rfl
theorem ka_105 (L : j_B) (m : j_M0) : (hH L m).1[105]? = some (33, 60) := rfl
theorem kd_105 (L : j_B) (m : j_M0) : j_kd (hH L m) 105 = some (33, 60) := rfl
theorem ka_106 (L : j_B) (m : j_M0) : (hH L m).1[106]? = some (33, 60) := rfl
theorem kd_106 (L : j_B) (m : j_M0) : j_kd (hH L m) 106 = some (33, 60) := rfl
theorem ka_107 (L : j_B) (m : j_M0) : (hH L m).1[107]? = some (33, 60) := rfl
theorem kd_107 (L : j_B) (m : j_M0) : j_kd (hH L m) 107 = some (33, 60) := rfl
theorem ka_108 (L : j_B) (m : j_M0) : (hH L m).1[108]? = some (33, 6) := rfl
theorem kd_108 (L : j_B) (m : j_M0) : j_kd (hH L m) 108 = some (33, 6) := rfl
theorem ka_109 (L : j_B) (m : j_M0) : (hH L m).1[109]? = some (3, 6) := rfl
theorem kd_109 (L : j_B) (m : j_M0) : j_kd (hH L m) 109 = some (3, 6) := rfl
theorem ka_110 (L : j_B) (m : j_M0) : (hH L m).1[110]? = some (32, 5) := rfl
theorem kd_110 (L : j_B) (m : j_M0) : j_kd (hH L m) 110 = some (32, 5) := rfl
theorem ka_111 (L : j_B) (m : j_M0) : (hH L m).1[111]? = some (32, 8) := rfl
theorem kd_111 (L : j_B) (m : j_M0) : j_kd (hH L m) 111 = some (32, 8) := rfl
theorem ka_112 (L : j_B) (m : j_M0) : (hH L m).1[112]? = some (32, 8) := rfl
theorem kd_112 (L : j_B) (m : j_M0) : j_kd (hH L m) 112 = some (32, 8) := rfl
theorem ka_113 (L : j_B) (m : j_M0) : (hH L m).1[113]? = some (32, 40) := rfl
theorem kd_113 (L : j_B) (m : j_M0) : j_kd (hH L m) 113 = some (32, 40) := rfl
theorem f_2_0 (L : j_B) (m : j_M0) : j_rf (hH L m) 2 0 = some 3 := rfl
theorem f_2_1 (L : j_B) (m : j_M0) : j_rf (hH L m) 2 1 = some 19 := rfl
theorem f_2_2 (L : j_B) (m : j_M0) : j_rf (hH L m) 2 2 = some 35 := rfl
theorem f_2_3 (L : j_B) (m : j_M0) : j_rf (hH L m) 2 3 = some 40 := rfl
theorem f_2_4 (L : j_B) (m : j_M0) : j_rf (hH L m) 2 4 = some 54 := rfl
theorem f_2_5 (L : j_B) (m : j_M0) : j_rf (hH L m) 2 5 = some 68 := rfl
theorem f_2_6 (L : j_B) (m : j_M0) : j_rf (hH L m) 2 6 = some 86 := rfl
theorem f_2_7 (L : j_B) (m : j_M0) : j_rf (hH L m) 2 7 = some 89 := rfl
theorem f_2_8 (L : j_B) (m : j_M0) : j_rf (hH L m) 2 8 = some 93 := rfl
theorem f_2_9 (L : j_B) (m : j_M0) : j_rf (hH L m) 2 9 = some 98 := rfl
theorem f_2_10 (L : j_B) (m : j_M0) : j_rf (hH L m) 2 10 = some 108 := rfl
theorem f_3_0 (L : j_B) (m : j_M0) : j_rf (hH L m) 3 0 = some 4 := rfl
theorem f_3_1 (L : j_B) (m : j_M0) : j_rf (hH L m) 3 1 = some 9 := rfl
theorem f_3_2 (L : j_B) (m : j_M0) : j_rf (hH L m) 3 2 = some 13 := rfl
theorem f_3_6 (L : j_B) (m : j_M0) : j_rf (hH L m) 3 6 = some 14 := rfl
theorem f_3_7 (L : j_B) (m : j_M0) : j_rf (hH L m) 3 7 = some 15 := rfl
theorem f_3_9 (L : j_B) (m : j_M0) : j_rf (hH L m) 3 9 = some 16 := rfl
theorem f_3_10 (L : j_B) (m : j_M0) : j_rf (hH L m) 3 10 = some 17 := rfl
theorem f_3_11 (L : j_B) (m : j_M0) : j_rf (hH L m) 3 11 = some 18 := rfl
theorem f_4_2 (L : j_B) (m : j_M0) : j_rf (hH L m) 4 2 = some 5 := rfl
theorem f_4_3 (L : j_B) (m : j_M0) : j_rf (hH L m) 4 3 = some 6 := rfl
theorem f_4_4 (L : j_B) (m : j_M0) : j_rf (hH L m) 4 4 = some 7 := rfl
theorem f_4_5 (L : j_B) (m : j_M0) : j_rf (hH L m) 4 5 = some 8 := rfl
theorem f_9_1 (L : j_B) (m : j_M0) : j_rf (hH L m) 9 1 = some 10 := rfl
theorem f_9_2 (L : j_B) (m : j_M0) : j_rf (hH L m) 9 2 = some 11 := rfl
theorem f_9_3 (L : j_B) (m : j_M0) : j_rf (hH L m) 9 3 = some 12 := rfl
theorem f_19_0 (L : j_B) (m : j_M0) : j_rf (hH L m) 19 0 = some 20 := rfl
theorem f_19_1 (L : j_B) (m : j_M0) : j_rf (hH L m) 19 1 = some 25 := rfl
theorem f_19_2 (L : j_B) (m : j_M0) : j_rf (hH L m) 19 2 = some 29 := rfl
theorem f_19_6 (L : j_B) (m : j_M0) : j_rf (hH L m) 19 6 = some 30 := rfl
theorem f_19_7 (L : j_B) (m : j_M0) : j_rf (hH L m) 19 7 = some 31 := rfl
theorem f_19_9 (L : j_B) (m : j_M0) : j_rf (hH L m) 19 9 = some 32 := rfl
theorem f_19_10 (L : j_B) (m : j_M0) : j_rf (hH L m) 19 10 = some 33 := rfl
theorem f_19_11 (L : j_B) (m : j_M0) : j_rf (hH L m) 19 11 = some 34 := rfl
theorem f_20_2 (L : j_B) (m : j_M0) : j_rf (hH L m) 20 2 = some 21 := rfl
theorem f_20_3 (L : j_B) (m : j_M0) : j_rf (hH L m) 20 3 = some 22 := rfl
theorem f_20_4 (L : j_B) (m : j_M0) : j_rf (hH L m) 20 4 = some 23 := rfl
theorem f_20_5 (L : j_B) (m : j_M0) : j_rf (hH L m) 20 5 = some 24 := rfl
theorem f_25_1 (L : j_B) (m : j_M0) : j_rf (hH L m) 25 1 = some 26 := rfl
theorem f_25_2 (L : j_B) (m : j_M0) : j_rf (hH L m) 25 2 = some 27 := rfl
theorem f_25_3 (L : j_B) (m : j_M0) : j_rf (hH L m) 25 3 = some 28 := rfl
theorem f_35_2 (L : j_B) (m : j_M0) : j_rf (hH L m) 35 2 = some 36 := rfl
theorem f_35_3 (L : j_B) (m : j_M0) : j_rf (hH L m) 35 3 = some 37 := rfl
theorem f_35_4 (L : j_B) (m : j_M0) : j_rf (hH L m) 35 4 = some 38 := rfl
theorem f_35_5 (L : j_B) (m : j_M0) : j_rf (hH L m) 35 5 = some 39 := rfl
theorem f_40_0 (L : j_B) (m : j_M0) : j_rf (hH L m) 40 0 = some 41 := rfl
theorem f_40_1 (L : j_B) (m : j_M0) : j_rf (hH L m) 40 1 = some 50 := rfl
theorem f_41_5 (L : j_B) (m : j_M0) : j_rf (hH L m) 41 5 = some 42 := rfl
theorem f_41_6 (L : j_B) (m : j_M0) : j_rf (hH L m) 41 6 = some 43 := rfl
theorem f_41_7 (L : j_B) (m : j_M0) : j_rf (hH L m) 41 7 = some 44 := rfl
theorem f_41_8 (L : j_B) (m : j_M0) : j_rf (hH L m) 41 8 = some 45 := rfl
theorem f_41_9 (L : j_B) (m : j_M0) : j_rf (hH L m) 41 9 = some 46 := rfl
theorem f_41_10 (L : j_B) (m : j_M0) : j_rf (hH L m) 41 10 = some 47 := rfl
theorem f_41_11 (L : j_B) (m : j_M0) : j_rf (hH L m) 41 11 = some 48 := rfl
theorem f_41_12 (L : j_B) (m : j_M0) : j_rf (hH L m) 41 12 = some 49 := rfl
theorem f_50_1 (L : j_B) (m : j_M0) : j_rf (hH L m) 50 1 = some 51 := rfl
theorem f_50_2 (L : j_B) (m : j_M0) : j_rf (hH L m) 50 2 = some 52 := rfl
theorem f_50_3 (L : j_B) (m : j_M0) : j_rf (hH L m) 50 3 = some 53 := rfl
theorem f_54_0 (L : j_B) (m : j_M0) : j_rf (hH L m) 54 0 = some 55 := rfl
theorem f_54_1 (L : j_B) (m : j_M0) : j_rf (hH L m) 54 1 = some 64 := rfl
theorem f_55_5 (L : j_B) (m : j_M0) : j_rf (hH L m) 55 5 = some 56 := rfl
theorem f_55_6 (L : j_B) (m : j_M0) : j_rf (hH L m) 55 6 = some 57 := rfl
theorem f_55_7 (L : j_B) (m : j_M0) : j_rf (hH L m) 55 7 = some 58 := rfl
theorem f_55_8 (L : j_B) (m : j_M0) : j_rf (hH L m) 55 8 = some 59 := rfl
theorem f_55_9 (L : j_B) (m : j_M0) : j_rf (hH L m) 55 9 = some 60 := rfl
theorem f_55_10 (L : j_B) (m : j_M0) : j_rf (hH L m) 55 10 = some 61 := rfl
theorem f_55_11 (L : j_B) (m : j_M0) : j_rf (hH L m) 55 11 = some 62 := rfl
theorem f_55_12 (L : j_B) (m : j_M0) : j_rf (hH L m) 55 12 = some 63 := rfl
theorem f_64_1 (L : j_B) (m : j_M0) : j_rf (hH L m) 64 1 = some 65 := rfl
theorem f_64_2 (L : j_B) (m : j_M0) : j_rf (hH L m) 64 2 = some 66 := rfl
theorem f_64_3 (L : j_B) (m : j_M0) : j_rf (hH L m) 64 3 = some 67 := rfl
theorem f_68_2 (L : j_B) (m : j_M0) : j_rf (hH L m) 68 2 = some 69 := rfl
theorem f_68_3 (L : j_B) (m : j_M0) : j_rf (hH L m) 68 3 = some 70 := rfl
theorem f_68_4 (L : j_B) (m : j_M0) : j_rf (hH L m) 68 4 = some 71 := rfl
theorem f_68_5 (L : j_B) (m : j_M0) : j_rf (hH L m) 68 5 = some 80 := rfl
theorem f_68_6 (L : j_B) (m : j_M0) : j_rf (hH L m) 68 6 = some 81 := rfl
theorem f_68_7 (L : j_B) (m : j_M0) : j_rf (hH L m) 68 7 = some 82 := rfl
theorem f_68_8 (L : j_B) (m : j_M0) : j_rf (hH L m) 68 8 = some 83 := rfl
theorem f_68_9 (L : j_B) (m : j_M0) : j_rf (hH L m) 68 9 = some 84 := rfl
theorem f_68_10 (L : j_B) (m : j_M0) : j_rf (hH L m) 68 10 = some 85 := rfl
theorem f_71_5 (L : j_B) (m : j_M0) : j_rf (hH L m) 71 5 = some 72 := rfl
theorem f_71_6 (L : j_B) (m : j_M0) : j_rf (hH L m) 71 6 = some 73 := rfl
theorem f_71_7 (L : j_B) (m : j_M0) : j_rf (hH L m) 71 7 = some 74 := rfl
theorem f_71_8 (L : j_B) (m : j_M0) : j_rf (hH L m) 71 8 = some 75 := rfl
theorem f_71_9 (L : j_B) (m : j_M0) : j_rf (hH L m) 71 9 = some 76 := rfl
theorem f_71_10 (L : j_B) (m : j_M0) : j_rf (hH L m) 71 10 = some 77 := rfl
theorem f_71_11 (L : j_B) (m : j_M0) : j_rf (hH L m) 71 11 = some 78 := rfl
theorem f_71_12 (L : j_B) (m : j_M0) : j_rf (hH L m) 71 12 = some 79 := rfl
theorem f_86_4 (L : j_B) (m : j_M0) : j_rf (hH L m) 86 4 = some 109 := rfl
theorem f_86_5 (L : j_B) (m : j_M0) : j_rf (hH L m) 86 5 = some 87 := rfl
theorem f_86_6 (L : j_B) (m : j_M0) : j_rf (hH L m) 86 6 = some 88 := rfl
theorem f_89_1 (L : j_B) (m : j_M0) : j_rf (hH L m) 89 1 = some 90 := rfl
theorem f_89_2 (L : j_B) (m : j_M0) : j_rf (hH L m) 89 2 = some 91 := rfl
theorem f_89_3 (L : j_B) (m : j_M0) : j_rf (hH L m) 89 3 = some 92 := rfl
theorem f_93_2 (L : j_B) (m : j_M0) : j_rf (hH L m) 93 2 = some 94 := rfl
theorem f_93_5 (L : j_B) (m : j_M0) : j_rf (hH L m) 93 5 = some 95 := rfl
theorem f_93_6 (L : j_B) (m : j_M0) : j_rf (hH L m) 93 6 = some 96 := rfl
theorem f_93_7 (L : j_B) (m : j_M0) : j_rf (hH L m) 93 7 = some 97 := rfl
theorem f_98_0 (L : j_B) (m : j_M0) : j_rf (hH L m) 98 0 = some 99 := rfl
theorem f_98_1 (L : j_B) (m : j_M0) : j_rf (hH L m) 98 1 = some 100 := rfl
theorem f_98_2 (L : j_B) (m : j_M0) : j_rf (hH L m) 98 2 = some 101 := rfl
theorem f_109_2 (L : j_B) (m : j_M0) : j_rf (hH L m) 109 2 = some 110 := rfl
theorem f_109_3 (L : j_B) (m : j_M0) : j_rf (hH L m) 109 3 = some 111 := rfl
theorem f_109_4 (L : j_B) (m : j_M0) : j_rf (hH L m) 109 4 = some 112 := rfl
theorem f_109_5 (L : j_B) (m : j_M0) : j_rf (hH L m) 109 5 = some 113 := rfl
theorem ka_tp {L : j_B} {m : j_M0} {k : Nat} (hk : k < 6) : (hH L m).1[102 + k]? = some (33, 60) := by
  match k, hk with
  | 0, _ => rfl
  | 1, _ => rfl
  | 2, _ => rfl
  | 3, _ => rfl
  | 4, _ => rfl
  | 5, _ => rfl
theorem f_tp {L : j_B} {m : j_M0} {k : Nat} (hk : k < 6) : j_rf (hH L m) 101 k = some (102 + k) := by
  match k, hk with
  | 0, _ => rfl
  | 1, _ => rfl
  | 2, _ => rfl
  | 3, _ => rfl
  | 4, _ => rfl
  | 5, _ => rfl
theorem kd_tp {L : j_B} {m : j_M0} {k : Nat} (hk : k < 6) : j_kd (hH L m) (102 + k) = some (33, 60) := by
  unfold j_kd
  rw [ka_tp hk]
section HS
variable {C : Nat → List j_V → j_H → Option j_Z} {y pc a b : Nat} {z : Int} {ls : j_L} {r : List j_V} {L : j_B} {m : j_M0}
theorem H_tapes {i : Int} (hat : j_at y pc = some (.aaload, a, b, z)) : j_fin C y pc ls (jI i :: jR 101 :: r) (hH L m) = if 0 ≤ i ∧ i < ((6 : Nat) : Int) then j_fin C y (pc + 1) ls (jR (102 + i.toNat) :: r) (hH L m) else none := by
  rw [S_aaload (ka_101 L m) (B := 102 + i.toNat) (fun h1 h2 => f_tp (by omega)) hat]
theorem H_iaload {q N : Nat} {i : Int} (hK : (hH L m).1[q]? = some (32, N)) (hat : j_at y pc = some (.iaload, a, b, z)) : j_fin C y pc ls (jI i :: jR q :: r) (hH L m) = if 0 ≤ i ∧ i < (N : Int) then j_fin C y (pc + 1) ls (jI (m q i.toNat) :: r) (hH L m) else none := S_iaload hK hat
theorem H_laload {q N : Nat} {i : Int} (hK : (hH L m).1[q]? = some (33, N)) (hat : j_at y pc = some (.laload, a, b, z)) : j_fin C y pc ls (jI i :: jR q :: r) (hH L m) = if 0 ≤ i ∧ i < (N : Int) then j_fin C y (pc + 1) ls (jL (m q i.toNat) :: r) (hH L m) else none := S_laload hK hat
theorem H_baload34 {q N : Nat} {i : Int} (hK : j_kd (hH L m) q = some (34, N)) (hat : j_at y pc = some (.baload, a, b, z)) : j_fin C y pc ls (jI i :: jR q :: r) (hH L m) = if 0 ≤ i ∧ i < (N : Int) then j_fin C y (pc + 1) ls (jI (m q i.toNat) :: r) (hH L m) else none := S_baload34 hK hat
theorem H_baload35 {q N : Nat} {i : Int} (hK : j_kd (hH L m) q = some (35, N)) (hat : j_at y pc = some (.baload, a, b, z)) : j_fin C y pc ls (jI i :: jR q :: r) (hH L m) = if 0 ≤ i ∧ i < (N : Int) then j_fin C y (pc + 1) ls (jI (m q i.toNat) :: r) (hH L m) else none := S_baload35 hK hat
theorem H_iastore {q N : Nat} {i x : Int} (h2 : 2 ≤ q) (hK : (hH L m).1[q]? = some (32, N)) (hat : j_at y pc = some (.iastore, a, b, z)) : j_fin C y pc ls (jI x :: jI i :: jR q :: r) (hH L m) = if 0 ≤ i ∧ i < (N : Int) then j_fin C y (pc + 1) ls r (hH L (j_up m q i.toNat x)) else none := S_iastore h2 hK hat
theorem H_lastore {q N : Nat} {i x : Int} (h2 : 2 ≤ q) (hK : (hH L m).1[q]? = some (33, N)) (hat : j_at y pc = some (.lastore, a, b, z)) : j_fin C y pc ls (jL x :: jI i :: jR q :: r) (hH L m) = if 0 ≤ i ∧ i < (N : Int) then j_fin C y (pc + 1) ls r (hH L (j_up m q i.toNat x)) else none := S_lastore h2 hK hat
theorem H_bastore34 {q N : Nat} {i x : Int} (h2 : 2 ≤ q) (hK : (hH L m).1[q]? = some (34, N)) (hat : j_at y pc = some (.bastore, a, b, z)) : j_fin C y pc ls (jI x :: jI i :: jR q :: r) (hH L m) = if 0 ≤ i ∧ i < (N : Int) then j_fin C y (pc + 1) ls r (hH L (j_up m q i.toNat (w8 x))) else none := S_bastore34 h2 hK hat
theorem H_bastore35 {q N : Nat} {i x : Int} (h2 : 2 ≤ q) (hK : (hH L m).1[q]? = some (35, N)) (hat : j_at y pc = some (.bastore, a, b, z)) : j_fin C y pc ls (jI x :: jI i :: jR q :: r) (hH L m) = if 0 ≤ i ∧ i < (N : Int) then (if x = 0 ∨ x = 1 then j_fin C y (pc + 1) ls r (hH L (j_up m q i.toNat x)) else none) else none := S_bastore35 h2 hK hat
theorem H_get0 {q N n : Nat} (hK : (hH L m).1[q]? = some (a, N)) (hty : j_ty a b = 0) (hat : j_at y pc = some (.getfield n, a, b, z)) : j_fin C y pc ls (jR q :: r) (hH L m) = j_fin C y (pc + 3) ls (jI (m q b) :: r) (hH L m) := S_get0 hK hty hat
theorem H_get1 {q N n : Nat} (hK : (hH L m).1[q]? = some (a, N)) (hty : j_ty a b = 1) (hat : j_at y pc = some (.getfield n, a, b, z)) : j_fin C y pc ls (jR q :: r) (hH L m) = j_fin C y (pc + 3) ls (jL (m q b) :: r) (hH L m) := S_get1 hK hty hat
theorem H_get2 {q N n : Nat} (hK : (hH L m).1[q]? = some (a, N)) (hty : j_ty a b = 2) (hat : j_at y pc = some (.getfield n, a, b, z)) : j_fin C y pc ls (jR q :: r) (hH L m) = j_fin C y (pc + 3) ls (jI (m q b) :: r) (hH L m) := S_get2 hK hty hat
theorem H_put0 {q N n : Nat} {x : Int} (hK : (hH L m).1[q]? = some (a, N)) (hty : j_ty a b = 0) (hat : j_at y pc = some (.putfield n, a, b, z)) : j_fin C y pc ls (jI x :: jR q :: r) (hH L m) = j_fin C y (pc + 3) ls r (hH L (j_up m q b x)) := S_put0 hK hty hat
theorem H_put1 {q N n : Nat} {x : Int} (hK : (hH L m).1[q]? = some (a, N)) (hty : j_ty a b = 1) (hat : j_at y pc = some (.putfield n, a, b, z)) : j_fin C y pc ls (jL x :: jR q :: r) (hH L m) = j_fin C y (pc + 3) ls r (hH L (j_up m q b x)) := S_put1 hK hty hat
theorem H_put2 {q N n : Nat} {x : Int} (hK : (hH L m).1[q]? = some (a, N)) (hty : j_ty a b = 2) (hat : j_at y pc = some (.putfield n, a, b, z)) : j_fin C y pc ls (jI x :: jR q :: r) (hH L m) = if x = 0 ∨ x = 1 then j_fin C y (pc + 3) ls r (hH L (j_up m q b x)) else none := S_put2 hK hty hat
theorem H_cpy {n0 q1 q0 k N0 N1 : Nat} {n dp sp : Int} (ha : a = 9999) (hk : k = 32 ∨ k = 33) (h0 : j_kd (hH L m) q0 = some (k, N0)) (h1 : (hH L m).1[q1]? = some (k, N1)) (hq : 2 ≤ q0 ∧ 2 ≤ q1) (hcat : (r.map j_cat).sum ≤ 8) (hat : j_at y pc = some (.invokestatic n0, a, b, z)) : j_fin C y pc ls (jI n :: jI dp :: jR q1 :: jI sp :: jR q0 :: r) (hH L m) = if 0 ≤ n ∧ 0 ≤ sp ∧ 0 ≤ dp ∧ sp + n ≤ (N0 : Int) ∧ dp + n ≤ (N1 : Int) then j_fin C y (pc + 3) ls r (hH L (j_cpy m q0 sp.toNat q1 dp.toNat n.toNat)) else none := S_cpy ha hk h0 h1 hq hcat hat
end HS
theorem kn_1 : j_kn[1]? = some (2, 0, 0) := by decide +kernel
theorem kn_2 : j_kn[2]? = some (2, 0, 2) := by decide +kernel
theorem kn_4 : j_kn[4]? = some (2, 0, 3) := by decide +kernel
theorem kn_5 : j_kn[5]? = some (2, 0, 4) := by decide +kernel
theorem kn_8 : j_kn[8]? = some (3, 0, 1) := by decide +kernel
theorem kn_9 : j_kn[9]? = some (3, 0, 1) := by decide +kernel
theorem kn_10 : j_kn[10]? = some (3, 0, 2) := by decide +kernel
theorem kn_11 : j_kn[11]? = some (3, 0, 2) := by decide +kernel
theorem kn_12 : j_kn[12]? = some (3, 0, 3) := by decide +kernel
theorem kn_13 : j_kn[13]? = some (3, 0, 2) := by decide +kernel
theorem kn_14 : j_kn[14]? = some (3, 0, 1) := by decide +kernel
theorem kn_16 : j_kn[16]? = some (3, 0, 2) := by decide +kernel
theorem kn_17 : j_kn[17]? = some (3, 0, 3) := by decide +kernel
theorem kn_18 : j_kn[18]? = some (3, 0, 2) := by decide +kernel
theorem kn_19 : j_kn[19]? = some (3, 1, 1) := by decide +kernel
theorem kn_21 : j_kn[21]? = some (4, 0, 1) := by decide +kernel
theorem kn_22 : j_kn[22]? = some (4, 0, 0) := by decide +kernel
theorem kn_23 : j_kn[23]? = some (4, 0, 1) := by decide +kernel
theorem kn_24 : j_kn[24]? = some (4, 0, 1) := by decide +kernel
theorem kn_25 : j_kn[25]? = some (4, 0, 3) := by decide +kernel
theorem kn_27 : j_kn[27]? = some (4, 0, 3) := by decide +kernel
theorem kn_29 : j_kn[29]? = some (5, 0, 2) := by decide +kernel
theorem kn_30 : j_kn[30]? = some (5, 0, 1) := by decide +kernel
theorem kn_32 : j_kn[32]? = some (6, 0, 1) := by decide +kernel
theorem kn_33 : j_kn[33]? = some (6, 0, 1) := by decide +kernel
theorem kn_34 : j_kn[34]? = some (6, 0, 2) := by decide +kernel
theorem kn_35 : j_kn[35]? = some (6, 0, 3) := by decide +kernel
theorem kn_38 : j_kn[38]? = some (7, 0, 1) := by decide +kernel
theorem kn_39 : j_kn[39]? = some (7, 0, 2) := by decide +kernel
theorem kn_42 : j_kn[42]? = some (7, 0, 2) := by decide +kernel
theorem kn_43 : j_kn[43]? = some (7, 0, 1) := by decide +kernel
theorem kn_44 : j_kn[44]? = some (7, 0, 1) := by decide +kernel
theorem kn_45 : j_kn[45]? = some (7, 0, 0) := by decide +kernel
theorem kn_46 : j_kn[46]? = some (7, 0, 0) := by decide +kernel
theorem kn_47 : j_kn[47]? = some (7, 0, 1) := by decide +kernel
theorem kn_48 : j_kn[48]? = some (7, 0, 3) := by decide +kernel
theorem kn_49 : j_kn[49]? = some (7, 0, 2) := by decide +kernel
theorem kn_50 : j_kn[50]? = some (7, 0, 3) := by decide +kernel
theorem kn_51 : j_kn[51]? = some (7, 0, 5) := by decide +kernel
theorem kn_52 : j_kn[52]? = some (7, 0, 1) := by decide +kernel
theorem kn_53 : j_kn[53]? = some (7, 0, 1) := by decide +kernel
theorem kn_54 : j_kn[54]? = some (7, 0, 1) := by decide +kernel
theorem kn_56 : j_kn[56]? = some (7, 0, 0) := by decide +kernel
theorem kn_61 : j_kn[61]? = some (8, 0, 3) := by decide +kernel
theorem kn_62 : j_kn[62]? = some (8, 0, 2) := by decide +kernel
theorem kn_65 : j_kn[65]? = some (9, 0, 1) := by decide +kernel
theorem kn_66 : j_kn[66]? = some (9, 0, 1) := by decide +kernel
theorem kn_67 : j_kn[67]? = some (9, 0, 0) := by decide +kernel
theorem kn_68 : j_kn[68]? = some (9, 0, 1) := by decide +kernel
theorem kn_69 : j_kn[69]? = some (9, 0, 0) := by decide +kernel
theorem kn_70 : j_kn[70]? = some (9, 0, 0) := by decide +kernel
theorem kn_71 : j_kn[71]? = some (9, 0, 1) := by decide +kernel
theorem kn_72 : j_kn[72]? = some (9, 0, 1) := by decide +kernel
theorem kn_88 : j_kn[88]? = some (12, 0, 1) := by decide +kernel
theorem kn_89 : j_kn[89]? = some (12, 0, 2) := by decide +kernel
theorem kn_91 : j_kn[91]? = some (12, 0, 3) := by decide +kernel
theorem kn_92 : j_kn[92]? = some (12, 0, 2) := by decide +kernel
theorem kn_93 : j_kn[93]? = some (12, 0, 0) := by decide +kernel
theorem kn_94 : j_kn[94]? = some (12, 0, 1) := by decide +kernel
theorem kn_95 : j_kn[95]? = some (12, 0, 0) := by decide +kernel
theorem kn_96 : j_kn[96]? = some (12, 0, 2) := by decide +kernel
theorem kn_97 : j_kn[97]? = some (12, 0, 1) := by decide +kernel
theorem kn_99 : j_kn[99]? = some (12, 0, 2) := by decide +kernel
theorem kn_115 : j_kn[115]? = some (12, 0, 2) := by decide +kernel
theorem kn_116 : j_kn[116]? = some (12, 0, 2) := by decide +kernel
theorem kn_117 : j_kn[117]? = some (12, 0, 2) := by decide +kernel
theorem kn_119 : j_kn[119]? = some (12, 0, 1) := by decide +kernel
theorem kn_120 : j_kn[120]? = some (12, 0, 2) := by decide +kernel
theorem kn_121 : j_kn[121]? = some (12, 0, 2) := by decide +kernel
theorem kn_122 : j_kn[122]? = some (12, 0, 2) := by decide +kernel
theorem kn_123 : j_kn[123]? = some (12, 0, 1) := by decide +kernel
theorem kn_124 : j_kn[124]? = some (12, 0, 0) := by decide +kernel
theorem kn_125 : j_kn[125]? = some (12, 0, 3) := by decide +kernel
theorem kn_126 : j_kn[126]? = some (12, 0, 0) := by decide +kernel
theorem kn_128 : j_kn[128]? = some (12, 0, 0) := by decide +kernel
theorem kn_129 : j_kn[129]? = some (12, 0, 0) := by decide +kernel
theorem kn_130 : j_kn[130]? = some (12, 0, 1) := by decide +kernel
theorem kn_131 : j_kn[131]? = some (12, 0, 3) := by decide +kernel
theorem kn_132 : j_kn[132]? = some (12, 0, 3) := by decide +kernel
theorem kn_135 : j_kn[135]? = some (12, 0, 1) := by decide +kernel
theorem kn_136 : j_kn[136]? = some (12, 0, 1) := by decide +kernel
theorem kn_138 : j_kn[138]? = some (12, 0, 1) := by decide +kernel
theorem kn_139 : j_kn[139]? = some (12, 1, 1) := by decide +kernel
theorem kn_140 : j_kn[140]? = some (12, 1, 1) := by decide +kernel
theorem kn_141 : j_kn[141]? = some (12, 1, 1) := by decide +kernel
theorem kn_142 : j_kn[142]? = some (12, 1, 1) := by decide +kernel
theorem kn_143 : j_kn[143]? = some (12, 1, 2) := by decide +kernel
theorem kn_144 : j_kn[144]? = some (12, 1, 1) := by decide +kernel
theorem kn_145 : j_kn[145]? = some (12, 0, 0) := by decide +kernel
theorem kn_146 : j_kn[146]? = some (12, 1, 3) := by decide +kernel
theorem kn_265 : j_kn[265]? = some (14, 1, 2) := by decide +kernel
theorem kn_266 : j_kn[266]? = some (14, 1, 2) := by decide +kernel
theorem kn_267 : j_kn[267]? = some (14, 1, 1) := by decide +kernel
theorem kn_269 : j_kn[269]? = some (15, 1, 2) := by decide +kernel
theorem kn_270 : j_kn[270]? = some (15, 1, 2) := by decide +kernel
theorem kn_271 : j_kn[271]? = some (13, 1, 1) := by decide +kernel
theorem kn_272 : j_kn[272]? = some (0, 0, 1) := by decide +kernel
theorem kn_273 : j_kn[273]? = some (0, 1, 2) := by decide +kernel
theorem kn_274 : j_kn[274]? = some (0, 0, 0) := by decide +kernel
theorem kn_275 : j_kn[275]? = some (0, 0, 3) := by decide +kernel
theorem kn_276 : j_kn[276]? = some (0, 2, 1) := by decide +kernel
theorem kn_277 : j_kn[277]? = some (0, 2, 1) := by decide +kernel
theorem kn_278 : j_kn[278]? = some (0, 0, 0) := by decide +kernel
theorem kn_279 : j_kn[279]? = some (0, 0, 0) := by decide +kernel
theorem kn_280 : j_kn[280]? = some (18, 1, 1) := by decide +kernel
theorem kn_281 : j_kn[281]? = some (18, 1, 2) := by decide +kernel
theorem kn_282 : j_kn[282]? = some (20, 1, 2) := by decide +kernel
theorem kn_283 : j_kn[283]? = some (1, 0, 1) := by decide +kernel
theorem kn_284 : j_kn[284]? = some (1, 0, 1) := by decide +kernel
theorem kn_285 : j_kn[285]? = some (1, 0, 1) := by decide +kernel
theorem kn_286 : j_kn[286]? = some (1, 2, 0) := by decide +kernel
theorem kn_287 : j_kn[287]? = some (1, 0, 0) := by decide +kernel
theorem kn_288 : j_kn[288]? = some (1, 0, 0) := by decide +kernel
theorem kn_289 : j_kn[289]? = some (16, 0, 1) := by decide +kernel
theorem kn_290 : j_kn[290]? = some (16, 0, 1) := by decide +kernel
theorem kn_291 : j_kn[291]? = some (16, 0, 1) := by decide +kernel
theorem kn_292 : j_kn[292]? = some (16, 0, 1) := by decide +kernel
theorem kn_293 : j_kn[293]? = some (16, 0, 0) := by decide +kernel
theorem kn_294 : j_kn[294]? = some (16, 0, 1) := by decide +kernel
theorem kn_295 : j_kn[295]? = some (16, 2, 1) := by decide +kernel
theorem kn_296 : j_kn[296]? = some (16, 0, 0) := by decide +kernel
theorem kn_297 : j_kn[297]? = some (16, 0, 0) := by decide +kernel
theorem kn_298 : j_kn[298]? = some (16, 0, 1) := by decide +kernel
theorem kn_299 : j_kn[299]? = some (16, 0, 2) := by decide +kernel
theorem kn_300 : j_kn[300]? = some (17, 1, 3) := by decide +kernel
theorem kn_301 : j_kn[301]? = some (17, 1, 1) := by decide +kernel
theorem kn_302 : j_kn[302]? = some (15, 1, 2) := by decide +kernel
theorem kn_303 : j_kn[303]? = some (15, 1, 3) := by decide +kernel
theorem kn_304 : j_kn[304]? = some (15, 1, 3) := by decide +kernel
theorem kn_305 : j_kn[305]? = some (15, 1, 2) := by decide +kernel
theorem kn_306 : j_kn[306]? = some (19, 1, 3) := by decide +kernel
theorem kn_307 : j_kn[307]? = some (14, 1, 2) := by decide +kernel
theorem kn_308 : j_kn[308]? = some (13, 1, 2) := by decide +kernel
theorem kn_309 : j_kn[309]? = some (13, 1, 2) := by decide +kernel
