/-! The equations between cuts: what a stretch of a method computes (by program: symex.py). -/
theorem tsw_62_1 {C : Nat → List j_V → j_H → Option j_Z} {ls : j_L} {r : List j_V} {h : j_H} (x : Int) : j_fin C 62 1 ls (jI x :: r) h = if x = 0 then j_fin C 62 36 ls r h else if x = 1 then j_fin C 62 41 ls r h else if x = 2 then j_fin C 62 46 ls r h else if x = 3 then j_fin C 62 62 ls r h else if x = 4 then j_fin C 62 50 ls r h else j_fin C 62 62 ls r h := by
  rw [S_tsw at_62_1]
  by_cases h0 : x = 0
  · subst h0
    rfl
  rw [if_neg h0]
  by_cases h1 : x = 1
  · subst h1
    rfl
  rw [if_neg h1]
  by_cases h2 : x = 2
  · subst h2
    rfl
  rw [if_neg h2]
  by_cases h3 : x = 3
  · subst h3
    rfl
  rw [if_neg h3]
  by_cases h4 : x = 4
  · subst h4
    rfl
  rw [if_neg h4]
  rw [if_neg (by omega)]
  rfl
theorem tsw_130_1 {C : Nat → List j_V → j_H → Option j_Z} {ls : j_L} {r : List j_V} {h : j_H} (x : Int) : j_fin C 130 1 ls (jI x :: r) h = if x = 0 then j_fin C 130 56 ls r h else if x = 1 then j_fin C 130 67 ls r h else if x = 2 then j_fin C 130 78 ls r h else if x = 3 then j_fin C 130 100 ls r h else if x = 4 then j_fin C 130 122 ls r h else if x = 5 then j_fin C 130 144 ls r h else if x = 6 then j_fin C 130 152 ls r h else if x = 7 then j_fin C 130 160 ls r h else if x = 8 then j_fin C 130 171 ls r h else if x = 9 then j_fin C 130 179 ls r h else j_fin C 130 187 ls r h := by
  rw [S_tsw at_130_1]
  by_cases h0 : x = 0
  · subst h0
    rfl
  rw [if_neg h0]
  by_cases h1 : x = 1
  · subst h1
    rfl
  rw [if_neg h1]
  by_cases h2 : x = 2
  · subst h2
    rfl
  rw [if_neg h2]
  by_cases h3 : x = 3
  · subst h3
    rfl
  rw [if_neg h3]
  by_cases h4 : x = 4
  · subst h4
    rfl
  rw [if_neg h4]
  by_cases h5 : x = 5
  · subst h5
    rfl
  rw [if_neg h5]
  by_cases h6 : x = 6
  · subst h6
    rfl
  rw [if_neg h6]
  by_cases h7 : x = 7
  · subst h7
    rfl
  rw [if_neg h7]
  by_cases h8 : x = 8
  · subst h8
    rfl
  rw [if_neg h8]
  by_cases h9 : x = 9
  · subst h9
    rfl
  rw [if_neg h9]
  rw [if_neg (by omega)]
  rfl
theorem T1_0_50 {C : Nat → List j_V → j_H → Option j_Z} {L : j_B} {m : j_M0} : j_fin C 1 0 [some (jR 50)] [] (hH L m) = some (none, hH L (j_up m 50 0 0)) := by
  refine (S_aload_n rfl at_1_0).trans ?_
  refine (S_iconst at_1_1).trans ?_
  refine (H_put0 (ka_50 L _) rfl at_1_2).trans ?_
  exact S_ret rfl at_1_5
theorem T1_0_64 {C : Nat → List j_V → j_H → Option j_Z} {L : j_B} {m : j_M0} : j_fin C 1 0 [some (jR 64)] [] (hH L m) = some (none, hH L (j_up m 64 0 0)) := by
  refine (S_aload_n rfl at_1_0).trans ?_
  refine (S_iconst at_1_1).trans ?_
  refine (H_put0 (ka_64 L _) rfl at_1_2).trans ?_
  exact S_ret rfl at_1_5
theorem T2_0_50 {C : Nat → List j_V → j_H → Option j_Z} {L : j_B} {m : j_M0} {x1 : Int} {x2 : Int} : j_fin C 2 0 [some (jR 50), some (jI x1), some (jI x2)] [] (hH L m) = if 0 ≤ (w32 ((w32 (x1 * 6)) + x2)) ∧ (w32 ((w32 (x1 * 6)) + x2)) < 72 then some (some (jL (m 52 (w32 ((w32 (x1 * 6)) + x2)).toNat)), hH L m) else none := by
  refine (S_aload_n rfl at_2_0).trans ?_
  refine (S_getR (ka_50 L _) rfl (f_50_2 L _) at_2_1).trans ?_
  refine (S_iload_n rfl at_2_4).trans ?_
  refine (S_bipush at_2_5).trans ?_
  refine (S_imul at_2_7).trans ?_
  refine (S_iload_n rfl at_2_8).trans ?_
  refine (S_iadd at_2_9).trans ?_
  refine (H_laload (ka_52 L _) at_2_10).trans ?_
  refine ite_congr rfl (fun hi => ?_) (fun _ => rfl)
  exact S_lret rfl at_2_11
theorem T2_0_64 {C : Nat → List j_V → j_H → Option j_Z} {L : j_B} {m : j_M0} {x1 : Int} {x2 : Int} : j_fin C 2 0 [some (jR 64), some (jI x1), some (jI x2)] [] (hH L m) = if 0 ≤ (w32 ((w32 (x1 * 6)) + x2)) ∧ (w32 ((w32 (x1 * 6)) + x2)) < 72 then some (some (jL (m 66 (w32 ((w32 (x1 * 6)) + x2)).toNat)), hH L m) else none := by
  refine (S_aload_n rfl at_2_0).trans ?_
  refine (S_getR (ka_64 L _) rfl (f_64_2 L _) at_2_1).trans ?_
  refine (S_iload_n rfl at_2_4).trans ?_
  refine (S_bipush at_2_5).trans ?_
  refine (S_imul at_2_7).trans ?_
  refine (S_iload_n rfl at_2_8).trans ?_
  refine (S_iadd at_2_9).trans ?_
  refine (H_laload (ka_66 L _) at_2_10).trans ?_
  refine ite_congr rfl (fun hi => ?_) (fun _ => rfl)
  exact S_lret rfl at_2_11
theorem T4_0_50_41_4 {C : Nat → List j_V → j_H → Option j_Z} {L : j_B} {m : j_M0} {x2 : Int} : j_fin C 4 0 [some (jR 50), some (jR 41), some (jI x2), some (jR 4), none, none, none] [] (hH L m) = j_fin C 4 3 [some (jR 50), some (jR 41), some (jI x2), some (jR 4), some (jI 0), none, none] [] (hH L m) := by
  refine (S_iconst at_4_0).trans ?_
  refine (S_istore (l1 := [some (jR 50), some (jR 41), some (jI x2), some (jR 4), some (jI 0), none, none]) rfl at_4_1).trans ?_
  rfl
theorem T4_3_50_41_4 {C : Nat → List j_V → j_H → Option j_Z} {L : j_B} {m : j_M0} {x2 : Int} {x4 : Int} {o5 : Option j_V} : j_fin C 4 3 [some (jR 50), some (jR 41), some (jI x2), some (jR 4), some (jI x4), o5, none] [] (hH L m) = if (m 4 0) < x4 then j_fin C 4 59 [some (jR 50), some (jR 41), some (jI x2), some (jR 4), some (jI 0), o5, none] [] (hH L m) else (C 5 [jR 50, jR 41, jI x2, jR 4, jI x4] (hH L m)).bind fun z => j_fin C 4 21 [some (jR 50), some (jR 41), some (jI x2), some (jR 4), some (jI x4), o5, none] (z.1.toList ++ []) z.2 := by
  refine (S_iload rfl at_4_3).trans ?_
  refine (S_aload_n rfl at_4_5).trans ?_
  refine (H_get0 (ka_4 L _) rfl at_4_6).trans ?_
  refine (S_icmp_gt at_4_9).trans ?_
  refine ite_congr rfl (fun _ => ?_) (fun _ => ?_)
  · refine (S_iconst at_4_56).trans ?_
    refine (S_istore (l1 := [some (jR 50), some (jR 41), some (jI x2), some (jR 4), some (jI 0), o5, none]) rfl at_4_57).trans ?_
    rfl
  · refine (S_aload_n rfl at_4_12).trans ?_
    refine (S_aload_n rfl at_4_13).trans ?_
    refine (S_iload_n rfl at_4_14).trans ?_
    refine (S_aload_n rfl at_4_15).trans ?_
    refine (S_iload rfl at_4_16).trans ?_
    refine (S_invv (b := 4) (by decide) kn_5 rfl (kd_50 L _) (Nat.le_of_ble_eq_true rfl) at_4_18).trans ?_
    rfl
theorem T4_21_50_41_4 {C : Nat → List j_V → j_H → Option j_Z} {L : j_B} {m : j_M0} {x2 : Int} {x4 : Int} {o5 : Option j_V} {t0 : Int} : j_fin C 4 21 [some (jR 50), some (jR 41), some (jI x2), some (jR 4), some (jI x4), o5, none] [jL t0] (hH L m) = (C 144 [jL t0] (hH L m)).bind fun z => j_fin C 4 28 [some (jR 50), some (jR 41), some (jI x2), some (jR 4), some (jI x4), some (jL t0), none] (z.1.toList ++ []) z.2 := by
  refine (S_lstore (l1 := [some (jR 50), some (jR 41), some (jI x2), some (jR 4), some (jI x4), some (jL t0), none]) rfl at_4_21).trans ?_
  refine (S_lload rfl at_4_23).trans ?_
  refine (S_invs (by decide) (Nat.le_of_ble_eq_true rfl) (Nat.le_of_ble_eq_true rfl) at_4_25).trans ?_
  rfl
theorem T4_28_50_41_4 {C : Nat → List j_V → j_H → Option j_Z} {L : j_B} {m : j_M0} {x2 : Int} {x4 : Int} {y5 : Int} {s0 : Int} : j_fin C 4 28 [some (jR 50), some (jR 41), some (jI x2), some (jR 4), some (jI x4), some (jL y5), none] [jI s0] (hH L m) = if s0 = 0 then some (some (jI 0), hH L m) else if 0 ≤ (w32 ((w32 ((m 50 0) * 6)) + x4)) ∧ (w32 ((w32 ((m 50 0) * 6)) + x4)) < 72 then j_fin C 4 3 [some (jR 50), some (jR 41), some (jI x2), some (jR 4), some (jI (w32 (x4 + 1))), some (jL y5), none] [] (hH L (j_up m 52 (w32 ((w32 ((m 50 0) * 6)) + x4)).toNat y5)) else none := by
  refine (S_if_ne at_4_28).trans ?_
  refine ite_congr rfl (fun _ => ?_) (fun _ => ?_)
  · refine (S_iconst at_4_31).trans ?_
    exact (S_iretz rfl at_4_32).trans (if_pos (by decide))
  · refine (S_aload_n rfl at_4_33).trans ?_
    refine (S_getR (ka_50 L _) rfl (f_50_2 L _) at_4_34).trans ?_
    refine (S_aload_n rfl at_4_37).trans ?_
    refine (H_get0 (ka_50 L _) rfl at_4_38).trans ?_
    refine (S_bipush at_4_41).trans ?_
    refine (S_imul at_4_43).trans ?_
    refine (S_iload rfl at_4_44).trans ?_
    refine (S_iadd at_4_46).trans ?_
    refine (S_lload rfl at_4_47).trans ?_
    refine (H_lastore (by omega) (ka_52 L _) at_4_49).trans ?_
    refine ite_congr rfl (fun hi => ?_) (fun _ => rfl)
    refine (S_iinc (l1 := [some (jR 50), some (jR 41), some (jI x2), some (jR 4), some (jI (w32 (x4 + 1))), some (jL y5), none]) rfl rfl at_4_50).trans ?_
    refine (S_goto at_4_53).trans ?_
    rfl
theorem T4_59_50_41_4 {C : Nat → List j_V → j_H → Option j_Z} {L : j_B} {m : j_M0} {x2 : Int} {x4 : Int} {o5 : Option j_V} : j_fin C 4 59 [some (jR 50), some (jR 41), some (jI x2), some (jR 4), some (jI x4), o5, none] [] (hH L m) = if x4 < 22 then if 0 ≤ (w32 ((w32 ((m 50 0) * 22)) + x4)) ∧ (w32 ((w32 ((m 50 0) * 22)) + x4)) < 264 then j_fin C 4 59 [some (jR 50), some (jR 41), some (jI x2), some (jR 4), some (jI (w32 (x4 + 1))), o5, none] [] (hH L (j_up m 53 (w32 ((w32 ((m 50 0) * 22)) + x4)).toNat 0)) else none else j_fin C 4 91 [some (jR 50), some (jR 41), some (jI x2), some (jR 4), some (jI 0), o5, none] [] (hH L m) := by
  refine (S_iload rfl at_4_59).trans ?_
  refine (S_bipush at_4_61).trans ?_
  refine (S_icmp_ge at_4_63).trans ?_
  refine ite_congr rfl (fun _ => ?_) (fun _ => ?_)
  · refine (S_aload_n rfl at_4_66).trans ?_
    refine (S_getR (ka_50 L _) rfl (f_50_3 L _) at_4_67).trans ?_
    refine (S_aload_n rfl at_4_70).trans ?_
    refine (H_get0 (ka_50 L _) rfl at_4_71).trans ?_
    refine (S_bipush at_4_74).trans ?_
    refine (S_imul at_4_76).trans ?_
    refine (S_iload rfl at_4_77).trans ?_
    refine (S_iadd at_4_79).trans ?_
    refine (S_lconst at_4_80).trans ?_
    refine (H_lastore (by omega) (ka_53 L _) at_4_81).trans ?_
    refine ite_congr rfl (fun hi => ?_) (fun _ => rfl)
    refine (S_iinc (l1 := [some (jR 50), some (jR 41), some (jI x2), some (jR 4), some (jI (w32 (x4 + 1))), o5, none]) rfl rfl at_4_82).trans ?_
    refine (S_goto at_4_85).trans ?_
    rfl
  · refine (S_iconst at_4_88).trans ?_
    refine (S_istore (l1 := [some (jR 50), some (jR 41), some (jI x2), some (jR 4), some (jI 0), o5, none]) rfl at_4_89).trans ?_
    rfl
theorem T4_91_50_41_4 {C : Nat → List j_V → j_H → Option j_Z} {L : j_B} {m : j_M0} {x2 : Int} {x4 : Int} {o5 : Option j_V} : j_fin C 4 91 [some (jR 50), some (jR 41), some (jI x2), some (jR 4), some (jI x4), o5, none] [] (hH L m) = if x4 < (m 41 1) then if 0 ≤ x4 ∧ x4 < 5 then if (w32 ((m 43 x4.toNat) - 10)) < 0 then j_fin C 4 91 [some (jR 50), some (jR 41), some (jI x2), some (jR 4), some (jI (w32 (x4 + 1))), some (jI (w32 ((m 43 x4.toNat) - 10))), none] [] (hH L m) else if (w32 ((m 43 x4.toNat) - 10)) < 22 then if 0 ≤ (w32 ((w32 (x2 * 5)) + x4)) ∧ (w32 ((w32 (x2 * 5)) + x4)) < 100 then (C 43 [jR 41, jL (m 44 (w32 ((w32 (x2 * 5)) + x4)).toNat)] (hH L m)).bind fun z => j_fin C 4 156 [some (jR 50), some (jR 41), some (jI x2), some (jR 4), some (jI x4), some (jI (w32 ((m 43 x4.toNat) - 10))), none] (z.1.toList ++ [jI (w32 ((w32 ((m 50 0) * 22)) + (w32 ((m 43 x4.toNat) - 10)))), jR 53]) z.2 else none else j_fin C 4 91 [some (jR 50), some (jR 41), some (jI x2), some (jR 4), some (jI (w32 (x4 + 1))), some (jI (w32 ((m 43 x4.toNat) - 10))), none] [] (hH L m) else none else if 0 ≤ (m 50 0) ∧ (m 50 0) < 12 then some (some (jI 1), hH L (j_up (j_up m 51 (m 50 0).toNat (m 41 4)) 50 0 (w32 (((j_up m 51 (m 50 0).toNat (m 41 4)) 50 0) + 1)))) else none := by
  refine (S_iload rfl at_4_91).trans ?_
  refine (S_aload_n rfl at_4_93).trans ?_
  refine (H_get0 (ka_41 L _) rfl at_4_94).trans ?_
  refine (S_icmp_ge at_4_97).trans ?_
  refine ite_congr rfl (fun _ => ?_) (fun _ => ?_)
  · refine (S_aload_n rfl at_4_100).trans ?_
    refine (S_getR (ka_41 L _) rfl (f_41_6 L _) at_4_101).trans ?_
    refine (S_iload rfl at_4_104).trans ?_
    refine (H_iaload (ka_43 L _) at_4_106).trans ?_
    refine ite_congr rfl (fun hi => ?_) (fun _ => rfl)
    refine (S_bipush at_4_107).trans ?_
    refine (S_isub at_4_109).trans ?_
    refine (S_istore (l1 := [some (jR 50), some (jR 41), some (jI x2), some (jR 4), some (jI x4), some (jI (w32 ((m 43 x4.toNat) - 10))), none]) rfl at_4_110).trans ?_
    refine (S_iload rfl at_4_112).trans ?_
    refine (S_if_lt at_4_114).trans ?_
    refine ite_congr rfl (fun _ => ?_) (fun _ => ?_)
    · refine (S_iinc (l1 := [some (jR 50), some (jR 41), some (jI x2), some (jR 4), some (jI (w32 (x4 + 1))), some (jI (w32 ((m 43 x4.toNat) - 10))), none]) rfl rfl at_4_157).trans ?_
      refine (S_goto at_4_160).trans ?_
      rfl
    · refine (S_iload rfl at_4_117).trans ?_
      refine (S_bipush at_4_119).trans ?_
      refine (S_icmp_lt at_4_121).trans ?_
      refine ite_congr rfl (fun _ => ?_) (fun _ => ?_)
      · refine (S_aload_n rfl at_4_127).trans ?_
        refine (S_getR (ka_50 L _) rfl (f_50_3 L _) at_4_128).trans ?_
        refine (S_aload_n rfl at_4_131).trans ?_
        refine (H_get0 (ka_50 L _) rfl at_4_132).trans ?_
        refine (S_bipush at_4_135).trans ?_
        refine (S_imul at_4_137).trans ?_
        refine (S_iload rfl at_4_138).trans ?_
        refine (S_iadd at_4_140).trans ?_
        refine (S_aload_n rfl at_4_141).trans ?_
        refine (S_aload_n rfl at_4_142).trans ?_
        refine (S_getR (ka_41 L _) rfl (f_41_7 L _) at_4_143).trans ?_
        refine (S_iload_n rfl at_4_146).trans ?_
        refine (S_iconst at_4_147).trans ?_
        refine (S_imul at_4_148).trans ?_
        refine (S_iload rfl at_4_149).trans ?_
        refine (S_iadd at_4_151).trans ?_
        refine (H_laload (ka_44 L _) at_4_152).trans ?_
        refine ite_congr rfl (fun hi => ?_) (fun _ => rfl)
        refine (S_invv (b := 1) (by decide) kn_43 rfl (kd_41 L _) (Nat.le_of_ble_eq_true rfl) at_4_153).trans ?_
        rfl
      · refine (S_goto at_4_124).trans ?_
        refine (S_iinc (l1 := [some (jR 50), some (jR 41), some (jI x2), some (jR 4), some (jI (w32 (x4 + 1))), some (jI (w32 ((m 43 x4.toNat) - 10))), none]) rfl rfl at_4_157).trans ?_
        refine (S_goto at_4_160).trans ?_
        rfl
  · refine (S_aload_n rfl at_4_163).trans ?_
    refine (S_getR (ka_50 L _) rfl (f_50_1 L _) at_4_164).trans ?_
    refine (S_aload_n rfl at_4_167).trans ?_
    refine (H_get0 (ka_50 L _) rfl at_4_168).trans ?_
    refine (S_aload_n rfl at_4_171).trans ?_
    refine (H_get1 (ka_41 L _) rfl at_4_172).trans ?_
    refine (H_lastore (by omega) (ka_51 L _) at_4_175).trans ?_
    refine ite_congr rfl (fun hi => ?_) (fun _ => rfl)
    refine (S_aload_n rfl at_4_176).trans ?_
    refine (S_dup rfl at_4_177).trans ?_
    refine (H_get0 (ka_50 L _) rfl at_4_178).trans ?_
    refine (S_iconst at_4_181).trans ?_
    refine (S_iadd at_4_182).trans ?_
    refine (H_put0 (ka_50 L _) rfl at_4_183).trans ?_
    refine (S_iconst at_4_186).trans ?_
    exact (S_iretz rfl at_4_187).trans (if_pos (by decide))
theorem T4_156_50_41_4 {C : Nat → List j_V → j_H → Option j_Z} {L : j_B} {m : j_M0} {x2 : Int} {x4 : Int} {x5 : Int} {s1 : Int} {t2 : Int} : j_fin C 4 156 [some (jR 50), some (jR 41), some (jI x2), some (jR 4), some (jI x4), some (jI x5), none] [jL t2, jI s1, jR 53] (hH L m) = if 0 ≤ s1 ∧ s1 < 264 then j_fin C 4 91 [some (jR 50), some (jR 41), some (jI x2), some (jR 4), some (jI (w32 (x4 + 1))), some (jI x5), none] [] (hH L (j_up m 53 s1.toNat t2)) else none := by
  refine (H_lastore (by omega) (ka_53 L _) at_4_156).trans ?_
  refine ite_congr rfl (fun hi => ?_) (fun _ => rfl)
  refine (S_iinc (l1 := [some (jR 50), some (jR 41), some (jI x2), some (jR 4), some (jI (w32 (x4 + 1))), some (jI x5), none]) rfl rfl at_4_157).trans ?_
  refine (S_goto at_4_160).trans ?_
  rfl
theorem T4_0_64_55_35 {C : Nat → List j_V → j_H → Option j_Z} {L : j_B} {m : j_M0} {x2 : Int} : j_fin C 4 0 [some (jR 64), some (jR 55), some (jI x2), some (jR 35), none, none, none] [] (hH L m) = j_fin C 4 3 [some (jR 64), some (jR 55), some (jI x2), some (jR 35), some (jI 0), none, none] [] (hH L m) := by
  refine (S_iconst at_4_0).trans ?_
  refine (S_istore (l1 := [some (jR 64), some (jR 55), some (jI x2), some (jR 35), some (jI 0), none, none]) rfl at_4_1).trans ?_
  rfl
theorem T4_3_64_55_35 {C : Nat → List j_V → j_H → Option j_Z} {L : j_B} {m : j_M0} {x2 : Int} {x4 : Int} {o5 : Option j_V} : j_fin C 4 3 [some (jR 64), some (jR 55), some (jI x2), some (jR 35), some (jI x4), o5, none] [] (hH L m) = if (m 35 0) < x4 then j_fin C 4 59 [some (jR 64), some (jR 55), some (jI x2), some (jR 35), some (jI 0), o5, none] [] (hH L m) else (C 5 [jR 64, jR 55, jI x2, jR 35, jI x4] (hH L m)).bind fun z => j_fin C 4 21 [some (jR 64), some (jR 55), some (jI x2), some (jR 35), some (jI x4), o5, none] (z.1.toList ++ []) z.2 := by
  refine (S_iload rfl at_4_3).trans ?_
  refine (S_aload_n rfl at_4_5).trans ?_
  refine (H_get0 (ka_35 L _) rfl at_4_6).trans ?_
  refine (S_icmp_gt at_4_9).trans ?_
  refine ite_congr rfl (fun _ => ?_) (fun _ => ?_)
  · refine (S_iconst at_4_56).trans ?_
    refine (S_istore (l1 := [some (jR 64), some (jR 55), some (jI x2), some (jR 35), some (jI 0), o5, none]) rfl at_4_57).trans ?_
    rfl
  · refine (S_aload_n rfl at_4_12).trans ?_
    refine (S_aload_n rfl at_4_13).trans ?_
    refine (S_iload_n rfl at_4_14).trans ?_
    refine (S_aload_n rfl at_4_15).trans ?_
    refine (S_iload rfl at_4_16).trans ?_
    refine (S_invv (b := 4) (by decide) kn_5 rfl (kd_64 L _) (Nat.le_of_ble_eq_true rfl) at_4_18).trans ?_
    rfl
theorem T4_21_64_55_35 {C : Nat → List j_V → j_H → Option j_Z} {L : j_B} {m : j_M0} {x2 : Int} {x4 : Int} {o5 : Option j_V} {t0 : Int} : j_fin C 4 21 [some (jR 64), some (jR 55), some (jI x2), some (jR 35), some (jI x4), o5, none] [jL t0] (hH L m) = (C 144 [jL t0] (hH L m)).bind fun z => j_fin C 4 28 [some (jR 64), some (jR 55), some (jI x2), some (jR 35), some (jI x4), some (jL t0), none] (z.1.toList ++ []) z.2 := by
  refine (S_lstore (l1 := [some (jR 64), some (jR 55), some (jI x2), some (jR 35), some (jI x4), some (jL t0), none]) rfl at_4_21).trans ?_
  refine (S_lload rfl at_4_23).trans ?_
  refine (S_invs (by decide) (Nat.le_of_ble_eq_true rfl) (Nat.le_of_ble_eq_true rfl) at_4_25).trans ?_
  rfl
theorem T4_28_64_55_35 {C : Nat → List j_V → j_H → Option j_Z} {L : j_B} {m : j_M0} {x2 : Int} {x4 : Int} {y5 : Int} {s0 : Int} : j_fin C 4 28 [some (jR 64), some (jR 55), some (jI x2), some (jR 35), some (jI x4), some (jL y5), none] [jI s0] (hH L m) = if s0 = 0 then some (some (jI 0), hH L m) else if 0 ≤ (w32 ((w32 ((m 64 0) * 6)) + x4)) ∧ (w32 ((w32 ((m 64 0) * 6)) + x4)) < 72 then j_fin C 4 3 [some (jR 64), some (jR 55), some (jI x2), some (jR 35), some (jI (w32 (x4 + 1))), some (jL y5), none] [] (hH L (j_up m 66 (w32 ((w32 ((m 64 0) * 6)) + x4)).toNat y5)) else none := by
  refine (S_if_ne at_4_28).trans ?_
  refine ite_congr rfl (fun _ => ?_) (fun _ => ?_)
  · refine (S_iconst at_4_31).trans ?_
    exact (S_iretz rfl at_4_32).trans (if_pos (by decide))
  · refine (S_aload_n rfl at_4_33).trans ?_
    refine (S_getR (ka_64 L _) rfl (f_64_2 L _) at_4_34).trans ?_
    refine (S_aload_n rfl at_4_37).trans ?_
    refine (H_get0 (ka_64 L _) rfl at_4_38).trans ?_
    refine (S_bipush at_4_41).trans ?_
    refine (S_imul at_4_43).trans ?_
    refine (S_iload rfl at_4_44).trans ?_
    refine (S_iadd at_4_46).trans ?_
    refine (S_lload rfl at_4_47).trans ?_
    refine (H_lastore (by omega) (ka_66 L _) at_4_49).trans ?_
    refine ite_congr rfl (fun hi => ?_) (fun _ => rfl)
    refine (S_iinc (l1 := [some (jR 64), some (jR 55), some (jI x2), some (jR 35), some (jI (w32 (x4 + 1))), some (jL y5), none]) rfl rfl at_4_50).trans ?_
    refine (S_goto at_4_53).trans ?_
    rfl
theorem T4_59_64_55_35 {C : Nat → List j_V → j_H → Option j_Z} {L : j_B} {m : j_M0} {x2 : Int} {x4 : Int} {o5 : Option j_V} : j_fin C 4 59 [some (jR 64), some (jR 55), some (jI x2), some (jR 35), some (jI x4), o5, none] [] (hH L m) = if x4 < 22 then if 0 ≤ (w32 ((w32 ((m 64 0) * 22)) + x4)) ∧ (w32 ((w32 ((m 64 0) * 22)) + x4)) < 264 then j_fin C 4 59 [some (jR 64), some (jR 55), some (jI x2), some (jR 35), some (jI (w32 (x4 + 1))), o5, none] [] (hH L (j_up m 67 (w32 ((w32 ((m 64 0) * 22)) + x4)).toNat 0)) else none else j_fin C 4 91 [some (jR 64), some (jR 55), some (jI x2), some (jR 35), some (jI 0), o5, none] [] (hH L m) := by
  refine (S_iload rfl at_4_59).trans ?_
  refine (S_bipush at_4_61).trans ?_
  refine (S_icmp_ge at_4_63).trans ?_
  refine ite_congr rfl (fun _ => ?_) (fun _ => ?_)
  · refine (S_aload_n rfl at_4_66).trans ?_
    refine (S_getR (ka_64 L _) rfl (f_64_3 L _) at_4_67).trans ?_
    refine (S_aload_n rfl at_4_70).trans ?_
    refine (H_get0 (ka_64 L _) rfl at_4_71).trans ?_
    refine (S_bipush at_4_74).trans ?_
    refine (S_imul at_4_76).trans ?_
    refine (S_iload rfl at_4_77).trans ?_
    refine (S_iadd at_4_79).trans ?_
    refine (S_lconst at_4_80).trans ?_
    refine (H_lastore (by omega) (ka_67 L _) at_4_81).trans ?_
    refine ite_congr rfl (fun hi => ?_) (fun _ => rfl)
    refine (S_iinc (l1 := [some (jR 64), some (jR 55), some (jI x2), some (jR 35), some (jI (w32 (x4 + 1))), o5, none]) rfl rfl at_4_82).trans ?_
    refine (S_goto at_4_85).trans ?_
    rfl
  · refine (S_iconst at_4_88).trans ?_
    refine (S_istore (l1 := [some (jR 64), some (jR 55), some (jI x2), some (jR 35), some (jI 0), o5, none]) rfl at_4_89).trans ?_
    rfl
theorem T4_91_64_55_35 {C : Nat → List j_V → j_H → Option j_Z} {L : j_B} {m : j_M0} {x2 : Int} {x4 : Int} {o5 : Option j_V} : j_fin C 4 91 [some (jR 64), some (jR 55), some (jI x2), some (jR 35), some (jI x4), o5, none] [] (hH L m) = if x4 < (m 55 1) then if 0 ≤ x4 ∧ x4 < 5 then if (w32 ((m 57 x4.toNat) - 10)) < 0 then j_fin C 4 91 [some (jR 64), some (jR 55), some (jI x2), some (jR 35), some (jI (w32 (x4 + 1))), some (jI (w32 ((m 57 x4.toNat) - 10))), none] [] (hH L m) else if (w32 ((m 57 x4.toNat) - 10)) < 22 then if 0 ≤ (w32 ((w32 (x2 * 5)) + x4)) ∧ (w32 ((w32 (x2 * 5)) + x4)) < 100 then (C 43 [jR 55, jL (m 58 (w32 ((w32 (x2 * 5)) + x4)).toNat)] (hH L m)).bind fun z => j_fin C 4 156 [some (jR 64), some (jR 55), some (jI x2), some (jR 35), some (jI x4), some (jI (w32 ((m 57 x4.toNat) - 10))), none] (z.1.toList ++ [jI (w32 ((w32 ((m 64 0) * 22)) + (w32 ((m 57 x4.toNat) - 10)))), jR 67]) z.2 else none else j_fin C 4 91 [some (jR 64), some (jR 55), some (jI x2), some (jR 35), some (jI (w32 (x4 + 1))), some (jI (w32 ((m 57 x4.toNat) - 10))), none] [] (hH L m) else none else if 0 ≤ (m 64 0) ∧ (m 64 0) < 12 then some (some (jI 1), hH L (j_up (j_up m 65 (m 64 0).toNat (m 55 4)) 64 0 (w32 (((j_up m 65 (m 64 0).toNat (m 55 4)) 64 0) + 1)))) else none := by
  refine (S_iload rfl at_4_91).trans ?_
  refine (S_aload_n rfl at_4_93).trans ?_
  refine (H_get0 (ka_55 L _) rfl at_4_94).trans ?_
  refine (S_icmp_ge at_4_97).trans ?_
  refine ite_congr rfl (fun _ => ?_) (fun _ => ?_)
  · refine (S_aload_n rfl at_4_100).trans ?_
    refine (S_getR (ka_55 L _) rfl (f_55_6 L _) at_4_101).trans ?_
    refine (S_iload rfl at_4_104).trans ?_
    refine (H_iaload (ka_57 L _) at_4_106).trans ?_
    refine ite_congr rfl (fun hi => ?_) (fun _ => rfl)
    refine (S_bipush at_4_107).trans ?_
    refine (S_isub at_4_109).trans ?_
    refine (S_istore (l1 := [some (jR 64), some (jR 55), some (jI x2), some (jR 35), some (jI x4), some (jI (w32 ((m 57 x4.toNat) - 10))), none]) rfl at_4_110).trans ?_
    refine (S_iload rfl at_4_112).trans ?_
    refine (S_if_lt at_4_114).trans ?_
    refine ite_congr rfl (fun _ => ?_) (fun _ => ?_)
    · refine (S_iinc (l1 := [some (jR 64), some (jR 55), some (jI x2), some (jR 35), some (jI (w32 (x4 + 1))), some (jI (w32 ((m 57 x4.toNat) - 10))), none]) rfl rfl at_4_157).trans ?_
      refine (S_goto at_4_160).trans ?_
      rfl
    · refine (S_iload rfl at_4_117).trans ?_
      refine (S_bipush at_4_119).trans ?_
      refine (S_icmp_lt at_4_121).trans ?_
      refine ite_congr rfl (fun _ => ?_) (fun _ => ?_)
      · refine (S_aload_n rfl at_4_127).trans ?_
        refine (S_getR (ka_64 L _) rfl (f_64_3 L _) at_4_128).trans ?_
        refine (S_aload_n rfl at_4_131).trans ?_
        refine (H_get0 (ka_64 L _) rfl at_4_132).trans ?_
        refine (S_bipush at_4_135).trans ?_
        refine (S_imul at_4_137).trans ?_
        refine (S_iload rfl at_4_138).trans ?_
        refine (S_iadd at_4_140).trans ?_
        refine (S_aload_n rfl at_4_141).trans ?_
        refine (S_aload_n rfl at_4_142).trans ?_
        refine (S_getR (ka_55 L _) rfl (f_55_7 L _) at_4_143).trans ?_
        refine (S_iload_n rfl at_4_146).trans ?_
        refine (S_iconst at_4_147).trans ?_
        refine (S_imul at_4_148).trans ?_
        refine (S_iload rfl at_4_149).trans ?_
        refine (S_iadd at_4_151).trans ?_
        refine (H_laload (ka_58 L _) at_4_152).trans ?_
        refine ite_congr rfl (fun hi => ?_) (fun _ => rfl)
        refine (S_invv (b := 1) (by decide) kn_43 rfl (kd_55 L _) (Nat.le_of_ble_eq_true rfl) at_4_153).trans ?_
        rfl
      · refine (S_goto at_4_124).trans ?_
        refine (S_iinc (l1 := [some (jR 64), some (jR 55), some (jI x2), some (jR 35), some (jI (w32 (x4 + 1))), some (jI (w32 ((m 57 x4.toNat) - 10))), none]) rfl rfl at_4_157).trans ?_
        refine (S_goto at_4_160).trans ?_
        rfl
  · refine (S_aload_n rfl at_4_163).trans ?_
    refine (S_getR (ka_64 L _) rfl (f_64_1 L _) at_4_164).trans ?_
    refine (S_aload_n rfl at_4_167).trans ?_
    refine (H_get0 (ka_64 L _) rfl at_4_168).trans ?_
    refine (S_aload_n rfl at_4_171).trans ?_
    refine (H_get1 (ka_55 L _) rfl at_4_172).trans ?_
    refine (H_lastore (by omega) (ka_65 L _) at_4_175).trans ?_
    refine ite_congr rfl (fun hi => ?_) (fun _ => rfl)
    refine (S_aload_n rfl at_4_176).trans ?_
    refine (S_dup rfl at_4_177).trans ?_
    refine (H_get0 (ka_64 L _) rfl at_4_178).trans ?_
    refine (S_iconst at_4_181).trans ?_
    refine (S_iadd at_4_182).trans ?_
    refine (H_put0 (ka_64 L _) rfl at_4_183).trans ?_
    refine (S_iconst at_4_186).trans ?_
    exact (S_iretz rfl at_4_187).trans (if_pos (by decide))
theorem T4_156_64_55_35 {C : Nat → List j_V → j_H → Option j_Z} {L : j_B} {m : j_M0} {x2 : Int} {x4 : Int} {x5 : Int} {s1 : Int} {t2 : Int} : j_fin C 4 156 [some (jR 64), some (jR 55), some (jI x2), some (jR 35), some (jI x4), some (jI x5), none] [jL t2, jI s1, jR 67] (hH L m) = if 0 ≤ s1 ∧ s1 < 264 then j_fin C 4 91 [some (jR 64), some (jR 55), some (jI x2), some (jR 35), some (jI (w32 (x4 + 1))), some (jI x5), none] [] (hH L (j_up m 67 s1.toNat t2)) else none := by
  refine (H_lastore (by omega) (ka_67 L _) at_4_156).trans ?_
  refine ite_congr rfl (fun hi => ?_) (fun _ => rfl)
  refine (S_iinc (l1 := [some (jR 64), some (jR 55), some (jI x2), some (jR 35), some (jI (w32 (x4 + 1))), some (jI x5), none]) rfl rfl at_4_157).trans ?_
  refine (S_goto at_4_160).trans ?_
  rfl
theorem T5_0_50_41_4 {C : Nat → List j_V → j_H → Option j_Z} {L : j_B} {m : j_M0} {x2 : Int} {x4 : Int} : j_fin C 5 0 [some (jR 50), some (jR 41), some (jI x2), some (jR 4), some (jI x4), none, none, none, none, none, none] [] (hH L m) = if 0 ≤ x2 ∧ x2 < 20 then if (m 42 x2.toNat) = x4 then if x4 = (m 4 0) then if 0 ≤ x2 ∧ x2 < 20 then (C 44 [jR 41, jL (m 45 x2.toNat)] (hH L m)).bind fun z => j_fin C 5 37 [some (jR 50), some (jR 41), some (jI x2), some (jR 4), some (jI x4), some (jL 1), none, none, none, none, none] (z.1.toList ++ []) z.2 else none else j_fin C 5 42 [some (jR 50), some (jR 41), some (jI x2), some (jR 4), some (jI x4), some (jL 1), none, some (jI 0), none, none, none] [] (hH L m) else if x4 = (m 4 0) then if 0 ≤ x2 ∧ x2 < 20 then (C 44 [jR 41, jL (m 45 x2.toNat)] (hH L m)).bind fun z => j_fin C 5 37 [some (jR 50), some (jR 41), some (jI x2), some (jR 4), some (jI x4), some (jL 0), none, none, none, none, none] (z.1.toList ++ []) z.2 else none else j_fin C 5 42 [some (jR 50), some (jR 41), some (jI x2), some (jR 4), some (jI x4), some (jL 0), none, some (jI 0), none, none, none] [] (hH L m) else none := by
  refine (S_aload_n rfl at_5_0).trans ?_
  refine (S_getR (ka_41 L _) rfl (f_41_5 L _) at_5_1).trans ?_
  refine (S_iload_n rfl at_5_4).trans ?_
  refine (H_iaload (ka_42 L _) at_5_5).trans ?_
  refine ite_congr rfl (fun hi => ?_) (fun _ => rfl)
  refine (S_iload rfl at_5_6).trans ?_
  refine (S_icmp_ne at_5_8).trans ?_
  refine ite_congr rfl (fun _ => ?_) (fun _ => ?_)
  · refine (S_lconst at_5_11).trans ?_
    refine (S_goto at_5_12).trans ?_
    refine (S_lstore (l1 := [some (jR 50), some (jR 41), some (jI x2), some (jR 4), some (jI x4), some (jL 1), none, none, none, none, none]) rfl at_5_16).trans ?_
    refine (S_iload rfl at_5_18).trans ?_
    refine (S_aload_n rfl at_5_20).trans ?_
    refine (H_get0 (ka_4 L _) rfl at_5_21).trans ?_
    refine (S_icmp_ne at_5_24).trans ?_
    refine ite_congr rfl (fun _ => ?_) (fun _ => ?_)
    · refine (S_aload_n rfl at_5_27).trans ?_
      refine (S_aload_n rfl at_5_28).trans ?_
      refine (S_getR (ka_41 L _) rfl (f_41_8 L _) at_5_29).trans ?_
      refine (S_iload_n rfl at_5_32).trans ?_
      refine (H_laload (ka_45 L _) at_5_33).trans ?_
      refine ite_congr rfl (fun hi => ?_) (fun _ => rfl)
      refine (S_invv (b := 1) (by decide) kn_44 rfl (kd_41 L _) (Nat.le_of_ble_eq_true rfl) at_5_34).trans ?_
      rfl
    · refine (S_iconst at_5_39).trans ?_
      refine (S_istore (l1 := [some (jR 50), some (jR 41), some (jI x2), some (jR 4), some (jI x4), some (jL 1), none, some (jI 0), none, none, none]) rfl at_5_40).trans ?_
      rfl
  · refine (S_lconst at_5_15).trans ?_
    refine (S_lstore (l1 := [some (jR 50), some (jR 41), some (jI x2), some (jR 4), some (jI x4), some (jL 0), none, none, none, none, none]) rfl at_5_16).trans ?_
    refine (S_iload rfl at_5_18).trans ?_
    refine (S_aload_n rfl at_5_20).trans ?_
    refine (H_get0 (ka_4 L _) rfl at_5_21).trans ?_
    refine (S_icmp_ne at_5_24).trans ?_
    refine ite_congr rfl (fun _ => ?_) (fun _ => ?_)
    · refine (S_aload_n rfl at_5_27).trans ?_
      refine (S_aload_n rfl at_5_28).trans ?_
      refine (S_getR (ka_41 L _) rfl (f_41_8 L _) at_5_29).trans ?_
      refine (S_iload_n rfl at_5_32).trans ?_
      refine (H_laload (ka_45 L _) at_5_33).trans ?_
      refine ite_congr rfl (fun hi => ?_) (fun _ => rfl)
      refine (S_invv (b := 1) (by decide) kn_44 rfl (kd_41 L _) (Nat.le_of_ble_eq_true rfl) at_5_34).trans ?_
      rfl
    · refine (S_iconst at_5_39).trans ?_
      refine (S_istore (l1 := [some (jR 50), some (jR 41), some (jI x2), some (jR 4), some (jI x4), some (jL 0), none, some (jI 0), none, none, none]) rfl at_5_40).trans ?_
      rfl
theorem T5_37_50_41_4 {C : Nat → List j_V → j_H → Option j_Z} {L : j_B} {m : j_M0} {x2 : Int} {x4 : Int} {y5 : Int} {t0 : Int} : j_fin C 5 37 [some (jR 50), some (jR 41), some (jI x2), some (jR 4), some (jI x4), some (jL y5), none, none, none, none, none] [jL t0] (hH L m) = j_fin C 5 42 [some (jR 50), some (jR 41), some (jI x2), some (jR 4), some (jI x4), some (jL t0), none, some (jI 0), none, none, none] [] (hH L m) := by
  refine (S_lstore (l1 := [some (jR 50), some (jR 41), some (jI x2), some (jR 4), some (jI x4), some (jL t0), none, none, none, none, none]) rfl at_5_37).trans ?_
  refine (S_iconst at_5_39).trans ?_
  refine (S_istore (l1 := [some (jR 50), some (jR 41), some (jI x2), some (jR 4), some (jI x4), some (jL t0), none, some (jI 0), none, none, none]) rfl at_5_40).trans ?_
  rfl
theorem T5_42_50_41_4 {C : Nat → List j_V → j_H → Option j_Z} {L : j_B} {m : j_M0} {x2 : Int} {x4 : Int} {y5 : Int} {x7 : Int} {o8 : Option j_V} {o9 : Option j_V} : j_fin C 5 42 [some (jR 50), some (jR 41), some (jI x2), some (jR 4), some (jI x4), some (jL y5), none, some (jI x7), o8, o9, none] [] (hH L m) = if x7 < (m 41 1) then if 0 ≤ x7 ∧ x7 < 5 then if 0 ≤ (w32 ((w32 (x2 * 5)) + x7)) ∧ (w32 ((w32 (x2 * 5)) + x7)) < 100 then (C 44 [jR 41, jL (m 44 (w32 ((w32 (x2 * 5)) + x7)).toNat)] (hH L m)).bind fun z => j_fin C 5 75 [some (jR 50), some (jR 41), some (jI x2), some (jR 4), some (jI x4), some (jL y5), none, some (jI x7), some (jI (m 43 x7.toNat)), o9, none] (z.1.toList ++ []) z.2 else none else none else some (some (jL y5), hH L m) := by
  refine (S_iload rfl at_5_42).trans ?_
  refine (S_aload_n rfl at_5_44).trans ?_
  refine (H_get0 (ka_41 L _) rfl at_5_45).trans ?_
  refine (S_icmp_ge at_5_48).trans ?_
  refine ite_congr rfl (fun _ => ?_) (fun _ => ?_)
  · refine (S_aload_n rfl at_5_51).trans ?_
    refine (S_getR (ka_41 L _) rfl (f_41_6 L _) at_5_52).trans ?_
    refine (S_iload rfl at_5_55).trans ?_
    refine (H_iaload (ka_43 L _) at_5_57).trans ?_
    refine ite_congr rfl (fun hi => ?_) (fun _ => rfl)
    refine (S_istore (l1 := [some (jR 50), some (jR 41), some (jI x2), some (jR 4), some (jI x4), some (jL y5), none, some (jI x7), some (jI (m 43 x7.toNat)), o9, none]) rfl at_5_58).trans ?_
    refine (S_aload_n rfl at_5_60).trans ?_
    refine (S_aload_n rfl at_5_61).trans ?_
    refine (S_getR (ka_41 L _) rfl (f_41_7 L _) at_5_62).trans ?_
    refine (S_iload_n rfl at_5_65).trans ?_
    refine (S_iconst at_5_66).trans ?_
    refine (S_imul at_5_67).trans ?_
    refine (S_iload rfl at_5_68).trans ?_
    refine (S_iadd at_5_70).trans ?_
    refine (H_laload (ka_44 L _) at_5_71).trans ?_
    refine ite_congr rfl (fun hi => ?_) (fun _ => rfl)
    refine (S_invv (b := 1) (by decide) kn_44 rfl (kd_41 L _) (Nat.le_of_ble_eq_true rfl) at_5_72).trans ?_
    rfl
  · refine (S_lload rfl at_5_156).trans ?_
    exact S_lret rfl at_5_158
theorem T5_75_50_41_4 {C : Nat → List j_V → j_H → Option j_Z} {L : j_B} {m : j_M0} {x2 : Int} {x4 : Int} {y5 : Int} {x7 : Int} {x8 : Int} {o9 : Option j_V} {t0 : Int} : j_fin C 5 75 [some (jR 50), some (jR 41), some (jI x2), some (jR 4), some (jI x4), some (jL y5), none, some (jI x7), some (jI x8), o9, none] [jL t0] (hH L m) = if x8 = x4 then j_fin C 5 42 [some (jR 50), some (jR 41), some (jI x2), some (jR 4), some (jI x4), some (jL (w64 (y5 + t0))), none, some (jI (w32 (x7 + 1))), some (jI x8), some (jL t0), none] [] (hH L m) else if x8 < 20 then if x8 < 10 then j_fin C 5 42 [some (jR 50), some (jR 41), some (jI x2), some (jR 4), some (jI x4), some (jL y5), none, some (jI (w32 (x7 + 1))), some (jI x8), some (jL t0), none] [] (hH L m) else (C 13 [jR 4, jI (w32 (x8 - 10)), jI x4] (hH L m)).bind fun z => j_fin C 5 145 [some (jR 50), some (jR 41), some (jI x2), some (jR 4), some (jI x4), some (jL y5), none, some (jI x7), some (jI x8), some (jL t0), none] (z.1.toList ++ [jL t0, jL y5]) z.2 else (C 2 [jR 50, jI (w32 (x8 - 20)), jI x4] (hH L m)).bind fun z => j_fin C 5 116 [some (jR 50), some (jR 41), some (jI x2), some (jR 4), some (jI x4), some (jL y5), none, some (jI x7), some (jI x8), some (jL t0), none] (z.1.toList ++ [jL t0, jL y5]) z.2 := by
  refine (S_lstore (l1 := [some (jR 50), some (jR 41), some (jI x2), some (jR 4), some (jI x4), some (jL y5), none, some (jI x7), some (jI x8), some (jL t0), none]) rfl at_5_75).trans ?_
  refine (S_iload rfl at_5_77).trans ?_
  refine (S_iload rfl at_5_79).trans ?_
  refine (S_icmp_ne at_5_81).trans ?_
  refine ite_congr rfl (fun _ => ?_) (fun _ => ?_)
  · refine (S_lload rfl at_5_84).trans ?_
    refine (S_lload rfl at_5_86).trans ?_
    refine (S_ladd at_5_88).trans ?_
    refine (S_lstore (l1 := [some (jR 50), some (jR 41), some (jI x2), some (jR 4), some (jI x4), some (jL (w64 (y5 + t0))), none, some (jI x7), some (jI x8), some (jL t0), none]) rfl at_5_89).trans ?_
    refine (S_goto at_5_91).trans ?_
    refine (S_iinc (l1 := [some (jR 50), some (jR 41), some (jI x2), some (jR 4), some (jI x4), some (jL (w64 (y5 + t0))), none, some (jI (w32 (x7 + 1))), some (jI x8), some (jL t0), none]) rfl rfl at_5_150).trans ?_
    refine (S_goto at_5_153).trans ?_
    rfl
  · refine (S_iload rfl at_5_94).trans ?_
    refine (S_bipush at_5_96).trans ?_
    refine (S_icmp_lt at_5_98).trans ?_
    refine ite_congr rfl (fun _ => ?_) (fun _ => ?_)
    · refine (S_iload rfl at_5_123).trans ?_
      refine (S_bipush at_5_125).trans ?_
      refine (S_icmp_lt at_5_127).trans ?_
      refine ite_congr rfl (fun _ => ?_) (fun _ => ?_)
      · refine (S_iinc (l1 := [some (jR 50), some (jR 41), some (jI x2), some (jR 4), some (jI x4), some (jL y5), none, some (jI (w32 (x7 + 1))), some (jI x8), some (jL t0), none]) rfl rfl at_5_150).trans ?_
        refine (S_goto at_5_153).trans ?_
        rfl
      · refine (S_lload rfl at_5_130).trans ?_
        refine (S_lload rfl at_5_132).trans ?_
        refine (S_aload_n rfl at_5_134).trans ?_
        refine (S_iload rfl at_5_135).trans ?_
        refine (S_bipush at_5_137).trans ?_
        refine (S_isub at_5_139).trans ?_
        refine (S_iload rfl at_5_140).trans ?_
        refine (S_invv (b := 2) (by decide) kn_13 rfl (kd_4 L _) (Nat.le_of_ble_eq_true rfl) at_5_142).trans ?_
        rfl
    · refine (S_lload rfl at_5_101).trans ?_
      refine (S_lload rfl at_5_103).trans ?_
      refine (S_aload_n rfl at_5_105).trans ?_
      refine (S_iload rfl at_5_106).trans ?_
      refine (S_bipush at_5_108).trans ?_
      refine (S_isub at_5_110).trans ?_
      refine (S_iload rfl at_5_111).trans ?_
      refine (S_invv (b := 2) (by decide) kn_2 rfl (kd_50 L _) (Nat.le_of_ble_eq_true rfl) at_5_113).trans ?_
      rfl
theorem T5_116_50_41_4 {C : Nat → List j_V → j_H → Option j_Z} {L : j_B} {m : j_M0} {x2 : Int} {x4 : Int} {y5 : Int} {x7 : Int} {x8 : Int} {y9 : Int} {t0 : Int} {t1 : Int} {t2 : Int} : j_fin C 5 116 [some (jR 50), some (jR 41), some (jI x2), some (jR 4), some (jI x4), some (jL y5), none, some (jI x7), some (jI x8), some (jL y9), none] [jL t2, jL t1, jL t0] (hH L m) = j_fin C 5 42 [some (jR 50), some (jR 41), some (jI x2), some (jR 4), some (jI x4), some (jL (w64 (t0 - (w64 (t1 * t2))))), none, some (jI (w32 (x7 + 1))), some (jI x8), some (jL y9), none] [] (hH L m) := by
  refine (S_lmul at_5_116).trans ?_
  refine (S_lsub at_5_117).trans ?_
  refine (S_lstore (l1 := [some (jR 50), some (jR 41), some (jI x2), some (jR 4), some (jI x4), some (jL (w64 (t0 - (w64 (t1 * t2))))), none, some (jI x7), some (jI x8), some (jL y9), none]) rfl at_5_118).trans ?_
  refine (S_goto at_5_120).trans ?_
  refine (S_iinc (l1 := [some (jR 50), some (jR 41), some (jI x2), some (jR 4), some (jI x4), some (jL (w64 (t0 - (w64 (t1 * t2))))), none, some (jI (w32 (x7 + 1))), some (jI x8), some (jL y9), none]) rfl rfl at_5_150).trans ?_
  refine (S_goto at_5_153).trans ?_
  rfl
theorem T5_145_50_41_4 {C : Nat → List j_V → j_H → Option j_Z} {L : j_B} {m : j_M0} {x2 : Int} {x4 : Int} {y5 : Int} {x7 : Int} {x8 : Int} {y9 : Int} {t0 : Int} {t1 : Int} {s2 : Int} : j_fin C 5 145 [some (jR 50), some (jR 41), some (jI x2), some (jR 4), some (jI x4), some (jL y5), none, some (jI x7), some (jI x8), some (jL y9), none] [jI s2, jL t1, jL t0] (hH L m) = j_fin C 5 42 [some (jR 50), some (jR 41), some (jI x2), some (jR 4), some (jI x4), some (jL (w64 (t0 - (w64 (t1 * s2))))), none, some (jI (w32 (x7 + 1))), some (jI x8), some (jL y9), none] [] (hH L m) := by
  refine (S_i2l at_5_145).trans ?_
  refine (S_lmul at_5_146).trans ?_
  refine (S_lsub at_5_147).trans ?_
  refine (S_lstore (l1 := [some (jR 50), some (jR 41), some (jI x2), some (jR 4), some (jI x4), some (jL (w64 (t0 - (w64 (t1 * s2))))), none, some (jI x7), some (jI x8), some (jL y9), none]) rfl at_5_148).trans ?_
  refine (S_iinc (l1 := [some (jR 50), some (jR 41), some (jI x2), some (jR 4), some (jI x4), some (jL (w64 (t0 - (w64 (t1 * s2))))), none, some (jI (w32 (x7 + 1))), some (jI x8), some (jL y9), none]) rfl rfl at_5_150).trans ?_
  refine (S_goto at_5_153).trans ?_
  rfl
theorem T5_0_64_55_35 {C : Nat → List j_V → j_H → Option j_Z} {L : j_B} {m : j_M0} {x2 : Int} {x4 : Int} : j_fin C 5 0 [some (jR 64), some (jR 55), some (jI x2), some (jR 35), some (jI x4), none, none, none, none, none, none] [] (hH L m) = if 0 ≤ x2 ∧ x2 < 20 then if (m 56 x2.toNat) = x4 then if x4 = (m 35 0) then if 0 ≤ x2 ∧ x2 < 20 then (C 44 [jR 55, jL (m 59 x2.toNat)] (hH L m)).bind fun z => j_fin C 5 37 [some (jR 64), some (jR 55), some (jI x2), some (jR 35), some (jI x4), some (jL 1), none, none, none, none, none] (z.1.toList ++ []) z.2 else none else j_fin C 5 42 [some (jR 64), some (jR 55), some (jI x2), some (jR 35), some (jI x4), some (jL 1), none, some (jI 0), none, none, none] [] (hH L m) else if x4 = (m 35 0) then if 0 ≤ x2 ∧ x2 < 20 then (C 44 [jR 55, jL (m 59 x2.toNat)] (hH L m)).bind fun z => j_fin C 5 37 [some (jR 64), some (jR 55), some (jI x2), some (jR 35), some (jI x4), some (jL 0), none, none, none, none, none] (z.1.toList ++ []) z.2 else none else j_fin C 5 42 [some (jR 64), some (jR 55), some (jI x2), some (jR 35), some (jI x4), some (jL 0), none, some (jI 0), none, none, none] [] (hH L m) else none := by
  refine (S_aload_n rfl at_5_0).trans ?_
  refine (S_getR (ka_55 L _) rfl (f_55_5 L _) at_5_1).trans ?_
  refine (S_iload_n rfl at_5_4).trans ?_
  refine (H_iaload (ka_56 L _) at_5_5).trans ?_
  refine ite_congr rfl (fun hi => ?_) (fun _ => rfl)
  refine (S_iload rfl at_5_6).trans ?_
  refine (S_icmp_ne at_5_8).trans ?_
  refine ite_congr rfl (fun _ => ?_) (fun _ => ?_)
  · refine (S_lconst at_5_11).trans ?_
    refine (S_goto at_5_12).trans ?_
    refine (S_lstore (l1 := [some (jR 64), some (jR 55), some (jI x2), some (jR 35), some (jI x4), some (jL 1), none, none, none, none, none]) rfl at_5_16).trans ?_
    refine (S_iload rfl at_5_18).trans ?_
    refine (S_aload_n rfl at_5_20).trans ?_
    refine (H_get0 (ka_35 L _) rfl at_5_21).trans ?_
    refine (S_icmp_ne at_5_24).trans ?_
    refine ite_congr rfl (fun _ => ?_) (fun _ => ?_)
    · refine (S_aload_n rfl at_5_27).trans ?_
      refine (S_aload_n rfl at_5_28).trans ?_
      refine (S_getR (ka_55 L _) rfl (f_55_8 L _) at_5_29).trans ?_
      refine (S_iload_n rfl at_5_32).trans ?_
      refine (H_laload (ka_59 L _) at_5_33).trans ?_
      refine ite_congr rfl (fun hi => ?_) (fun _ => rfl)
      refine (S_invv (b := 1) (by decide) kn_44 rfl (kd_55 L _) (Nat.le_of_ble_eq_true rfl) at_5_34).trans ?_
      rfl
    · refine (S_iconst at_5_39).trans ?_
      refine (S_istore (l1 := [some (jR 64), some (jR 55), some (jI x2), some (jR 35), some (jI x4), some (jL 1), none, some (jI 0), none, none, none]) rfl at_5_40).trans ?_
      rfl
  · refine (S_lconst at_5_15).trans ?_
    refine (S_lstore (l1 := [some (jR 64), some (jR 55), some (jI x2), some (jR 35), some (jI x4), some (jL 0), none, none, none, none, none]) rfl at_5_16).trans ?_
    refine (S_iload rfl at_5_18).trans ?_
    refine (S_aload_n rfl at_5_20).trans ?_
    refine (H_get0 (ka_35 L _) rfl at_5_21).trans ?_
    refine (S_icmp_ne at_5_24).trans ?_
    refine ite_congr rfl (fun _ => ?_) (fun _ => ?_)
    · refine (S_aload_n rfl at_5_27).trans ?_
      refine (S_aload_n rfl at_5_28).trans ?_
      refine (S_getR (ka_55 L _) rfl (f_55_8 L _) at_5_29).trans ?_
      refine (S_iload_n rfl at_5_32).trans ?_
      refine (H_laload (ka_59 L _) at_5_33).trans ?_
      refine ite_congr rfl (fun hi => ?_) (fun _ => rfl)
      refine (S_invv (b := 1) (by decide) kn_44 rfl (kd_55 L _) (Nat.le_of_ble_eq_true rfl) at_5_34).trans ?_
      rfl
    · refine (S_iconst at_5_39).trans ?_
      refine (S_istore (l1 := [some (jR 64), some (jR 55), some (jI x2), some (jR 35), some (jI x4), some (jL 0), none, some (jI 0), none, none, none]) rfl at_5_40).trans ?_
      rfl
theorem T5_37_64_55_35 {C : Nat → List j_V → j_H → Option j_Z} {L : j_B} {m : j_M0} {x2 : Int} {x4 : Int} {y5 : Int} {t0 : Int} : j_fin C 5 37 [some (jR 64), some (jR 55), some (jI x2), some (jR 35), some (jI x4), some (jL y5), none, none, none, none, none] [jL t0] (hH L m) = j_fin C 5 42 [some (jR 64), some (jR 55), some (jI x2), some (jR 35), some (jI x4), some (jL t0), none, some (jI 0), none, none, none] [] (hH L m) := by
  refine (S_lstore (l1 := [some (jR 64), some (jR 55), some (jI x2), some (jR 35), some (jI x4), some (jL t0), none, none, none, none, none]) rfl at_5_37).trans ?_
  refine (S_iconst at_5_39).trans ?_
  refine (S_istore (l1 := [some (jR 64), some (jR 55), some (jI x2), some (jR 35), some (jI x4), some (jL t0), none, some (jI 0), none, none, none]) rfl at_5_40).trans ?_
  rfl
theorem T5_42_64_55_35 {C : Nat → List j_V → j_H → Option j_Z} {L : j_B} {m : j_M0} {x2 : Int} {x4 : Int} {y5 : Int} {x7 : Int} {o8 : Option j_V} {o9 : Option j_V} : j_fin C 5 42 [some (jR 64), some (jR 55), some (jI x2), some (jR 35), some (jI x4), some (jL y5), none, some (jI x7), o8, o9, none] [] (hH L m) = if x7 < (m 55 1) then if 0 ≤ x7 ∧ x7 < 5 then if 0 ≤ (w32 ((w32 (x2 * 5)) + x7)) ∧ (w32 ((w32 (x2 * 5)) + x7)) < 100 then (C 44 [jR 55, jL (m 58 (w32 ((w32 (x2 * 5)) + x7)).toNat)] (hH L m)).bind fun z => j_fin C 5 75 [some (jR 64), some (jR 55), some (jI x2), some (jR 35), some (jI x4), some (jL y5), none, some (jI x7), some (jI (m 57 x7.toNat)), o9, none] (z.1.toList ++ []) z.2 else none else none else some (some (jL y5), hH L m) := by
  refine (S_iload rfl at_5_42).trans ?_
  refine (S_aload_n rfl at_5_44).trans ?_
  refine (H_get0 (ka_55 L _) rfl at_5_45).trans ?_
  refine (S_icmp_ge at_5_48).trans ?_
  refine ite_congr rfl (fun _ => ?_) (fun _ => ?_)
  · refine (S_aload_n rfl at_5_51).trans ?_
    refine (S_getR (ka_55 L _) rfl (f_55_6 L _) at_5_52).trans ?_
    refine (S_iload rfl at_5_55).trans ?_
    refine (H_iaload (ka_57 L _) at_5_57).trans ?_
    refine ite_congr rfl (fun hi => ?_) (fun _ => rfl)
    refine (S_istore (l1 := [some (jR 64), some (jR 55), some (jI x2), some (jR 35), some (jI x4), some (jL y5), none, some (jI x7), some (jI (m 57 x7.toNat)), o9, none]) rfl at_5_58).trans ?_
    refine (S_aload_n rfl at_5_60).trans ?_
    refine (S_aload_n rfl at_5_61).trans ?_
    refine (S_getR (ka_55 L _) rfl (f_55_7 L _) at_5_62).trans ?_
    refine (S_iload_n rfl at_5_65).trans ?_
    refine (S_iconst at_5_66).trans ?_
    refine (S_imul at_5_67).trans ?_
    refine (S_iload rfl at_5_68).trans ?_
    refine (S_iadd at_5_70).trans ?_
    refine (H_laload (ka_58 L _) at_5_71).trans ?_
    refine ite_congr rfl (fun hi => ?_) (fun _ => rfl)
    refine (S_invv (b := 1) (by decide) kn_44 rfl (kd_55 L _) (Nat.le_of_ble_eq_true rfl) at_5_72).trans ?_
    rfl
  · refine (S_lload rfl at_5_156).trans ?_
    exact S_lret rfl at_5_158
theorem T5_75_64_55_35 {C : Nat → List j_V → j_H → Option j_Z} {L : j_B} {m : j_M0} {x2 : Int} {x4 : Int} {y5 : Int} {x7 : Int} {x8 : Int} {o9 : Option j_V} {t0 : Int} : j_fin C 5 75 [some (jR 64), some (jR 55), some (jI x2), some (jR 35), some (jI x4), some (jL y5), none, some (jI x7), some (jI x8), o9, none] [jL t0] (hH L m) = if x8 = x4 then j_fin C 5 42 [some (jR 64), some (jR 55), some (jI x2), some (jR 35), some (jI x4), some (jL (w64 (y5 + t0))), none, some (jI (w32 (x7 + 1))), some (jI x8), some (jL t0), none] [] (hH L m) else if x8 < 20 then if x8 < 10 then j_fin C 5 42 [some (jR 64), some (jR 55), some (jI x2), some (jR 35), some (jI x4), some (jL y5), none, some (jI (w32 (x7 + 1))), some (jI x8), some (jL t0), none] [] (hH L m) else (C 13 [jR 35, jI (w32 (x8 - 10)), jI x4] (hH L m)).bind fun z => j_fin C 5 145 [some (jR 64), some (jR 55), some (jI x2), some (jR 35), some (jI x4), some (jL y5), none, some (jI x7), some (jI x8), some (jL t0), none] (z.1.toList ++ [jL t0, jL y5]) z.2 else (C 2 [jR 64, jI (w32 (x8 - 20)), jI x4] (hH L m)).bind fun z => j_fin C 5 116 [some (jR 64), some (jR 55), some (jI x2), some (jR 35), some (jI x4), some (jL y5), none, some (jI x7), some (jI x8), some (jL t0), none] (z.1.toList ++ [jL t0, jL y5]) z.2 := by
  refine (S_lstore (l1 := [some (jR 64), some (jR 55), some (jI x2), some (jR 35), some (jI x4), some (jL y5), none, some (jI x7), some (jI x8), some (jL t0), none]) rfl at_5_75).trans ?_
  refine (S_iload rfl at_5_77).trans ?_
  refine (S_iload rfl at_5_79).trans ?_
  refine (S_icmp_ne at_5_81).trans ?_
  refine ite_congr rfl (fun _ => ?_) (fun _ => ?_)
  · refine (S_lload rfl at_5_84).trans ?_
    refine (S_lload rfl at_5_86).trans ?_
    refine (S_ladd at_5_88).trans ?_
    refine (S_lstore (l1 := [some (jR 64), some (jR 55), some (jI x2), some (jR 35), some (jI x4), some (jL (w64 (y5 + t0))), none, some (jI x7), some (jI x8), some (jL t0), none]) rfl at_5_89).trans ?_
    refine (S_goto at_5_91).trans ?_
    refine (S_iinc (l1 := [some (jR 64), some (jR 55), some (jI x2), some (jR 35), some (jI x4), some (jL (w64 (y5 + t0))), none, some (jI (w32 (x7 + 1))), some (jI x8), some (jL t0), none]) rfl rfl at_5_150).trans ?_
    refine (S_goto at_5_153).trans ?_
    rfl
  · refine (S_iload rfl at_5_94).trans ?_
    refine (S_bipush at_5_96).trans ?_
    refine (S_icmp_lt at_5_98).trans ?_
    refine ite_congr rfl (fun _ => ?_) (fun _ => ?_)
    · refine (S_iload rfl at_5_123).trans ?_
      refine (S_bipush at_5_125).trans ?_
      refine (S_icmp_lt at_5_127).trans ?_
      refine ite_congr rfl (fun _ => ?_) (fun _ => ?_)
      · refine (S_iinc (l1 := [some (jR 64), some (jR 55), some (jI x2), some (jR 35), some (jI x4), some (jL y5), none, some (jI (w32 (x7 + 1))), some (jI x8), some (jL t0), none]) rfl rfl at_5_150).trans ?_
        refine (S_goto at_5_153).trans ?_
        rfl
      · refine (S_lload rfl at_5_130).trans ?_
        refine (S_lload rfl at_5_132).trans ?_
        refine (S_aload_n rfl at_5_134).trans ?_
        refine (S_iload rfl at_5_135).trans ?_
        refine (S_bipush at_5_137).trans ?_
        refine (S_isub at_5_139).trans ?_
        refine (S_iload rfl at_5_140).trans ?_
        refine (S_invv (b := 2) (by decide) kn_13 rfl (kd_35 L _) (Nat.le_of_ble_eq_true rfl) at_5_142).trans ?_
        rfl
    · refine (S_lload rfl at_5_101).trans ?_
      refine (S_lload rfl at_5_103).trans ?_
      refine (S_aload_n rfl at_5_105).trans ?_
      refine (S_iload rfl at_5_106).trans ?_
      refine (S_bipush at_5_108).trans ?_
      refine (S_isub at_5_110).trans ?_
      refine (S_iload rfl at_5_111).trans ?_
      refine (S_invv (b := 2) (by decide) kn_2 rfl (kd_64 L _) (Nat.le_of_ble_eq_true rfl) at_5_113).trans ?_
      rfl
theorem T5_116_64_55_35 {C : Nat → List j_V → j_H → Option j_Z} {L : j_B} {m : j_M0} {x2 : Int} {x4 : Int} {y5 : Int} {x7 : Int} {x8 : Int} {y9 : Int} {t0 : Int} {t1 : Int} {t2 : Int} : j_fin C 5 116 [some (jR 64), some (jR 55), some (jI x2), some (jR 35), some (jI x4), some (jL y5), none, some (jI x7), some (jI x8), some (jL y9), none] [jL t2, jL t1, jL t0] (hH L m) = j_fin C 5 42 [some (jR 64), some (jR 55), some (jI x2), some (jR 35), some (jI x4), some (jL (w64 (t0 - (w64 (t1 * t2))))), none, some (jI (w32 (x7 + 1))), some (jI x8), some (jL y9), none] [] (hH L m) := by
  refine (S_lmul at_5_116).trans ?_
  refine (S_lsub at_5_117).trans ?_
  refine (S_lstore (l1 := [some (jR 64), some (jR 55), some (jI x2), some (jR 35), some (jI x4), some (jL (w64 (t0 - (w64 (t1 * t2))))), none, some (jI x7), some (jI x8), some (jL y9), none]) rfl at_5_118).trans ?_
  refine (S_goto at_5_120).trans ?_
  refine (S_iinc (l1 := [some (jR 64), some (jR 55), some (jI x2), some (jR 35), some (jI x4), some (jL (w64 (t0 - (w64 (t1 * t2))))), none, some (jI (w32 (x7 + 1))), some (jI x8), some (jL y9), none]) rfl rfl at_5_150).trans ?_
  refine (S_goto at_5_153).trans ?_
  rfl
theorem T5_145_64_55_35 {C : Nat → List j_V → j_H → Option j_Z} {L : j_B} {m : j_M0} {x2 : Int} {x4 : Int} {y5 : Int} {x7 : Int} {x8 : Int} {y9 : Int} {t0 : Int} {t1 : Int} {s2 : Int} : j_fin C 5 145 [some (jR 64), some (jR 55), some (jI x2), some (jR 35), some (jI x4), some (jL y5), none, some (jI x7), some (jI x8), some (jL y9), none] [jI s2, jL t1, jL t0] (hH L m) = j_fin C 5 42 [some (jR 64), some (jR 55), some (jI x2), some (jR 35), some (jI x4), some (jL (w64 (t0 - (w64 (t1 * s2))))), none, some (jI (w32 (x7 + 1))), some (jI x8), some (jL y9), none] [] (hH L m) := by
  refine (S_i2l at_5_145).trans ?_
  refine (S_lmul at_5_146).trans ?_
  refine (S_lsub at_5_147).trans ?_
  refine (S_lstore (l1 := [some (jR 64), some (jR 55), some (jI x2), some (jR 35), some (jI x4), some (jL (w64 (t0 - (w64 (t1 * s2))))), none, some (jI x7), some (jI x8), some (jL y9), none]) rfl at_5_148).trans ?_
  refine (S_iinc (l1 := [some (jR 64), some (jR 55), some (jI x2), some (jR 35), some (jI x4), some (jL (w64 (t0 - (w64 (t1 * s2))))), none, some (jI (w32 (x7 + 1))), some (jI x8), some (jL y9), none]) rfl rfl at_5_150).trans ?_
  refine (S_goto at_5_153).trans ?_
  rfl
theorem T8_0_20_4 {C : Nat → List j_V → j_H → Option j_Z} {L : j_B} {m : j_M0} : j_fin C 8 0 [some (jR 20), some (jR 4)] [] (hH L m) = some (none, hH L (j_cpy (j_cpy (j_cpy (j_cpy (j_up (j_up m 20 0 (m 4 0)) 20 1 ((j_up m 20 0 (m 4 0)) 4 1)) 5 0 21 0 5) 6 0 22 0 8) 7 0 23 0 8) 8 0 24 0 40)) := by
  refine (S_aload_n rfl at_8_0).trans ?_
  refine (S_aload_n rfl at_8_1).trans ?_
  refine (H_get0 (ka_4 L _) rfl at_8_2).trans ?_
  refine (H_put0 (ka_20 L _) rfl at_8_5).trans ?_
  refine (S_aload_n rfl at_8_8).trans ?_
  refine (S_aload_n rfl at_8_9).trans ?_
  refine (H_get0 (ka_4 L _) rfl at_8_10).trans ?_
  refine (H_put0 (ka_20 L _) rfl at_8_13).trans ?_
  refine (S_aload_n rfl at_8_16).trans ?_
  refine (S_getR (ka_4 L _) rfl (f_4_2 L _) at_8_17).trans ?_
  refine (S_iconst at_8_20).trans ?_
  refine (S_aload_n rfl at_8_21).trans ?_
  refine (S_getR (ka_20 L _) rfl (f_20_2 L _) at_8_22).trans ?_
  refine (S_iconst at_8_25).trans ?_
  refine (S_iconst at_8_26).trans ?_
  refine (H_cpy rfl (by decide) (kd_5 L _) (ka_21 L _) (by omega) (Nat.le_of_ble_eq_true rfl) at_8_27).trans ?_
  refine (if_pos (by decide)).trans ?_
  refine (S_aload_n rfl at_8_30).trans ?_
  refine (S_getR (ka_4 L _) rfl (f_4_3 L _) at_8_31).trans ?_
  refine (S_iconst at_8_34).trans ?_
  refine (S_aload_n rfl at_8_35).trans ?_
  refine (S_getR (ka_20 L _) rfl (f_20_3 L _) at_8_36).trans ?_
  refine (S_iconst at_8_39).trans ?_
  refine (S_bipush at_8_40).trans ?_
  refine (H_cpy rfl (by decide) (kd_6 L _) (ka_22 L _) (by omega) (Nat.le_of_ble_eq_true rfl) at_8_42).trans ?_
  refine (if_pos (by decide)).trans ?_
  refine (S_aload_n rfl at_8_45).trans ?_
  refine (S_getR (ka_4 L _) rfl (f_4_4 L _) at_8_46).trans ?_
  refine (S_iconst at_8_49).trans ?_
  refine (S_aload_n rfl at_8_50).trans ?_
  refine (S_getR (ka_20 L _) rfl (f_20_4 L _) at_8_51).trans ?_
  refine (S_iconst at_8_54).trans ?_
  refine (S_bipush at_8_55).trans ?_
  refine (H_cpy rfl (by decide) (kd_7 L _) (ka_23 L _) (by omega) (Nat.le_of_ble_eq_true rfl) at_8_57).trans ?_
  refine (if_pos (by decide)).trans ?_
  refine (S_aload_n rfl at_8_60).trans ?_
  refine (S_getR (ka_4 L _) rfl (f_4_5 L _) at_8_61).trans ?_
  refine (S_iconst at_8_64).trans ?_
  refine (S_aload_n rfl at_8_65).trans ?_
  refine (S_getR (ka_20 L _) rfl (f_20_5 L _) at_8_66).trans ?_
  refine (S_iconst at_8_69).trans ?_
  refine (S_bipush at_8_70).trans ?_
  refine (H_cpy rfl (by decide) (kd_8 L _) (ka_24 L _) (by omega) (Nat.le_of_ble_eq_true rfl) at_8_72).trans ?_
  refine (if_pos (by decide)).trans ?_
  exact S_ret rfl at_8_75
theorem T8_0_35_4 {C : Nat → List j_V → j_H → Option j_Z} {L : j_B} {m : j_M0} : j_fin C 8 0 [some (jR 35), some (jR 4)] [] (hH L m) = some (none, hH L (j_cpy (j_cpy (j_cpy (j_cpy (j_up (j_up m 35 0 (m 4 0)) 35 1 ((j_up m 35 0 (m 4 0)) 4 1)) 5 0 36 0 5) 6 0 37 0 8) 7 0 38 0 8) 8 0 39 0 40)) := by
  refine (S_aload_n rfl at_8_0).trans ?_
  refine (S_aload_n rfl at_8_1).trans ?_
  refine (H_get0 (ka_4 L _) rfl at_8_2).trans ?_
  refine (H_put0 (ka_35 L _) rfl at_8_5).trans ?_
  refine (S_aload_n rfl at_8_8).trans ?_
  refine (S_aload_n rfl at_8_9).trans ?_
  refine (H_get0 (ka_4 L _) rfl at_8_10).trans ?_
  refine (H_put0 (ka_35 L _) rfl at_8_13).trans ?_
  refine (S_aload_n rfl at_8_16).trans ?_
  refine (S_getR (ka_4 L _) rfl (f_4_2 L _) at_8_17).trans ?_
  refine (S_iconst at_8_20).trans ?_
  refine (S_aload_n rfl at_8_21).trans ?_
  refine (S_getR (ka_35 L _) rfl (f_35_2 L _) at_8_22).trans ?_
  refine (S_iconst at_8_25).trans ?_
  refine (S_iconst at_8_26).trans ?_
  refine (H_cpy rfl (by decide) (kd_5 L _) (ka_36 L _) (by omega) (Nat.le_of_ble_eq_true rfl) at_8_27).trans ?_
  refine (if_pos (by decide)).trans ?_
  refine (S_aload_n rfl at_8_30).trans ?_
  refine (S_getR (ka_4 L _) rfl (f_4_3 L _) at_8_31).trans ?_
  refine (S_iconst at_8_34).trans ?_
  refine (S_aload_n rfl at_8_35).trans ?_
  refine (S_getR (ka_35 L _) rfl (f_35_3 L _) at_8_36).trans ?_
  refine (S_iconst at_8_39).trans ?_
  refine (S_bipush at_8_40).trans ?_
  refine (H_cpy rfl (by decide) (kd_6 L _) (ka_37 L _) (by omega) (Nat.le_of_ble_eq_true rfl) at_8_42).trans ?_
  refine (if_pos (by decide)).trans ?_
  refine (S_aload_n rfl at_8_45).trans ?_
  refine (S_getR (ka_4 L _) rfl (f_4_4 L _) at_8_46).trans ?_
  refine (S_iconst at_8_49).trans ?_
  refine (S_aload_n rfl at_8_50).trans ?_
  refine (S_getR (ka_35 L _) rfl (f_35_4 L _) at_8_51).trans ?_
  refine (S_iconst at_8_54).trans ?_
  refine (S_bipush at_8_55).trans ?_
  refine (H_cpy rfl (by decide) (kd_7 L _) (ka_38 L _) (by omega) (Nat.le_of_ble_eq_true rfl) at_8_57).trans ?_
  refine (if_pos (by decide)).trans ?_
  refine (S_aload_n rfl at_8_60).trans ?_
  refine (S_getR (ka_4 L _) rfl (f_4_5 L _) at_8_61).trans ?_
  refine (S_iconst at_8_64).trans ?_
  refine (S_aload_n rfl at_8_65).trans ?_
  refine (S_getR (ka_35 L _) rfl (f_35_5 L _) at_8_66).trans ?_
  refine (S_iconst at_8_69).trans ?_
  refine (S_bipush at_8_70).trans ?_
  refine (H_cpy rfl (by decide) (kd_8 L _) (ka_39 L _) (by omega) (Nat.le_of_ble_eq_true rfl) at_8_72).trans ?_
  refine (if_pos (by decide)).trans ?_
  exact S_ret rfl at_8_75
theorem T8_0_4_20 {C : Nat → List j_V → j_H → Option j_Z} {L : j_B} {m : j_M0} : j_fin C 8 0 [some (jR 4), some (jR 20)] [] (hH L m) = some (none, hH L (j_cpy (j_cpy (j_cpy (j_cpy (j_up (j_up m 4 0 (m 20 0)) 4 1 ((j_up m 4 0 (m 20 0)) 20 1)) 21 0 5 0 5) 22 0 6 0 8) 23 0 7 0 8) 24 0 8 0 40)) := by
  refine (S_aload_n rfl at_8_0).trans ?_
  refine (S_aload_n rfl at_8_1).trans ?_
  refine (H_get0 (ka_20 L _) rfl at_8_2).trans ?_
  refine (H_put0 (ka_4 L _) rfl at_8_5).trans ?_
  refine (S_aload_n rfl at_8_8).trans ?_
  refine (S_aload_n rfl at_8_9).trans ?_
  refine (H_get0 (ka_20 L _) rfl at_8_10).trans ?_
  refine (H_put0 (ka_4 L _) rfl at_8_13).trans ?_
  refine (S_aload_n rfl at_8_16).trans ?_
  refine (S_getR (ka_20 L _) rfl (f_20_2 L _) at_8_17).trans ?_
  refine (S_iconst at_8_20).trans ?_
  refine (S_aload_n rfl at_8_21).trans ?_
  refine (S_getR (ka_4 L _) rfl (f_4_2 L _) at_8_22).trans ?_
  refine (S_iconst at_8_25).trans ?_
  refine (S_iconst at_8_26).trans ?_
  refine (H_cpy rfl (by decide) (kd_21 L _) (ka_5 L _) (by omega) (Nat.le_of_ble_eq_true rfl) at_8_27).trans ?_
  refine (if_pos (by decide)).trans ?_
  refine (S_aload_n rfl at_8_30).trans ?_
  refine (S_getR (ka_20 L _) rfl (f_20_3 L _) at_8_31).trans ?_
  refine (S_iconst at_8_34).trans ?_
  refine (S_aload_n rfl at_8_35).trans ?_
  refine (S_getR (ka_4 L _) rfl (f_4_3 L _) at_8_36).trans ?_
  refine (S_iconst at_8_39).trans ?_
  refine (S_bipush at_8_40).trans ?_
  refine (H_cpy rfl (by decide) (kd_22 L _) (ka_6 L _) (by omega) (Nat.le_of_ble_eq_true rfl) at_8_42).trans ?_
  refine (if_pos (by decide)).trans ?_
  refine (S_aload_n rfl at_8_45).trans ?_
  refine (S_getR (ka_20 L _) rfl (f_20_4 L _) at_8_46).trans ?_
  refine (S_iconst at_8_49).trans ?_
  refine (S_aload_n rfl at_8_50).trans ?_
  refine (S_getR (ka_4 L _) rfl (f_4_4 L _) at_8_51).trans ?_
  refine (S_iconst at_8_54).trans ?_
  refine (S_bipush at_8_55).trans ?_
  refine (H_cpy rfl (by decide) (kd_23 L _) (ka_7 L _) (by omega) (Nat.le_of_ble_eq_true rfl) at_8_57).trans ?_
  refine (if_pos (by decide)).trans ?_
  refine (S_aload_n rfl at_8_60).trans ?_
  refine (S_getR (ka_20 L _) rfl (f_20_5 L _) at_8_61).trans ?_
  refine (S_iconst at_8_64).trans ?_
  refine (S_aload_n rfl at_8_65).trans ?_
  refine (S_getR (ka_4 L _) rfl (f_4_5 L _) at_8_66).trans ?_
  refine (S_iconst at_8_69).trans ?_
  refine (S_bipush at_8_70).trans ?_
  refine (H_cpy rfl (by decide) (kd_24 L _) (ka_8 L _) (by omega) (Nat.le_of_ble_eq_true rfl) at_8_72).trans ?_
  refine (if_pos (by decide)).trans ?_
  exact S_ret rfl at_8_75
theorem T9_0 {C : Nat → List j_V → j_H → Option j_Z} {L : j_B} {m : j_M0} {x1 : Int} : j_fin C 9 0 [some (jR 4), some (jI x1)] [] (hH L m) = (C 270 [jR 5, jI 1] (hH L (j_up (j_up m 4 0 x1) 4 1 0))).bind fun z => j_fin C 9 18 [some (jR 4), some (jI x1)] (z.1.toList ++ []) z.2 := by
  refine (S_aload_n rfl at_9_0).trans ?_
  refine (S_iload_n rfl at_9_1).trans ?_
  refine (H_put0 (ka_4 L _) rfl at_9_2).trans ?_
  refine (S_aload_n rfl at_9_5).trans ?_
  refine (S_iconst at_9_6).trans ?_
  refine (H_put0 (ka_4 L _) rfl at_9_7).trans ?_
  refine (S_aload_n rfl at_9_10).trans ?_
  refine (S_getR (ka_4 L _) rfl (f_4_2 L _) at_9_11).trans ?_
  refine (S_iconst at_9_14).trans ?_
  refine (S_invs (by decide) (Nat.le_of_ble_eq_true rfl) (Nat.le_of_ble_eq_true rfl) at_9_15).trans ?_
  rfl
theorem T9_18 {C : Nat → List j_V → j_H → Option j_Z} {L : j_B} {m : j_M0} {x1 : Int} : j_fin C 9 18 [some (jR 4), some (jI x1)] [] (hH L m) = some (none, hH L m) := by
  exact S_ret rfl at_9_18
theorem T10_0_35 {C : Nat → List j_V → j_H → Option j_Z} {L : j_B} {m : j_M0} {x1 : Int} {x2 : Int} : j_fin C 10 0 [some (jR 35), some (jI x1), some (jI x2), none] [] (hH L m) = if 0 ≤ (m 35 1) ∧ (m 35 1) < 8 then if 0 ≤ ((j_up m 37 (m 35 1).toNat x1) 35 1) ∧ ((j_up m 37 (m 35 1).toNat x1) 35 1) < 8 then j_fin C 10 22 [some (jR 35), some (jI x1), some (jI x2), some (jI 0)] [] (hH L (j_up (j_up m 37 (m 35 1).toNat x1) 38 ((j_up m 37 (m 35 1).toNat x1) 35 1).toNat x2)) else none else none := by
  refine (S_aload_n rfl at_10_0).trans ?_
  refine (S_getR (ka_35 L _) rfl (f_35_3 L _) at_10_1).trans ?_
  refine (S_aload_n rfl at_10_4).trans ?_
  refine (H_get0 (ka_35 L _) rfl at_10_5).trans ?_
  refine (S_iload_n rfl at_10_8).trans ?_
  refine (H_iastore (by omega) (ka_37 L _) at_10_9).trans ?_
  refine ite_congr rfl (fun hi => ?_) (fun _ => rfl)
  refine (S_aload_n rfl at_10_10).trans ?_
  refine (S_getR (ka_35 L _) rfl (f_35_4 L _) at_10_11).trans ?_
  refine (S_aload_n rfl at_10_14).trans ?_
  refine (H_get0 (ka_35 L _) rfl at_10_15).trans ?_
  refine (S_iload_n rfl at_10_18).trans ?_
  refine (H_iastore (by omega) (ka_38 L _) at_10_19).trans ?_
  refine ite_congr rfl (fun hi => ?_) (fun _ => rfl)
  refine (S_iconst at_10_20).trans ?_
  refine (S_istore_n (l1 := [some (jR 35), some (jI x1), some (jI x2), some (jI 0)]) rfl at_10_21).trans ?_
  rfl
theorem T10_22_35 {C : Nat → List j_V → j_H → Option j_Z} {L : j_B} {m : j_M0} {x1 : Int} {x2 : Int} {x3 : Int} : j_fin C 10 22 [some (jR 35), some (jI x1), some (jI x2), some (jI x3)] [] (hH L m) = if x3 < 5 then (C 12 [jR 35, jI (m 35 1), jI x3, jI 0] (hH L m)).bind fun z => j_fin C 10 37 [some (jR 35), some (jI x1), some (jI x2), some (jI x3)] (z.1.toList ++ []) z.2 else some (none, hH L (j_up m 35 1 (w32 ((m 35 1) + 1)))) := by
  refine (S_iload_n rfl at_10_22).trans ?_
  refine (S_iconst at_10_23).trans ?_
  refine (S_icmp_ge at_10_24).trans ?_
  refine ite_congr rfl (fun _ => ?_) (fun _ => ?_)
  · refine (S_aload_n rfl at_10_27).trans ?_
    refine (S_aload_n rfl at_10_28).trans ?_
    refine (H_get0 (ka_35 L _) rfl at_10_29).trans ?_
    refine (S_iload_n rfl at_10_32).trans ?_
    refine (S_iconst at_10_33).trans ?_
    refine (S_invv (b := 3) (by decide) kn_12 rfl (kd_35 L _) (Nat.le_of_ble_eq_true rfl) at_10_34).trans ?_
    rfl
  · refine (S_aload_n rfl at_10_43).trans ?_
    refine (S_dup rfl at_10_44).trans ?_
    refine (H_get0 (ka_35 L _) rfl at_10_45).trans ?_
    refine (S_iconst at_10_48).trans ?_
    refine (S_iadd at_10_49).trans ?_
    refine (H_put0 (ka_35 L _) rfl at_10_50).trans ?_
    exact S_ret rfl at_10_53
theorem T10_37_35 {C : Nat → List j_V → j_H → Option j_Z} {L : j_B} {m : j_M0} {x1 : Int} {x2 : Int} {x3 : Int} : j_fin C 10 37 [some (jR 35), some (jI x1), some (jI x2), some (jI x3)] [] (hH L m) = j_fin C 10 22 [some (jR 35), some (jI x1), some (jI x2), some (jI (w32 (x3 + 1)))] [] (hH L m) := by
  refine (S_iinc (l1 := [some (jR 35), some (jI x1), some (jI x2), some (jI (w32 (x3 + 1)))]) rfl rfl at_10_37).trans ?_
  refine (S_goto at_10_40).trans ?_
  rfl
theorem T10_0_4 {C : Nat → List j_V → j_H → Option j_Z} {L : j_B} {m : j_M0} {x1 : Int} {x2 : Int} : j_fin C 10 0 [some (jR 4), some (jI x1), some (jI x2), none] [] (hH L m) = if 0 ≤ (m 4 1) ∧ (m 4 1) < 8 then if 0 ≤ ((j_up m 6 (m 4 1).toNat x1) 4 1) ∧ ((j_up m 6 (m 4 1).toNat x1) 4 1) < 8 then j_fin C 10 22 [some (jR 4), some (jI x1), some (jI x2), some (jI 0)] [] (hH L (j_up (j_up m 6 (m 4 1).toNat x1) 7 ((j_up m 6 (m 4 1).toNat x1) 4 1).toNat x2)) else none else none := by
  refine (S_aload_n rfl at_10_0).trans ?_
  refine (S_getR (ka_4 L _) rfl (f_4_3 L _) at_10_1).trans ?_
  refine (S_aload_n rfl at_10_4).trans ?_
  refine (H_get0 (ka_4 L _) rfl at_10_5).trans ?_
  refine (S_iload_n rfl at_10_8).trans ?_
  refine (H_iastore (by omega) (ka_6 L _) at_10_9).trans ?_
  refine ite_congr rfl (fun hi => ?_) (fun _ => rfl)
  refine (S_aload_n rfl at_10_10).trans ?_
  refine (S_getR (ka_4 L _) rfl (f_4_4 L _) at_10_11).trans ?_
  refine (S_aload_n rfl at_10_14).trans ?_
  refine (H_get0 (ka_4 L _) rfl at_10_15).trans ?_
  refine (S_iload_n rfl at_10_18).trans ?_
  refine (H_iastore (by omega) (ka_7 L _) at_10_19).trans ?_
  refine ite_congr rfl (fun hi => ?_) (fun _ => rfl)
  refine (S_iconst at_10_20).trans ?_
  refine (S_istore_n (l1 := [some (jR 4), some (jI x1), some (jI x2), some (jI 0)]) rfl at_10_21).trans ?_
  rfl
theorem T10_22_4 {C : Nat → List j_V → j_H → Option j_Z} {L : j_B} {m : j_M0} {x1 : Int} {x2 : Int} {x3 : Int} : j_fin C 10 22 [some (jR 4), some (jI x1), some (jI x2), some (jI x3)] [] (hH L m) = if x3 < 5 then (C 12 [jR 4, jI (m 4 1), jI x3, jI 0] (hH L m)).bind fun z => j_fin C 10 37 [some (jR 4), some (jI x1), some (jI x2), some (jI x3)] (z.1.toList ++ []) z.2 else some (none, hH L (j_up m 4 1 (w32 ((m 4 1) + 1)))) := by
  refine (S_iload_n rfl at_10_22).trans ?_
  refine (S_iconst at_10_23).trans ?_
  refine (S_icmp_ge at_10_24).trans ?_
  refine ite_congr rfl (fun _ => ?_) (fun _ => ?_)
  · refine (S_aload_n rfl at_10_27).trans ?_
    refine (S_aload_n rfl at_10_28).trans ?_
    refine (H_get0 (ka_4 L _) rfl at_10_29).trans ?_
    refine (S_iload_n rfl at_10_32).trans ?_
    refine (S_iconst at_10_33).trans ?_
    refine (S_invv (b := 3) (by decide) kn_12 rfl (kd_4 L _) (Nat.le_of_ble_eq_true rfl) at_10_34).trans ?_
    rfl
  · refine (S_aload_n rfl at_10_43).trans ?_
    refine (S_dup rfl at_10_44).trans ?_
    refine (H_get0 (ka_4 L _) rfl at_10_45).trans ?_
    refine (S_iconst at_10_48).trans ?_
    refine (S_iadd at_10_49).trans ?_
    refine (H_put0 (ka_4 L _) rfl at_10_50).trans ?_
    exact S_ret rfl at_10_53
theorem T10_37_4 {C : Nat → List j_V → j_H → Option j_Z} {L : j_B} {m : j_M0} {x1 : Int} {x2 : Int} {x3 : Int} : j_fin C 10 37 [some (jR 4), some (jI x1), some (jI x2), some (jI x3)] [] (hH L m) = j_fin C 10 22 [some (jR 4), some (jI x1), some (jI x2), some (jI (w32 (x3 + 1)))] [] (hH L m) := by
  refine (S_iinc (l1 := [some (jR 4), some (jI x1), some (jI x2), some (jI (w32 (x3 + 1)))]) rfl rfl at_10_37).trans ?_
  refine (S_goto at_10_40).trans ?_
  rfl
theorem T11_0_35 {C : Nat → List j_V → j_H → Option j_Z} {L : j_B} {m : j_M0} {x1 : Int} {x2 : Int} : j_fin C 11 0 [some (jR 35), some (jI x1), some (jI x2)] [] (hH L m) = if 0 ≤ (w32 ((w32 (x1 * 5)) + x2)) ∧ (w32 ((w32 (x1 * 5)) + x2)) < 40 then some (some (jI (m 39 (w32 ((w32 (x1 * 5)) + x2)).toNat)), hH L m) else none := by
  refine (S_aload_n rfl at_11_0).trans ?_
  refine (S_getR (ka_35 L _) rfl (f_35_5 L _) at_11_1).trans ?_
  refine (S_iload_n rfl at_11_4).trans ?_
  refine (S_iconst at_11_5).trans ?_
  refine (S_imul at_11_6).trans ?_
  refine (S_iload_n rfl at_11_7).trans ?_
  refine (S_iadd at_11_8).trans ?_
  refine (H_iaload (ka_39 L _) at_11_9).trans ?_
  refine ite_congr rfl (fun hi => ?_) (fun _ => rfl)
  exact S_ireti rfl at_11_10
theorem T11_0_4 {C : Nat → List j_V → j_H → Option j_Z} {L : j_B} {m : j_M0} {x1 : Int} {x2 : Int} : j_fin C 11 0 [some (jR 4), some (jI x1), some (jI x2)] [] (hH L m) = if 0 ≤ (w32 ((w32 (x1 * 5)) + x2)) ∧ (w32 ((w32 (x1 * 5)) + x2)) < 40 then some (some (jI (m 8 (w32 ((w32 (x1 * 5)) + x2)).toNat)), hH L m) else none := by
  refine (S_aload_n rfl at_11_0).trans ?_
  refine (S_getR (ka_4 L _) rfl (f_4_5 L _) at_11_1).trans ?_
  refine (S_iload_n rfl at_11_4).trans ?_
  refine (S_iconst at_11_5).trans ?_
  refine (S_imul at_11_6).trans ?_
  refine (S_iload_n rfl at_11_7).trans ?_
  refine (S_iadd at_11_8).trans ?_
  refine (H_iaload (ka_8 L _) at_11_9).trans ?_
  refine ite_congr rfl (fun hi => ?_) (fun _ => rfl)
  exact S_ireti rfl at_11_10
theorem T12_0_35 {C : Nat → List j_V → j_H → Option j_Z} {L : j_B} {m : j_M0} {x1 : Int} {x2 : Int} {x3 : Int} : j_fin C 12 0 [some (jR 35), some (jI x1), some (jI x2), some (jI x3)] [] (hH L m) = if 0 ≤ (w32 ((w32 (x1 * 5)) + x2)) ∧ (w32 ((w32 (x1 * 5)) + x2)) < 40 then some (none, hH L (j_up m 39 (w32 ((w32 (x1 * 5)) + x2)).toNat x3)) else none := by
  refine (S_aload_n rfl at_12_0).trans ?_
  refine (S_getR (ka_35 L _) rfl (f_35_5 L _) at_12_1).trans ?_
  refine (S_iload_n rfl at_12_4).trans ?_
  refine (S_iconst at_12_5).trans ?_
  refine (S_imul at_12_6).trans ?_
  refine (S_iload_n rfl at_12_7).trans ?_
  refine (S_iadd at_12_8).trans ?_
  refine (S_iload_n rfl at_12_9).trans ?_
  refine (H_iastore (by omega) (ka_39 L _) at_12_10).trans ?_
  refine ite_congr rfl (fun hi => ?_) (fun _ => rfl)
  exact S_ret rfl at_12_11
theorem T12_0_4 {C : Nat → List j_V → j_H → Option j_Z} {L : j_B} {m : j_M0} {x1 : Int} {x2 : Int} {x3 : Int} : j_fin C 12 0 [some (jR 4), some (jI x1), some (jI x2), some (jI x3)] [] (hH L m) = if 0 ≤ (w32 ((w32 (x1 * 5)) + x2)) ∧ (w32 ((w32 (x1 * 5)) + x2)) < 40 then some (none, hH L (j_up m 8 (w32 ((w32 (x1 * 5)) + x2)).toNat x3)) else none := by
  refine (S_aload_n rfl at_12_0).trans ?_
  refine (S_getR (ka_4 L _) rfl (f_4_5 L _) at_12_1).trans ?_
  refine (S_iload_n rfl at_12_4).trans ?_
  refine (S_iconst at_12_5).trans ?_
  refine (S_imul at_12_6).trans ?_
  refine (S_iload_n rfl at_12_7).trans ?_
  refine (S_iadd at_12_8).trans ?_
  refine (S_iload_n rfl at_12_9).trans ?_
  refine (H_iastore (by omega) (ka_8 L _) at_12_10).trans ?_
  refine ite_congr rfl (fun hi => ?_) (fun _ => rfl)
  exact S_ret rfl at_12_11
theorem T13_0_35 {C : Nat → List j_V → j_H → Option j_Z} {L : j_B} {m : j_M0} {x1 : Int} {x2 : Int} : j_fin C 13 0 [some (jR 35), some (jI x1), some (jI x2), none] [] (hH L m) = if x2 = (m 35 0) then if 0 ≤ x1 ∧ x1 < 8 then j_fin C 13 23 [some (jR 35), some (jI x1), some (jI x2), none] [jI (m 38 x1.toNat)] (hH L m) else none else (C 11 [jR 35, jI x1, jI x2] (hH L m)).bind fun z => j_fin C 13 23 [some (jR 35), some (jI x1), some (jI x2), none] (z.1.toList ++ []) z.2 := by
  refine (S_iload_n rfl at_13_0).trans ?_
  refine (S_aload_n rfl at_13_1).trans ?_
  refine (H_get0 (ka_35 L _) rfl at_13_2).trans ?_
  refine (S_icmp_ne at_13_5).trans ?_
  refine ite_congr rfl (fun _ => ?_) (fun _ => ?_)
  · refine (S_aload_n rfl at_13_8).trans ?_
    refine (S_getR (ka_35 L _) rfl (f_35_4 L _) at_13_9).trans ?_
    refine (S_iload_n rfl at_13_12).trans ?_
    refine (H_iaload (ka_38 L _) at_13_13).trans ?_
    refine ite_congr rfl (fun hi => ?_) (fun _ => rfl)
    refine (S_goto at_13_14).trans ?_
    rfl
  · refine (S_aload_n rfl at_13_17).trans ?_
    refine (S_iload_n rfl at_13_18).trans ?_
    refine (S_iload_n rfl at_13_19).trans ?_
    refine (S_invv (b := 2) (by decide) kn_11 rfl (kd_35 L _) (Nat.le_of_ble_eq_true rfl) at_13_20).trans ?_
    rfl
theorem T13_23_35 {C : Nat → List j_V → j_H → Option j_Z} {L : j_B} {m : j_M0} {x1 : Int} {x2 : Int} {s0 : Int} : j_fin C 13 23 [some (jR 35), some (jI x1), some (jI x2), none] [jI s0] (hH L m) = if 0 ≤ x1 ∧ x1 < 8 then if (m 37 x1.toNat) = 0 then some (some (jI (w32 (-s0))), hH L m) else some (some (jI s0), hH L m) else none := by
  refine (S_istore_n (l1 := [some (jR 35), some (jI x1), some (jI x2), some (jI s0)]) rfl at_13_23).trans ?_
  refine (S_aload_n rfl at_13_24).trans ?_
  refine (S_getR (ka_35 L _) rfl (f_35_3 L _) at_13_25).trans ?_
  refine (S_iload_n rfl at_13_28).trans ?_
  refine (H_iaload (ka_37 L _) at_13_29).trans ?_
  refine ite_congr rfl (fun hi => ?_) (fun _ => rfl)
  refine (S_if_ne at_13_30).trans ?_
  refine ite_congr rfl (fun _ => ?_) (fun _ => ?_)
  · refine (S_iload_n rfl at_13_33).trans ?_
    refine (S_ineg at_13_34).trans ?_
    refine (S_goto at_13_35).trans ?_
    exact S_ireti rfl at_13_39
  · refine (S_iload_n rfl at_13_38).trans ?_
    exact S_ireti rfl at_13_39
theorem T13_0_4 {C : Nat → List j_V → j_H → Option j_Z} {L : j_B} {m : j_M0} {x1 : Int} {x2 : Int} : j_fin C 13 0 [some (jR 4), some (jI x1), some (jI x2), none] [] (hH L m) = if x2 = (m 4 0) then if 0 ≤ x1 ∧ x1 < 8 then j_fin C 13 23 [some (jR 4), some (jI x1), some (jI x2), none] [jI (m 7 x1.toNat)] (hH L m) else none else (C 11 [jR 4, jI x1, jI x2] (hH L m)).bind fun z => j_fin C 13 23 [some (jR 4), some (jI x1), some (jI x2), none] (z.1.toList ++ []) z.2 := by
  refine (S_iload_n rfl at_13_0).trans ?_
  refine (S_aload_n rfl at_13_1).trans ?_
  refine (H_get0 (ka_4 L _) rfl at_13_2).trans ?_
  refine (S_icmp_ne at_13_5).trans ?_
  refine ite_congr rfl (fun _ => ?_) (fun _ => ?_)
  · refine (S_aload_n rfl at_13_8).trans ?_
    refine (S_getR (ka_4 L _) rfl (f_4_4 L _) at_13_9).trans ?_
    refine (S_iload_n rfl at_13_12).trans ?_
    refine (H_iaload (ka_7 L _) at_13_13).trans ?_
    refine ite_congr rfl (fun hi => ?_) (fun _ => rfl)
    refine (S_goto at_13_14).trans ?_
    rfl
  · refine (S_aload_n rfl at_13_17).trans ?_
    refine (S_iload_n rfl at_13_18).trans ?_
    refine (S_iload_n rfl at_13_19).trans ?_
    refine (S_invv (b := 2) (by decide) kn_11 rfl (kd_4 L _) (Nat.le_of_ble_eq_true rfl) at_13_20).trans ?_
    rfl
theorem T13_23_4 {C : Nat → List j_V → j_H → Option j_Z} {L : j_B} {m : j_M0} {x1 : Int} {x2 : Int} {s0 : Int} : j_fin C 13 23 [some (jR 4), some (jI x1), some (jI x2), none] [jI s0] (hH L m) = if 0 ≤ x1 ∧ x1 < 8 then if (m 6 x1.toNat) = 0 then some (some (jI (w32 (-s0))), hH L m) else some (some (jI s0), hH L m) else none := by
  refine (S_istore_n (l1 := [some (jR 4), some (jI x1), some (jI x2), some (jI s0)]) rfl at_13_23).trans ?_
  refine (S_aload_n rfl at_13_24).trans ?_
  refine (S_getR (ka_4 L _) rfl (f_4_3 L _) at_13_25).trans ?_
  refine (S_iload_n rfl at_13_28).trans ?_
  refine (H_iaload (ka_6 L _) at_13_29).trans ?_
  refine ite_congr rfl (fun hi => ?_) (fun _ => rfl)
  refine (S_if_ne at_13_30).trans ?_
  refine ite_congr rfl (fun _ => ?_) (fun _ => ?_)
  · refine (S_iload_n rfl at_13_33).trans ?_
    refine (S_ineg at_13_34).trans ?_
    refine (S_goto at_13_35).trans ?_
    exact S_ireti rfl at_13_39
  · refine (S_iload_n rfl at_13_38).trans ?_
    exact S_ireti rfl at_13_39
theorem T14_0 {C : Nat → List j_V → j_H → Option j_Z} {L : j_B} {m : j_M0} {x1 : Int} : j_fin C 14 0 [some (jR 4), some (jI x1), none, none] [] (hH L m) = j_fin C 14 4 [some (jR 4), some (jI x1), some (jI 0), some (jI 0)] [] (hH L m) := by
  refine (S_iconst at_14_0).trans ?_
  refine (S_istore_n (l1 := [some (jR 4), some (jI x1), some (jI 0), none]) rfl at_14_1).trans ?_
  refine (S_iconst at_14_2).trans ?_
  refine (S_istore_n (l1 := [some (jR 4), some (jI x1), some (jI 0), some (jI 0)]) rfl at_14_3).trans ?_
  rfl
theorem T14_4 {C : Nat → List j_V → j_H → Option j_Z} {L : j_B} {m : j_M0} {x1 : Int} {x2 : Int} {x3 : Int} : j_fin C 14 4 [some (jR 4), some (jI x1), some (jI x2), some (jI x3)] [] (hH L m) = if x3 < (m 4 0) then (C 16 [jR 4, jI x1, jI x3] (hH L m)).bind fun z => j_fin C 14 19 [some (jR 4), some (jI x1), some (jI x2), some (jI x3)] (z.1.toList ++ [jI x2]) z.2 else some (some (jI x2), hH L m) := by
  refine (S_iload_n rfl at_14_4).trans ?_
  refine (S_aload_n rfl at_14_5).trans ?_
  refine (H_get0 (ka_4 L _) rfl at_14_6).trans ?_
  refine (S_icmp_ge at_14_9).trans ?_
  refine ite_congr rfl (fun _ => ?_) (fun _ => ?_)
  · refine (S_iload_n rfl at_14_12).trans ?_
    refine (S_aload_n rfl at_14_13).trans ?_
    refine (S_iload_n rfl at_14_14).trans ?_
    refine (S_iload_n rfl at_14_15).trans ?_
    refine (S_invv (b := 2) (by decide) kn_16 rfl (kd_4 L _) (Nat.le_of_ble_eq_true rfl) at_14_16).trans ?_
    rfl
  · refine (S_iload_n rfl at_14_34).trans ?_
    exact S_ireti rfl at_14_35
theorem T14_19 {C : Nat → List j_V → j_H → Option j_Z} {L : j_B} {m : j_M0} {x1 : Int} {x2 : Int} {x3 : Int} {s0 : Int} {s1 : Int} : j_fin C 14 19 [some (jR 4), some (jI x1), some (jI x2), some (jI x3)] [jI s1, jI s0] (hH L m) = if 0 ≤ x3 ∧ x3 < 5 then j_fin C 14 4 [some (jR 4), some (jI x1), some (jI (w32 (s0 + (w32 (s1 * (m 5 x3.toNat)))))), some (jI (w32 (x3 + 1)))] [] (hH L m) else none := by
  refine (S_aload_n rfl at_14_19).trans ?_
  refine (S_getR (ka_4 L _) rfl (f_4_2 L _) at_14_20).trans ?_
  refine (S_iload_n rfl at_14_23).trans ?_
  refine (H_iaload (ka_5 L _) at_14_24).trans ?_
  refine ite_congr rfl (fun hi => ?_) (fun _ => rfl)
  refine (S_imul at_14_25).trans ?_
  refine (S_iadd at_14_26).trans ?_
  refine (S_istore_n (l1 := [some (jR 4), some (jI x1), some (jI (w32 (s0 + (w32 (s1 * (m 5 x3.toNat)))))), some (jI x3)]) rfl at_14_27).trans ?_
  refine (S_iinc (l1 := [some (jR 4), some (jI x1), some (jI (w32 (s0 + (w32 (s1 * (m 5 x3.toNat)))))), some (jI (w32 (x3 + 1)))]) rfl rfl at_14_28).trans ?_
  refine (S_goto at_14_31).trans ?_
  rfl
theorem T16_0 {C : Nat → List j_V → j_H → Option j_Z} {L : j_B} {m : j_M0} {x1 : Int} {x2 : Int} : j_fin C 16 0 [some (jR 4), some (jI x1), some (jI x2), none, none] [] (hH L m) = j_fin C 16 10 [some (jR 4), some (jI x1), some (jI x2), some (jI x1), some (jI (w32 ((m 4 0) - 1)))] [] (hH L m) := by
  refine (S_iload_n rfl at_16_0).trans ?_
  refine (S_istore_n (l1 := [some (jR 4), some (jI x1), some (jI x2), some (jI x1), none]) rfl at_16_1).trans ?_
  refine (S_aload_n rfl at_16_2).trans ?_
  refine (H_get0 (ka_4 L _) rfl at_16_3).trans ?_
  refine (S_iconst at_16_6).trans ?_
  refine (S_isub at_16_7).trans ?_
  refine (S_istore (l1 := [some (jR 4), some (jI x1), some (jI x2), some (jI x1), some (jI (w32 ((m 4 0) - 1)))]) rfl at_16_8).trans ?_
  rfl
theorem T16_10 {C : Nat → List j_V → j_H → Option j_Z} {L : j_B} {m : j_M0} {x1 : Int} {x2 : Int} {x3 : Int} {x4 : Int} : j_fin C 16 10 [some (jR 4), some (jI x1), some (jI x2), some (jI x3), some (jI x4)] [] (hH L m) = if x2 < x4 then j_fin C 16 10 [some (jR 4), some (jI x1), some (jI x2), some (jI (w32 (Int.tdiv x3 10))), some (jI (w32 (x4 + (-1))))] [] (hH L m) else some (some (jI (Int.tmod x3 10)), hH L m) := by
  refine (S_iload rfl at_16_10).trans ?_
  refine (S_iload_n rfl at_16_12).trans ?_
  refine (S_icmp_le at_16_13).trans ?_
  refine ite_congr rfl (fun _ => ?_) (fun _ => ?_)
  · refine (S_iload_n rfl at_16_16).trans ?_
    refine (S_bipush at_16_17).trans ?_
    refine (S_idiv at_16_19).trans ?_
    refine (if_neg (by decide)).trans ?_
    refine (S_istore_n (l1 := [some (jR 4), some (jI x1), some (jI x2), some (jI (w32 (Int.tdiv x3 10))), some (jI x4)]) rfl at_16_20).trans ?_
    refine (S_iinc (l1 := [some (jR 4), some (jI x1), some (jI x2), some (jI (w32 (Int.tdiv x3 10))), some (jI (w32 (x4 + (-1))))]) rfl rfl at_16_21).trans ?_
    refine (S_goto at_16_24).trans ?_
    rfl
  · refine (S_iload_n rfl at_16_27).trans ?_
    refine (S_bipush at_16_28).trans ?_
    refine (S_irem at_16_30).trans ?_
    refine (if_neg (by decide)).trans ?_
    exact S_ireti rfl at_16_31
theorem T17_0 {C : Nat → List j_V → j_H → Option j_Z} {L : j_B} {m : j_M0} {x1 : Int} {x2 : Int} {x3 : Int} : j_fin C 17 0 [some (jR 35), some (jI x1), some (jI x2), some (jI x3), none] [] (hH L m) = if x1 = 1 then if x2 < (m 35 0) then if x1 = 0 then if 0 ≤ x2 ∧ x2 < 8 then j_fin C 17 78 [some (jR 35), some (jI x1), some (jI x2), some (jI x3), some (jI 1)] [] (hH L (j_up m 38 x2.toNat x3)) else none else if x1 = 1 then if 0 ≤ x2 ∧ x2 < 5 then j_fin C 17 78 [some (jR 35), some (jI x1), some (jI x2), some (jI x3), some (jI 1)] [] (hH L (j_up m 36 x2.toNat x3)) else none else (C 12 [jR 35, jI x2, jI 0, jI x3] (hH L m)).bind fun z => j_fin C 17 78 [some (jR 35), some (jI x1), some (jI x2), some (jI x3), some (jI 1)] (z.1.toList ++ []) z.2 else some (none, hH L m) else if x2 < (m 35 1) then if x1 = 0 then if 0 ≤ x2 ∧ x2 < 8 then j_fin C 17 78 [some (jR 35), some (jI x1), some (jI x2), some (jI x3), some (jI 1)] [] (hH L (j_up m 38 x2.toNat x3)) else none else if x1 = 1 then if 0 ≤ x2 ∧ x2 < 5 then j_fin C 17 78 [some (jR 35), some (jI x1), some (jI x2), some (jI x3), some (jI 1)] [] (hH L (j_up m 36 x2.toNat x3)) else none else (C 12 [jR 35, jI x2, jI 0, jI x3] (hH L m)).bind fun z => j_fin C 17 78 [some (jR 35), some (jI x1), some (jI x2), some (jI x3), some (jI 1)] (z.1.toList ++ []) z.2 else some (none, hH L m) := by
  refine (S_iload_n rfl at_17_0).trans ?_
  refine (S_iconst at_17_1).trans ?_
  refine (S_icmp_ne at_17_2).trans ?_
  refine ite_congr rfl (fun _ => ?_) (fun _ => ?_)
  · refine (S_iload_n rfl at_17_5).trans ?_
    refine (S_aload_n rfl at_17_6).trans ?_
    refine (H_get0 (ka_35 L _) rfl at_17_7).trans ?_
    refine (S_icmp_ge at_17_10).trans ?_
    refine ite_congr rfl (fun _ => ?_) (fun _ => ?_)
    · refine (S_iconst at_17_13).trans ?_
      refine (S_goto at_17_14).trans ?_
      refine (S_istore (l1 := [some (jR 35), some (jI x1), some (jI x2), some (jI x3), some (jI 1)]) rfl at_17_34).trans ?_
      refine (S_iload rfl at_17_36).trans ?_
      refine (S_if_ne at_17_38).trans ?_
      refine (if_neg (by decide)).trans ?_
      refine (S_iload_n rfl at_17_42).trans ?_
      refine (S_if_ne at_17_43).trans ?_
      refine ite_congr rfl (fun _ => ?_) (fun _ => ?_)
      · refine (S_aload_n rfl at_17_46).trans ?_
        refine (S_getR (ka_35 L _) rfl (f_35_4 L _) at_17_47).trans ?_
        refine (S_iload_n rfl at_17_50).trans ?_
        refine (S_iload_n rfl at_17_51).trans ?_
        refine (H_iastore (by omega) (ka_38 L _) at_17_52).trans ?_
        refine ite_congr rfl (fun hi => ?_) (fun _ => rfl)
        refine (S_goto at_17_53).trans ?_
        rfl
      · refine (S_iload_n rfl at_17_56).trans ?_
        refine (S_iconst at_17_57).trans ?_
        refine (S_icmp_ne at_17_58).trans ?_
        refine ite_congr rfl (fun _ => ?_) (fun _ => ?_)
        · refine (S_aload_n rfl at_17_61).trans ?_
          refine (S_getR (ka_35 L _) rfl (f_35_2 L _) at_17_62).trans ?_
          refine (S_iload_n rfl at_17_65).trans ?_
          refine (S_iload_n rfl at_17_66).trans ?_
          refine (H_iastore (by omega) (ka_36 L _) at_17_67).trans ?_
          refine ite_congr rfl (fun hi => ?_) (fun _ => rfl)
          refine (S_goto at_17_68).trans ?_
          rfl
        · refine (S_aload_n rfl at_17_71).trans ?_
          refine (S_iload_n rfl at_17_72).trans ?_
          refine (S_iconst at_17_73).trans ?_
          refine (S_iload_n rfl at_17_74).trans ?_
          refine (S_invv (b := 3) (by decide) kn_12 rfl (kd_35 L _) (Nat.le_of_ble_eq_true rfl) at_17_75).trans ?_
          rfl
    · refine (S_iconst at_17_17).trans ?_
      refine (S_goto at_17_18).trans ?_
      refine (S_istore (l1 := [some (jR 35), some (jI x1), some (jI x2), some (jI x3), some (jI 0)]) rfl at_17_34).trans ?_
      refine (S_iload rfl at_17_36).trans ?_
      refine (S_if_ne at_17_38).trans ?_
      refine (if_pos (by decide)).trans ?_
      exact S_ret rfl at_17_41
  · refine (S_iload_n rfl at_17_21).trans ?_
    refine (S_aload_n rfl at_17_22).trans ?_
    refine (H_get0 (ka_35 L _) rfl at_17_23).trans ?_
    refine (S_icmp_ge at_17_26).trans ?_
    refine ite_congr rfl (fun _ => ?_) (fun _ => ?_)
    · refine (S_iconst at_17_29).trans ?_
      refine (S_goto at_17_30).trans ?_
      refine (S_istore (l1 := [some (jR 35), some (jI x1), some (jI x2), some (jI x3), some (jI 1)]) rfl at_17_34).trans ?_
      refine (S_iload rfl at_17_36).trans ?_
      refine (S_if_ne at_17_38).trans ?_
      refine (if_neg (by decide)).trans ?_
      refine (S_iload_n rfl at_17_42).trans ?_
      refine (S_if_ne at_17_43).trans ?_
      refine ite_congr rfl (fun _ => ?_) (fun _ => ?_)
      · refine (S_aload_n rfl at_17_46).trans ?_
        refine (S_getR (ka_35 L _) rfl (f_35_4 L _) at_17_47).trans ?_
        refine (S_iload_n rfl at_17_50).trans ?_
        refine (S_iload_n rfl at_17_51).trans ?_
        refine (H_iastore (by omega) (ka_38 L _) at_17_52).trans ?_
        refine ite_congr rfl (fun hi => ?_) (fun _ => rfl)
        refine (S_goto at_17_53).trans ?_
        rfl
      · refine (S_iload_n rfl at_17_56).trans ?_
        refine (S_iconst at_17_57).trans ?_
        refine (S_icmp_ne at_17_58).trans ?_
        refine ite_congr rfl (fun _ => ?_) (fun _ => ?_)
        · refine (S_aload_n rfl at_17_61).trans ?_
          refine (S_getR (ka_35 L _) rfl (f_35_2 L _) at_17_62).trans ?_
          refine (S_iload_n rfl at_17_65).trans ?_
          refine (S_iload_n rfl at_17_66).trans ?_
          refine (H_iastore (by omega) (ka_36 L _) at_17_67).trans ?_
          refine ite_congr rfl (fun hi => ?_) (fun _ => rfl)
          refine (S_goto at_17_68).trans ?_
          rfl
        · refine (S_aload_n rfl at_17_71).trans ?_
          refine (S_iload_n rfl at_17_72).trans ?_
          refine (S_iconst at_17_73).trans ?_
          refine (S_iload_n rfl at_17_74).trans ?_
          refine (S_invv (b := 3) (by decide) kn_12 rfl (kd_35 L _) (Nat.le_of_ble_eq_true rfl) at_17_75).trans ?_
          rfl
    · refine (S_iconst at_17_33).trans ?_
      refine (S_istore (l1 := [some (jR 35), some (jI x1), some (jI x2), some (jI x3), some (jI 0)]) rfl at_17_34).trans ?_
      refine (S_iload rfl at_17_36).trans ?_
      refine (S_if_ne at_17_38).trans ?_
      refine (if_pos (by decide)).trans ?_
      exact S_ret rfl at_17_41
theorem T17_78 {C : Nat → List j_V → j_H → Option j_Z} {L : j_B} {m : j_M0} {x1 : Int} {x2 : Int} {x3 : Int} {x4 : Int} : j_fin C 17 78 [some (jR 35), some (jI x1), some (jI x2), some (jI x3), some (jI x4)] [] (hH L m) = some (none, hH L m) := by
  exact S_ret rfl at_17_78
theorem T18_0 {C : Nat → List j_V → j_H → Option j_Z} {L : j_B} {m : j_M0} {x1 : Int} {x2 : Int} : j_fin C 18 0 [some (jR 35), some (jI x1), some (jI x2), none, none, none] [] (hH L m) = j_fin C 18 10 [some (jR 35), some (jI x1), some (jI x2), some (jI x1), some (jI 0), none] [] (hH L (j_up m 35 1 0)) := by
  refine (S_iload_n rfl at_18_0).trans ?_
  refine (S_istore_n (l1 := [some (jR 35), some (jI x1), some (jI x2), some (jI x1), none, none]) rfl at_18_1).trans ?_
  refine (S_aload_n rfl at_18_2).trans ?_
  refine (S_iconst at_18_3).trans ?_
  refine (H_put0 (ka_35 L _) rfl at_18_4).trans ?_
  refine (S_iconst at_18_7).trans ?_
  refine (S_istore (l1 := [some (jR 35), some (jI x1), some (jI x2), some (jI x1), some (jI 0), none]) rfl at_18_8).trans ?_
  rfl
theorem T18_10 {C : Nat → List j_V → j_H → Option j_Z} {L : j_B} {m : j_M0} {x1 : Int} {x2 : Int} {x3 : Int} {x4 : Int} {o5 : Option j_V} : j_fin C 18 10 [some (jR 35), some (jI x1), some (jI x2), some (jI x3), some (jI x4), o5] [] (hH L m) = if x4 < x2 then (C 10 [jR 35, jI 0, jI 0] (hH L m)).bind fun z => j_fin C 18 22 [some (jR 35), some (jI x1), some (jI x2), some (jI x3), some (jI x4), o5] (z.1.toList ++ []) z.2 else some (none, hH L m) := by
  refine (S_iload rfl at_18_10).trans ?_
  refine (S_iload_n rfl at_18_12).trans ?_
  refine (S_icmp_ge at_18_13).trans ?_
  refine ite_congr rfl (fun _ => ?_) (fun _ => ?_)
  · refine (S_aload_n rfl at_18_16).trans ?_
    refine (S_iconst at_18_17).trans ?_
    refine (S_iconst at_18_18).trans ?_
    refine (S_invv (b := 2) (by decide) kn_10 rfl (kd_35 L _) (Nat.le_of_ble_eq_true rfl) at_18_19).trans ?_
    rfl
  · exact S_ret rfl at_18_85
theorem T18_22 {C : Nat → List j_V → j_H → Option j_Z} {L : j_B} {m : j_M0} {x1 : Int} {x2 : Int} {x3 : Int} {x4 : Int} {o5 : Option j_V} : j_fin C 18 22 [some (jR 35), some (jI x1), some (jI x2), some (jI x3), some (jI x4), o5] [] (hH L m) = j_fin C 18 25 [some (jR 35), some (jI x1), some (jI x2), some (jI x3), some (jI x4), some (jI 0)] [] (hH L m) := by
  refine (S_iconst at_18_22).trans ?_
  refine (S_istore (l1 := [some (jR 35), some (jI x1), some (jI x2), some (jI x3), some (jI x4), some (jI 0)]) rfl at_18_23).trans ?_
  rfl
theorem T18_25 {C : Nat → List j_V → j_H → Option j_Z} {L : j_B} {m : j_M0} {x1 : Int} {x2 : Int} {x3 : Int} {x4 : Int} {x5 : Int} : j_fin C 18 25 [some (jR 35), some (jI x1), some (jI x2), some (jI x3), some (jI x4), some (jI x5)] [] (hH L m) = if x5 < (m 35 0) then (C 19 [jI x3] (hH L m)).bind fun z => j_fin C 18 38 [some (jR 35), some (jI x1), some (jI x2), some (jI x3), some (jI x4), some (jI x5)] (z.1.toList ++ []) z.2 else (C 19 [jI x3] (hH L m)).bind fun z => j_fin C 18 64 [some (jR 35), some (jI x1), some (jI x2), some (jI x3), some (jI x4), some (jI x5)] (z.1.toList ++ []) z.2 := by
  refine (S_iload rfl at_18_25).trans ?_
  refine (S_aload_n rfl at_18_27).trans ?_
  refine (H_get0 (ka_35 L _) rfl at_18_28).trans ?_
  refine (S_icmp_ge at_18_31).trans ?_
  refine ite_congr rfl (fun _ => ?_) (fun _ => ?_)
  · refine (S_iload_n rfl at_18_34).trans ?_
    refine (S_invs (by decide) (Nat.le_of_ble_eq_true rfl) (Nat.le_of_ble_eq_true rfl) at_18_35).trans ?_
    rfl
  · refine (S_iload_n rfl at_18_60).trans ?_
    refine (S_invs (by decide) (Nat.le_of_ble_eq_true rfl) (Nat.le_of_ble_eq_true rfl) at_18_61).trans ?_
    rfl
theorem T18_38 {C : Nat → List j_V → j_H → Option j_Z} {L : j_B} {m : j_M0} {x1 : Int} {x2 : Int} {x3 : Int} {x4 : Int} {x5 : Int} {s0 : Int} : j_fin C 18 38 [some (jR 35), some (jI x1), some (jI x2), some (jI x3), some (jI x4), some (jI x5)] [jI s0] (hH L m) = (C 12 [jR 35, jI x4, jI x5, jI (Int.tmod (j_ushr s0 9) 10)] (hH L m)).bind fun z => j_fin C 18 54 [some (jR 35), some (jI x1), some (jI x2), some (jI s0), some (jI x4), some (jI x5)] (z.1.toList ++ []) z.2 := by
  refine (S_istore_n (l1 := [some (jR 35), some (jI x1), some (jI x2), some (jI s0), some (jI x4), some (jI x5)]) rfl at_18_38).trans ?_
  refine (S_aload_n rfl at_18_39).trans ?_
  refine (S_iload rfl at_18_40).trans ?_
  refine (S_iload rfl at_18_42).trans ?_
  refine (S_iload_n rfl at_18_44).trans ?_
  refine (S_bipush at_18_45).trans ?_
  refine (S_iushr at_18_47).trans ?_
  refine (S_bipush at_18_48).trans ?_
  refine (S_irem at_18_50).trans ?_
  refine (if_neg (by decide)).trans ?_
  refine (S_invv (b := 3) (by decide) kn_12 rfl (kd_35 L _) (Nat.le_of_ble_eq_true rfl) at_18_51).trans ?_
  rfl
theorem T18_54 {C : Nat → List j_V → j_H → Option j_Z} {L : j_B} {m : j_M0} {x1 : Int} {x2 : Int} {x3 : Int} {x4 : Int} {x5 : Int} : j_fin C 18 54 [some (jR 35), some (jI x1), some (jI x2), some (jI x3), some (jI x4), some (jI x5)] [] (hH L m) = j_fin C 18 25 [some (jR 35), some (jI x1), some (jI x2), some (jI x3), some (jI x4), some (jI (w32 (x5 + 1)))] [] (hH L m) := by
  refine (S_iinc (l1 := [some (jR 35), some (jI x1), some (jI x2), some (jI x3), some (jI x4), some (jI (w32 (x5 + 1)))]) rfl rfl at_18_54).trans ?_
  refine (S_goto at_18_57).trans ?_
  rfl
theorem T18_64 {C : Nat → List j_V → j_H → Option j_Z} {L : j_B} {m : j_M0} {x1 : Int} {x2 : Int} {x3 : Int} {x4 : Int} {x5 : Int} {s0 : Int} : j_fin C 18 64 [some (jR 35), some (jI x1), some (jI x2), some (jI x3), some (jI x4), some (jI x5)] [jI s0] (hH L m) = if 0 ≤ x4 ∧ x4 < 8 then j_fin C 18 10 [some (jR 35), some (jI x1), some (jI x2), some (jI s0), some (jI (w32 (x4 + 1))), some (jI x5)] [] (hH L (j_up m 38 x4.toNat (Int.tmod (j_ushr s0 9) 60))) else none := by
  refine (S_istore_n (l1 := [some (jR 35), some (jI x1), some (jI x2), some (jI s0), some (jI x4), some (jI x5)]) rfl at_18_64).trans ?_
  refine (S_aload_n rfl at_18_65).trans ?_
  refine (S_getR (ka_35 L _) rfl (f_35_4 L _) at_18_66).trans ?_
  refine (S_iload rfl at_18_69).trans ?_
  refine (S_iload_n rfl at_18_71).trans ?_
  refine (S_bipush at_18_72).trans ?_
  refine (S_iushr at_18_74).trans ?_
  refine (S_bipush at_18_75).trans ?_
  refine (S_irem at_18_77).trans ?_
  refine (if_neg (by decide)).trans ?_
  refine (H_iastore (by omega) (ka_38 L _) at_18_78).trans ?_
  refine ite_congr rfl (fun hi => ?_) (fun _ => rfl)
  refine (S_iinc (l1 := [some (jR 35), some (jI x1), some (jI x2), some (jI s0), some (jI (w32 (x4 + 1))), some (jI x5)]) rfl rfl at_18_79).trans ?_
  refine (S_goto at_18_82).trans ?_
  rfl
theorem T19_0 {C : Nat → List j_V → j_H → Option j_Z} {L : j_B} {m : j_M0} {x0 : Int} : j_fin C 19 0 [some (jI x0)] [] (hH L m) = some (some (jI (w32 ((w32 (x0 * 1103515245)) + 12345))), hH L m) := by
  refine (S_iload_n rfl at_19_0).trans ?_
  refine (S_ldc rfl at_19_1).trans ?_
  refine (S_imul at_19_3).trans ?_
  refine (S_sipush at_19_4).trans ?_
  refine (S_iadd at_19_7).trans ?_
  exact S_ireti rfl at_19_8
theorem T21_0_25_9 {C : Nat → List j_V → j_H → Option j_Z} {L : j_B} {m : j_M0} : j_fin C 21 0 [some (jR 25), some (jR 9)] [] (hH L m) = some (none, hH L (j_cpy (j_cpy (j_cpy (j_up m 25 0 (m 9 0)) 10 0 26 0 20) 11 0 27 0 20) 12 0 28 0 20)) := by
  refine (S_aload_n rfl at_21_0).trans ?_
  refine (S_aload_n rfl at_21_1).trans ?_
  refine (H_get0 (ka_9 L _) rfl at_21_2).trans ?_
  refine (H_put0 (ka_25 L _) rfl at_21_5).trans ?_
  refine (S_aload_n rfl at_21_8).trans ?_
  refine (S_getR (ka_9 L _) rfl (f_9_1 L _) at_21_9).trans ?_
  refine (S_iconst at_21_12).trans ?_
  refine (S_aload_n rfl at_21_13).trans ?_
  refine (S_getR (ka_25 L _) rfl (f_25_1 L _) at_21_14).trans ?_
  refine (S_iconst at_21_17).trans ?_
  refine (S_bipush at_21_18).trans ?_
  refine (H_cpy rfl (by decide) (kd_10 L _) (ka_26 L _) (by omega) (Nat.le_of_ble_eq_true rfl) at_21_20).trans ?_
  refine (if_pos (by decide)).trans ?_
  refine (S_aload_n rfl at_21_23).trans ?_
  refine (S_getR (ka_9 L _) rfl (f_9_2 L _) at_21_24).trans ?_
  refine (S_iconst at_21_27).trans ?_
  refine (S_aload_n rfl at_21_28).trans ?_
  refine (S_getR (ka_25 L _) rfl (f_25_2 L _) at_21_29).trans ?_
  refine (S_iconst at_21_32).trans ?_
  refine (S_bipush at_21_33).trans ?_
  refine (H_cpy rfl (by decide) (kd_11 L _) (ka_27 L _) (by omega) (Nat.le_of_ble_eq_true rfl) at_21_35).trans ?_
  refine (if_pos (by decide)).trans ?_
  refine (S_aload_n rfl at_21_38).trans ?_
  refine (S_getR (ka_9 L _) rfl (f_9_3 L _) at_21_39).trans ?_
  refine (S_iconst at_21_42).trans ?_
  refine (S_aload_n rfl at_21_43).trans ?_
  refine (S_getR (ka_25 L _) rfl (f_25_3 L _) at_21_44).trans ?_
  refine (S_iconst at_21_47).trans ?_
  refine (S_bipush at_21_48).trans ?_
  refine (H_cpy rfl (by decide) (kd_12 L _) (ka_28 L _) (by omega) (Nat.le_of_ble_eq_true rfl) at_21_50).trans ?_
  refine (if_pos (by decide)).trans ?_
  exact S_ret rfl at_21_53
theorem T21_0_9_25 {C : Nat → List j_V → j_H → Option j_Z} {L : j_B} {m : j_M0} : j_fin C 21 0 [some (jR 9), some (jR 25)] [] (hH L m) = some (none, hH L (j_cpy (j_cpy (j_cpy (j_up m 9 0 (m 25 0)) 26 0 10 0 20) 27 0 11 0 20) 28 0 12 0 20)) := by
  refine (S_aload_n rfl at_21_0).trans ?_
  refine (S_aload_n rfl at_21_1).trans ?_
  refine (H_get0 (ka_25 L _) rfl at_21_2).trans ?_
  refine (H_put0 (ka_9 L _) rfl at_21_5).trans ?_
  refine (S_aload_n rfl at_21_8).trans ?_
  refine (S_getR (ka_25 L _) rfl (f_25_1 L _) at_21_9).trans ?_
  refine (S_iconst at_21_12).trans ?_
  refine (S_aload_n rfl at_21_13).trans ?_
  refine (S_getR (ka_9 L _) rfl (f_9_1 L _) at_21_14).trans ?_
  refine (S_iconst at_21_17).trans ?_
  refine (S_bipush at_21_18).trans ?_
  refine (H_cpy rfl (by decide) (kd_26 L _) (ka_10 L _) (by omega) (Nat.le_of_ble_eq_true rfl) at_21_20).trans ?_
  refine (if_pos (by decide)).trans ?_
  refine (S_aload_n rfl at_21_23).trans ?_
  refine (S_getR (ka_25 L _) rfl (f_25_2 L _) at_21_24).trans ?_
  refine (S_iconst at_21_27).trans ?_
  refine (S_aload_n rfl at_21_28).trans ?_
  refine (S_getR (ka_9 L _) rfl (f_9_2 L _) at_21_29).trans ?_
  refine (S_iconst at_21_32).trans ?_
  refine (S_bipush at_21_33).trans ?_
  refine (H_cpy rfl (by decide) (kd_27 L _) (ka_11 L _) (by omega) (Nat.le_of_ble_eq_true rfl) at_21_35).trans ?_
  refine (if_pos (by decide)).trans ?_
  refine (S_aload_n rfl at_21_38).trans ?_
  refine (S_getR (ka_25 L _) rfl (f_25_3 L _) at_21_39).trans ?_
  refine (S_iconst at_21_42).trans ?_
  refine (S_aload_n rfl at_21_43).trans ?_
  refine (S_getR (ka_9 L _) rfl (f_9_3 L _) at_21_44).trans ?_
  refine (S_iconst at_21_47).trans ?_
  refine (S_bipush at_21_48).trans ?_
  refine (H_cpy rfl (by decide) (kd_28 L _) (ka_12 L _) (by omega) (Nat.le_of_ble_eq_true rfl) at_21_50).trans ?_
  refine (if_pos (by decide)).trans ?_
  exact S_ret rfl at_21_53
theorem T22_0_9 {C : Nat → List j_V → j_H → Option j_Z} {L : j_B} {m : j_M0} : j_fin C 22 0 [some (jR 9)] [] (hH L m) = some (none, hH L (j_up m 9 0 0)) := by
  refine (S_aload_n rfl at_22_0).trans ?_
  refine (S_iconst at_22_1).trans ?_
  refine (H_put0 (ka_9 L _) rfl at_22_2).trans ?_
  exact S_ret rfl at_22_5
theorem T23_0 {C : Nat → List j_V → j_H → Option j_Z} {L : j_B} {m : j_M0} {x1 : Int} : j_fin C 23 0 [some (jR 9), some (jI x1), none] [] (hH L m) = j_fin C 23 2 [some (jR 9), some (jI x1), some (jI 0)] [] (hH L m) := by
  refine (S_iconst at_23_0).trans ?_
  refine (S_istore_n (l1 := [some (jR 9), some (jI x1), some (jI 0)]) rfl at_23_1).trans ?_
  rfl
theorem T23_2 {C : Nat → List j_V → j_H → Option j_Z} {L : j_B} {m : j_M0} {x1 : Int} {x2 : Int} : j_fin C 23 2 [some (jR 9), some (jI x1), some (jI x2)] [] (hH L m) = if x2 < (m 9 0) then if 0 ≤ x2 ∧ x2 < 20 then if (m 10 x2.toNat) = x1 then some (some (jI x2), hH L m) else j_fin C 23 2 [some (jR 9), some (jI x1), some (jI (w32 (x2 + 1)))] [] (hH L m) else none else some (some (jI (-1)), hH L m) := by
  refine (S_iload_n rfl at_23_2).trans ?_
  refine (S_aload_n rfl at_23_3).trans ?_
  refine (H_get0 (ka_9 L _) rfl at_23_4).trans ?_
  refine (S_icmp_ge at_23_7).trans ?_
  refine ite_congr rfl (fun _ => ?_) (fun _ => ?_)
  · refine (S_aload_n rfl at_23_10).trans ?_
    refine (S_getR (ka_9 L _) rfl (f_9_1 L _) at_23_11).trans ?_
    refine (S_iload_n rfl at_23_14).trans ?_
    refine (H_iaload (ka_10 L _) at_23_15).trans ?_
    refine ite_congr rfl (fun hi => ?_) (fun _ => rfl)
    refine (S_iload_n rfl at_23_16).trans ?_
    refine (S_icmp_ne at_23_17).trans ?_
    refine ite_congr rfl (fun _ => ?_) (fun _ => ?_)
    · refine (S_iload_n rfl at_23_20).trans ?_
      exact S_ireti rfl at_23_21
    · refine (S_iinc (l1 := [some (jR 9), some (jI x1), some (jI (w32 (x2 + 1)))]) rfl rfl at_23_22).trans ?_
      refine (S_goto at_23_25).trans ?_
      rfl
  · refine (S_iconst at_23_28).trans ?_
    exact S_ireti rfl at_23_29
theorem T24_0 {C : Nat → List j_V → j_H → Option j_Z} {L : j_B} {m : j_M0} {x1 : Int} : j_fin C 24 0 [some (jR 9), some (jI x1)] [] (hH L m) = if 0 ≤ x1 ∧ x1 < 20 then if 0 ≤ x1 ∧ x1 < 20 then some (some (jI (w32 ((m 12 x1.toNat) - (m 11 x1.toNat)))), hH L m) else none else none := by
  refine (S_aload_n rfl at_24_0).trans ?_
  refine (S_getR (ka_9 L _) rfl (f_9_3 L _) at_24_1).trans ?_
  refine (S_iload_n rfl at_24_4).trans ?_
  refine (H_iaload (ka_12 L _) at_24_5).trans ?_
  refine ite_congr rfl (fun hi => ?_) (fun _ => rfl)
  refine (S_aload_n rfl at_24_6).trans ?_
  refine (S_getR (ka_9 L _) rfl (f_9_2 L _) at_24_7).trans ?_
  refine (S_iload_n rfl at_24_10).trans ?_
  refine (H_iaload (ka_11 L _) at_24_11).trans ?_
  refine ite_congr rfl (fun hi => ?_) (fun _ => rfl)
  refine (S_isub at_24_12).trans ?_
  exact S_ireti rfl at_24_13
theorem T25_0_9 {C : Nat → List j_V → j_H → Option j_Z} {L : j_B} {m : j_M0} {x1 : Int} {x2 : Int} {x3 : Int} : j_fin C 25 0 [some (jR 9), some (jI x1), some (jI x2), some (jI x3), none] [] (hH L m) = j_fin C 25 6 [some (jR 9), some (jI x1), some (jI x2), some (jI x3), some (jI (m 9 0))] [] (hH L m) := by
  refine (S_aload_n rfl at_25_0).trans ?_
  refine (H_get0 (ka_9 L _) rfl at_25_1).trans ?_
  refine (S_istore (l1 := [some (jR 9), some (jI x1), some (jI x2), some (jI x3), some (jI (m 9 0))]) rfl at_25_4).trans ?_
  rfl
theorem T25_6_9 {C : Nat → List j_V → j_H → Option j_Z} {L : j_B} {m : j_M0} {x1 : Int} {x2 : Int} {x3 : Int} {x4 : Int} : j_fin C 25 6 [some (jR 9), some (jI x1), some (jI x2), some (jI x3), some (jI x4)] [] (hH L m) = if 0 < x4 then (C 27 [jR 9, jI x1, jI x2, jI (w32 (x4 - 1))] (hH L m)).bind fun z => j_fin C 25 21 [some (jR 9), some (jI x1), some (jI x2), some (jI x3), some (jI x4)] (z.1.toList ++ []) z.2 else if 0 ≤ x4 ∧ x4 < 20 then if 0 ≤ x4 ∧ x4 < 20 then if 0 ≤ x4 ∧ x4 < 20 then some (none, hH L (j_up (j_up (j_up (j_up m 10 x4.toNat x1) 11 x4.toNat x2) 12 x4.toNat x3) 9 0 (w32 (((j_up (j_up (j_up m 10 x4.toNat x1) 11 x4.toNat x2) 12 x4.toNat x3) 9 0) + 1)))) else none else none else none := by
  refine (S_iload rfl at_25_6).trans ?_
  refine (S_if_le at_25_8).trans ?_
  refine ite_congr rfl (fun _ => ?_) (fun _ => ?_)
  · refine (S_aload_n rfl at_25_11).trans ?_
    refine (S_iload_n rfl at_25_12).trans ?_
    refine (S_iload_n rfl at_25_13).trans ?_
    refine (S_iload rfl at_25_14).trans ?_
    refine (S_iconst at_25_16).trans ?_
    refine (S_isub at_25_17).trans ?_
    refine (S_invv (b := 3) (by decide) kn_27 rfl (kd_9 L _) (Nat.le_of_ble_eq_true rfl) at_25_18).trans ?_
    rfl
  · refine (S_aload_n rfl at_25_78).trans ?_
    refine (S_getR (ka_9 L _) rfl (f_9_1 L _) at_25_79).trans ?_
    refine (S_iload rfl at_25_82).trans ?_
    refine (S_iload_n rfl at_25_84).trans ?_
    refine (H_iastore (by omega) (ka_10 L _) at_25_85).trans ?_
    refine ite_congr rfl (fun hi => ?_) (fun _ => rfl)
    refine (S_aload_n rfl at_25_86).trans ?_
    refine (S_getR (ka_9 L _) rfl (f_9_2 L _) at_25_87).trans ?_
    refine (S_iload rfl at_25_90).trans ?_
    refine (S_iload_n rfl at_25_92).trans ?_
    refine (H_iastore (by omega) (ka_11 L _) at_25_93).trans ?_
    refine ite_congr rfl (fun hi => ?_) (fun _ => rfl)
    refine (S_aload_n rfl at_25_94).trans ?_
    refine (S_getR (ka_9 L _) rfl (f_9_3 L _) at_25_95).trans ?_
    refine (S_iload rfl at_25_98).trans ?_
    refine (S_iload_n rfl at_25_100).trans ?_
    refine (H_iastore (by omega) (ka_12 L _) at_25_101).trans ?_
    refine ite_congr rfl (fun hi => ?_) (fun _ => rfl)
    refine (S_aload_n rfl at_25_102).trans ?_
    refine (S_dup rfl at_25_103).trans ?_
    refine (H_get0 (ka_9 L _) rfl at_25_104).trans ?_
    refine (S_iconst at_25_107).trans ?_
    refine (S_iadd at_25_108).trans ?_
    refine (H_put0 (ka_9 L _) rfl at_25_109).trans ?_
    exact S_ret rfl at_25_112
theorem T25_21_9 {C : Nat → List j_V → j_H → Option j_Z} {L : j_B} {m : j_M0} {x1 : Int} {x2 : Int} {x3 : Int} {x4 : Int} {s0 : Int} : j_fin C 25 21 [some (jR 9), some (jI x1), some (jI x2), some (jI x3), some (jI x4)] [jI s0] (hH L m) = if s0 = 0 then if 0 ≤ x4 ∧ x4 < 20 then if 0 ≤ x4 ∧ x4 < 20 then if 0 ≤ x4 ∧ x4 < 20 then some (none, hH L (j_up (j_up (j_up (j_up m 10 x4.toNat x1) 11 x4.toNat x2) 12 x4.toNat x3) 9 0 (w32 (((j_up (j_up (j_up m 10 x4.toNat x1) 11 x4.toNat x2) 12 x4.toNat x3) 9 0) + 1)))) else none else none else none else if 0 ≤ (w32 (x4 - 1)) ∧ (w32 (x4 - 1)) < 20 then if 0 ≤ x4 ∧ x4 < 20 then if 0 ≤ (w32 (x4 - 1)) ∧ (w32 (x4 - 1)) < 20 then if 0 ≤ x4 ∧ x4 < 20 then if 0 ≤ (w32 (x4 - 1)) ∧ (w32 (x4 - 1)) < 20 then if 0 ≤ x4 ∧ x4 < 20 then j_fin C 25 6 [some (jR 9), some (jI x1), some (jI x2), some (jI x3), some (jI (w32 (x4 + (-1))))] [] (hH L (j_up (j_up (j_up m 10 x4.toNat (m 10 (w32 (x4 - 1)).toNat)) 11 x4.toNat ((j_up m 10 x4.toNat (m 10 (w32 (x4 - 1)).toNat)) 11 (w32 (x4 - 1)).toNat)) 12 x4.toNat ((j_up (j_up m 10 x4.toNat (m 10 (w32 (x4 - 1)).toNat)) 11 x4.toNat ((j_up m 10 x4.toNat (m 10 (w32 (x4 - 1)).toNat)) 11 (w32 (x4 - 1)).toNat)) 12 (w32 (x4 - 1)).toNat))) else none else none else none else none else none else none := by
  refine (S_if_eq at_25_21).trans ?_
  refine ite_congr rfl (fun _ => ?_) (fun _ => ?_)
  · refine (S_aload_n rfl at_25_78).trans ?_
    refine (S_getR (ka_9 L _) rfl (f_9_1 L _) at_25_79).trans ?_
    refine (S_iload rfl at_25_82).trans ?_
    refine (S_iload_n rfl at_25_84).trans ?_
    refine (H_iastore (by omega) (ka_10 L _) at_25_85).trans ?_
    refine ite_congr rfl (fun hi => ?_) (fun _ => rfl)
    refine (S_aload_n rfl at_25_86).trans ?_
    refine (S_getR (ka_9 L _) rfl (f_9_2 L _) at_25_87).trans ?_
    refine (S_iload rfl at_25_90).trans ?_
    refine (S_iload_n rfl at_25_92).trans ?_
    refine (H_iastore (by omega) (ka_11 L _) at_25_93).trans ?_
    refine ite_congr rfl (fun hi => ?_) (fun _ => rfl)
    refine (S_aload_n rfl at_25_94).trans ?_
    refine (S_getR (ka_9 L _) rfl (f_9_3 L _) at_25_95).trans ?_
    refine (S_iload rfl at_25_98).trans ?_
    refine (S_iload_n rfl at_25_100).trans ?_
    refine (H_iastore (by omega) (ka_12 L _) at_25_101).trans ?_
    refine ite_congr rfl (fun hi => ?_) (fun _ => rfl)
    refine (S_aload_n rfl at_25_102).trans ?_
    refine (S_dup rfl at_25_103).trans ?_
    refine (H_get0 (ka_9 L _) rfl at_25_104).trans ?_
    refine (S_iconst at_25_107).trans ?_
    refine (S_iadd at_25_108).trans ?_
    refine (H_put0 (ka_9 L _) rfl at_25_109).trans ?_
    exact S_ret rfl at_25_112
  · refine (S_aload_n rfl at_25_24).trans ?_
    refine (S_getR (ka_9 L _) rfl (f_9_1 L _) at_25_25).trans ?_
    refine (S_iload rfl at_25_28).trans ?_
    refine (S_aload_n rfl at_25_30).trans ?_
    refine (S_getR (ka_9 L _) rfl (f_9_1 L _) at_25_31).trans ?_
    refine (S_iload rfl at_25_34).trans ?_
    refine (S_iconst at_25_36).trans ?_
    refine (S_isub at_25_37).trans ?_
    refine (H_iaload (ka_10 L _) at_25_38).trans ?_
    refine ite_congr rfl (fun hi => ?_) (fun _ => rfl)
    refine (H_iastore (by omega) (ka_10 L _) at_25_39).trans ?_
    refine ite_congr rfl (fun hi => ?_) (fun _ => rfl)
    refine (S_aload_n rfl at_25_40).trans ?_
    refine (S_getR (ka_9 L _) rfl (f_9_2 L _) at_25_41).trans ?_
    refine (S_iload rfl at_25_44).trans ?_
    refine (S_aload_n rfl at_25_46).trans ?_
    refine (S_getR (ka_9 L _) rfl (f_9_2 L _) at_25_47).trans ?_
    refine (S_iload rfl at_25_50).trans ?_
    refine (S_iconst at_25_52).trans ?_
    refine (S_isub at_25_53).trans ?_
    refine (H_iaload (ka_11 L _) at_25_54).trans ?_
    refine ite_congr rfl (fun hi => ?_) (fun _ => rfl)
    refine (H_iastore (by omega) (ka_11 L _) at_25_55).trans ?_
    refine ite_congr rfl (fun hi => ?_) (fun _ => rfl)
    refine (S_aload_n rfl at_25_56).trans ?_
    refine (S_getR (ka_9 L _) rfl (f_9_3 L _) at_25_57).trans ?_
    refine (S_iload rfl at_25_60).trans ?_
    refine (S_aload_n rfl at_25_62).trans ?_
    refine (S_getR (ka_9 L _) rfl (f_9_3 L _) at_25_63).trans ?_
    refine (S_iload rfl at_25_66).trans ?_
    refine (S_iconst at_25_68).trans ?_
    refine (S_isub at_25_69).trans ?_
    refine (H_iaload (ka_12 L _) at_25_70).trans ?_
    refine ite_congr rfl (fun hi => ?_) (fun _ => rfl)
    refine (H_iastore (by omega) (ka_12 L _) at_25_71).trans ?_
    refine ite_congr rfl (fun hi => ?_) (fun _ => rfl)
    refine (S_iinc (l1 := [some (jR 9), some (jI x1), some (jI x2), some (jI x3), some (jI (w32 (x4 + (-1))))]) rfl rfl at_25_72).trans ?_
    refine (S_goto at_25_75).trans ?_
    rfl
theorem T27_0_9 {C : Nat → List j_V → j_H → Option j_Z} {L : j_B} {m : j_M0} {x1 : Int} {x2 : Int} {x3 : Int} : j_fin C 27 0 [some (jR 9), some (jI x1), some (jI x2), some (jI x3)] [] (hH L m) = if 0 ≤ x3 ∧ x3 < 20 then if x2 < (m 11 x3.toNat) then some (some (jI 1), hH L m) else if 0 ≤ x3 ∧ x3 < 20 then if x2 = (m 11 x3.toNat) then if 0 ≤ x3 ∧ x3 < 20 then if x1 < (m 10 x3.toNat) then some (some (jI 1), hH L m) else some (some (jI 0), hH L m) else none else some (some (jI 0), hH L m) else none else none := by
  refine (S_iload_n rfl at_27_0).trans ?_
  refine (S_aload_n rfl at_27_1).trans ?_
  refine (S_getR (ka_9 L _) rfl (f_9_2 L _) at_27_2).trans ?_
  refine (S_iload_n rfl at_27_5).trans ?_
  refine (H_iaload (ka_11 L _) at_27_6).trans ?_
  refine ite_congr rfl (fun hi => ?_) (fun _ => rfl)
  refine (S_icmp_lt at_27_7).trans ?_
  refine ite_congr rfl (fun _ => ?_) (fun _ => ?_)
  · refine (S_iconst at_27_30).trans ?_
    refine (S_goto at_27_31).trans ?_
    exact (S_iretz rfl at_27_35).trans (if_pos (by decide))
  · refine (S_iload_n rfl at_27_10).trans ?_
    refine (S_aload_n rfl at_27_11).trans ?_
    refine (S_getR (ka_9 L _) rfl (f_9_2 L _) at_27_12).trans ?_
    refine (S_iload_n rfl at_27_15).trans ?_
    refine (H_iaload (ka_11 L _) at_27_16).trans ?_
    refine ite_congr rfl (fun hi => ?_) (fun _ => rfl)
    refine (S_icmp_ne at_27_17).trans ?_
    refine ite_congr rfl (fun _ => ?_) (fun _ => ?_)
    · refine (S_iload_n rfl at_27_20).trans ?_
      refine (S_aload_n rfl at_27_21).trans ?_
      refine (S_getR (ka_9 L _) rfl (f_9_1 L _) at_27_22).trans ?_
      refine (S_iload_n rfl at_27_25).trans ?_
      refine (H_iaload (ka_10 L _) at_27_26).trans ?_
      refine ite_congr rfl (fun hi => ?_) (fun _ => rfl)
      refine (S_icmp_ge at_27_27).trans ?_
      refine ite_congr rfl (fun _ => ?_) (fun _ => ?_)
      · refine (S_iconst at_27_30).trans ?_
        refine (S_goto at_27_31).trans ?_
        exact (S_iretz rfl at_27_35).trans (if_pos (by decide))
      · refine (S_iconst at_27_34).trans ?_
        exact (S_iretz rfl at_27_35).trans (if_pos (by decide))
    · refine (S_iconst at_27_34).trans ?_
      exact (S_iretz rfl at_27_35).trans (if_pos (by decide))
theorem T29_0_40_4 {C : Nat → List j_V → j_H → Option j_Z} {L : j_B} {m : j_M0} {x2 : Int} : j_fin C 29 0 [some (jR 40), some (jR 4), some (jI x2), none, none] [] (hH L m) = (C 38 [jR 41, jR 4] (hH L m)).bind fun z => j_fin C 29 8 [some (jR 40), some (jR 4), some (jI x2), none, none] (z.1.toList ++ []) z.2 := by
  refine (S_aload_n rfl at_29_0).trans ?_
  refine (S_getR (ka_40 L _) rfl (f_40_0 L _) at_29_1).trans ?_
  refine (S_aload_n rfl at_29_4).trans ?_
  refine (S_invv (b := 1) (by decide) kn_38 rfl (kd_41 L _) (Nat.le_of_ble_eq_true rfl) at_29_5).trans ?_
  rfl
theorem T29_8_40_4 {C : Nat → List j_V → j_H → Option j_Z} {L : j_B} {m : j_M0} {x2 : Int} : j_fin C 29 8 [some (jR 40), some (jR 4), some (jI x2), none, none] [] (hH L m) = (C 1 [jR 50] (hH L m)).bind fun z => j_fin C 29 15 [some (jR 40), some (jR 4), some (jI x2), none, none] (z.1.toList ++ []) z.2 := by
  refine (S_aload_n rfl at_29_8).trans ?_
  refine (S_getR (ka_40 L _) rfl (f_40_1 L _) at_29_9).trans ?_
  refine (S_invv (b := 0) (by decide) kn_1 rfl (kd_50 L _) (Nat.le_of_ble_eq_true rfl) at_29_12).trans ?_
  rfl
theorem T29_15_40_4 {C : Nat → List j_V → j_H → Option j_Z} {L : j_B} {m : j_M0} {x2 : Int} : j_fin C 29 15 [some (jR 40), some (jR 4), some (jI x2), none, none] [] (hH L m) = (C 45 [jR 41] (hH L m)).bind fun z => j_fin C 29 23 [some (jR 40), some (jR 4), some (jI x2), none, none] (z.1.toList ++ [jR 40]) z.2 := by
  refine (S_aload_n rfl at_29_15).trans ?_
  refine (S_aload_n rfl at_29_16).trans ?_
  refine (S_getR (ka_40 L _) rfl (f_40_0 L _) at_29_17).trans ?_
  refine (S_invv (b := 0) (by decide) kn_45 rfl (kd_41 L _) (Nat.le_of_ble_eq_true rfl) at_29_20).trans ?_
  rfl
theorem T29_23_40_4 {C : Nat → List j_V → j_H → Option j_Z} {L : j_B} {m : j_M0} {x2 : Int} {s1 : Int} : j_fin C 29 23 [some (jR 40), some (jR 4), some (jI x2), none, none] [jI s1, jR 40] (hH L m) = j_fin C 29 28 [some (jR 40), some (jR 4), some (jI x2), some (jI 0), none] [] (hH L (j_up m 40 2 s1)) := by
  refine (H_put0 (ka_40 L _) rfl at_29_23).trans ?_
  refine (S_iconst at_29_26).trans ?_
  refine (S_istore_n (l1 := [some (jR 40), some (jR 4), some (jI x2), some (jI 0), none]) rfl at_29_27).trans ?_
  rfl
theorem T29_28_40_4 {C : Nat → List j_V → j_H → Option j_Z} {L : j_B} {m : j_M0} {x2 : Int} {x3 : Int} {o4 : Option j_V} : j_fin C 29 28 [some (jR 40), some (jR 4), some (jI x2), some (jI x3), o4] [] (hH L m) = if x3 < x2 then if (m 40 2) = 3 then (C 56 [jR 41] (hH L m)).bind fun z => j_fin C 29 48 [some (jR 40), some (jR 4), some (jI x2), some (jI x3), o4] (z.1.toList ++ []) z.2 else if (m 40 2) = 3 then (C 56 [jR 41] (hH L m)).bind fun z => j_fin C 29 138 [some (jR 40), some (jR 4), some (jI x2), some (jI x3), o4] (z.1.toList ++ [jR 40]) z.2 else some (some (jI (m 40 2)), hH L m) else if (m 40 2) = 3 then (C 56 [jR 41] (hH L m)).bind fun z => j_fin C 29 138 [some (jR 40), some (jR 4), some (jI x2), some (jI x3), o4] (z.1.toList ++ [jR 40]) z.2 else some (some (jI (m 40 2)), hH L m) := by
  refine (S_iload_n rfl at_29_28).trans ?_
  refine (S_iload_n rfl at_29_29).trans ?_
  refine (S_icmp_ge at_29_30).trans ?_
  refine ite_congr rfl (fun _ => ?_) (fun _ => ?_)
  · refine (S_aload_n rfl at_29_33).trans ?_
    refine (H_get0 (ka_40 L _) rfl at_29_34).trans ?_
    refine (S_iconst at_29_37).trans ?_
    refine (S_icmp_ne at_29_38).trans ?_
    refine ite_congr rfl (fun _ => ?_) (fun _ => ?_)
    · refine (S_aload_n rfl at_29_41).trans ?_
      refine (S_getR (ka_40 L _) rfl (f_40_0 L _) at_29_42).trans ?_
      refine (S_invv (b := 0) (by decide) kn_56 rfl (kd_41 L _) (Nat.le_of_ble_eq_true rfl) at_29_45).trans ?_
      rfl
    · refine (S_aload_n rfl at_29_122).trans ?_
      refine (H_get0 (ka_40 L _) rfl at_29_123).trans ?_
      refine (S_iconst at_29_126).trans ?_
      refine (S_icmp_ne at_29_127).trans ?_
      refine ite_congr rfl (fun _ => ?_) (fun _ => ?_)
      · refine (S_aload_n rfl at_29_130).trans ?_
        refine (S_aload_n rfl at_29_131).trans ?_
        refine (S_getR (ka_40 L _) rfl (f_40_0 L _) at_29_132).trans ?_
        refine (S_invv (b := 0) (by decide) kn_56 rfl (kd_41 L _) (Nat.le_of_ble_eq_true rfl) at_29_135).trans ?_
        rfl
      · refine (S_aload_n rfl at_29_149).trans ?_
        refine (H_get0 (ka_40 L _) rfl at_29_150).trans ?_
        exact S_ireti rfl at_29_153
  · refine (S_aload_n rfl at_29_122).trans ?_
    refine (H_get0 (ka_40 L _) rfl at_29_123).trans ?_
    refine (S_iconst at_29_126).trans ?_
    refine (S_icmp_ne at_29_127).trans ?_
    refine ite_congr rfl (fun _ => ?_) (fun _ => ?_)
    · refine (S_aload_n rfl at_29_130).trans ?_
      refine (S_aload_n rfl at_29_131).trans ?_
      refine (S_getR (ka_40 L _) rfl (f_40_0 L _) at_29_132).trans ?_
      refine (S_invv (b := 0) (by decide) kn_56 rfl (kd_41 L _) (Nat.le_of_ble_eq_true rfl) at_29_135).trans ?_
      rfl
    · refine (S_aload_n rfl at_29_149).trans ?_
      refine (H_get0 (ka_40 L _) rfl at_29_150).trans ?_
      exact S_ireti rfl at_29_153
theorem T29_48_40_4 {C : Nat → List j_V → j_H → Option j_Z} {L : j_B} {m : j_M0} {x2 : Int} {x3 : Int} {o4 : Option j_V} {s0 : Int} : j_fin C 29 48 [some (jR 40), some (jR 4), some (jI x2), some (jI x3), o4] [jI s0] (hH L m) = if s0 < 0 then if (m 40 2) = 3 then (C 56 [jR 41] (hH L m)).bind fun z => j_fin C 29 138 [some (jR 40), some (jR 4), some (jI x2), some (jI x3), some (jI s0)] (z.1.toList ++ [jR 40]) z.2 else some (some (jI (m 40 2)), hH L m) else (C 4 [jR 50, jR 41, jI s0, jR 4] (hH L m)).bind fun z => j_fin C 29 72 [some (jR 40), some (jR 4), some (jI x2), some (jI x3), some (jI s0)] (z.1.toList ++ []) z.2 := by
  refine (S_istore (l1 := [some (jR 40), some (jR 4), some (jI x2), some (jI x3), some (jI s0)]) rfl at_29_48).trans ?_
  refine (S_iload rfl at_29_50).trans ?_
  refine (S_if_ge at_29_52).trans ?_
  refine ite_congr rfl (fun _ => ?_) (fun _ => ?_)
  · refine (S_goto at_29_55).trans ?_
    refine (S_aload_n rfl at_29_122).trans ?_
    refine (H_get0 (ka_40 L _) rfl at_29_123).trans ?_
    refine (S_iconst at_29_126).trans ?_
    refine (S_icmp_ne at_29_127).trans ?_
    refine ite_congr rfl (fun _ => ?_) (fun _ => ?_)
    · refine (S_aload_n rfl at_29_130).trans ?_
      refine (S_aload_n rfl at_29_131).trans ?_
      refine (S_getR (ka_40 L _) rfl (f_40_0 L _) at_29_132).trans ?_
      refine (S_invv (b := 0) (by decide) kn_56 rfl (kd_41 L _) (Nat.le_of_ble_eq_true rfl) at_29_135).trans ?_
      rfl
    · refine (S_aload_n rfl at_29_149).trans ?_
      refine (H_get0 (ka_40 L _) rfl at_29_150).trans ?_
      exact S_ireti rfl at_29_153
  · refine (S_aload_n rfl at_29_58).trans ?_
    refine (S_getR (ka_40 L _) rfl (f_40_1 L _) at_29_59).trans ?_
    refine (S_aload_n rfl at_29_62).trans ?_
    refine (S_getR (ka_40 L _) rfl (f_40_0 L _) at_29_63).trans ?_
    refine (S_iload rfl at_29_66).trans ?_
    refine (S_aload_n rfl at_29_68).trans ?_
    refine (S_invv (b := 3) (by decide) kn_4 rfl (kd_50 L _) (Nat.le_of_ble_eq_true rfl) at_29_69).trans ?_
    rfl
theorem T29_72_40_4 {C : Nat → List j_V → j_H → Option j_Z} {L : j_B} {m : j_M0} {x2 : Int} {x3 : Int} {x4 : Int} {s0 : Int} : j_fin C 29 72 [some (jR 40), some (jR 4), some (jI x2), some (jI x3), some (jI x4)] [jI s0] (hH L m) = if s0 = 0 then j_fin C 29 28 [some (jR 40), some (jR 4), some (jI x2), some (jI (w32 (x3 + 1))), some (jI x4)] [] (hH L (j_up m 40 2 (-6))) else (C 42 [jR 41, jI (w32 ((w32 (20 + (m 50 0))) - 1)), jI x4] (hH L m)).bind fun z => j_fin C 29 96 [some (jR 40), some (jR 4), some (jI x2), some (jI x3), some (jI x4)] (z.1.toList ++ []) z.2 := by
  refine (S_if_eq at_29_72).trans ?_
  refine ite_congr rfl (fun _ => ?_) (fun _ => ?_)
  · refine (S_aload_n rfl at_29_110).trans ?_
    refine (S_bipush at_29_111).trans ?_
    refine (H_put0 (ka_40 L _) rfl at_29_113).trans ?_
    refine (S_iinc (l1 := [some (jR 40), some (jR 4), some (jI x2), some (jI (w32 (x3 + 1))), some (jI x4)]) rfl rfl at_29_116).trans ?_
    refine (S_goto at_29_119).trans ?_
    rfl
  · refine (S_aload_n rfl at_29_75).trans ?_
    refine (S_getR (ka_40 L _) rfl (f_40_0 L _) at_29_76).trans ?_
    refine (S_bipush at_29_79).trans ?_
    refine (S_aload_n rfl at_29_81).trans ?_
    refine (S_getR (ka_40 L _) rfl (f_40_1 L _) at_29_82).trans ?_
    refine (H_get0 (ka_50 L _) rfl at_29_85).trans ?_
    refine (S_iadd at_29_88).trans ?_
    refine (S_iconst at_29_89).trans ?_
    refine (S_isub at_29_90).trans ?_
    refine (S_iload rfl at_29_91).trans ?_
    refine (S_invv (b := 2) (by decide) kn_42 rfl (kd_41 L _) (Nat.le_of_ble_eq_true rfl) at_29_93).trans ?_
    rfl
theorem T29_96_40_4 {C : Nat → List j_V → j_H → Option j_Z} {L : j_B} {m : j_M0} {x2 : Int} {x3 : Int} {x4 : Int} : j_fin C 29 96 [some (jR 40), some (jR 4), some (jI x2), some (jI x3), some (jI x4)] [] (hH L m) = (C 45 [jR 41] (hH L m)).bind fun z => j_fin C 29 104 [some (jR 40), some (jR 4), some (jI x2), some (jI x3), some (jI x4)] (z.1.toList ++ [jR 40]) z.2 := by
  refine (S_aload_n rfl at_29_96).trans ?_
  refine (S_aload_n rfl at_29_97).trans ?_
  refine (S_getR (ka_40 L _) rfl (f_40_0 L _) at_29_98).trans ?_
  refine (S_invv (b := 0) (by decide) kn_45 rfl (kd_41 L _) (Nat.le_of_ble_eq_true rfl) at_29_101).trans ?_
  rfl
theorem T29_104_40_4 {C : Nat → List j_V → j_H → Option j_Z} {L : j_B} {m : j_M0} {x2 : Int} {x3 : Int} {x4 : Int} {s1 : Int} : j_fin C 29 104 [some (jR 40), some (jR 4), some (jI x2), some (jI x3), some (jI x4)] [jI s1, jR 40] (hH L m) = j_fin C 29 28 [some (jR 40), some (jR 4), some (jI x2), some (jI (w32 (x3 + 1))), some (jI x4)] [] (hH L (j_up m 40 2 s1)) := by
  refine (H_put0 (ka_40 L _) rfl at_29_104).trans ?_
  refine (S_goto at_29_107).trans ?_
  refine (S_iinc (l1 := [some (jR 40), some (jR 4), some (jI x2), some (jI (w32 (x3 + 1))), some (jI x4)]) rfl rfl at_29_116).trans ?_
  refine (S_goto at_29_119).trans ?_
  rfl
theorem T29_138_40_4 {C : Nat → List j_V → j_H → Option j_Z} {L : j_B} {m : j_M0} {x2 : Int} {x3 : Int} {o4 : Option j_V} {s1 : Int} : j_fin C 29 138 [some (jR 40), some (jR 4), some (jI x2), some (jI x3), o4] [jI s1, jR 40] (hH L m) = if s1 < 0 then some (some (jI ((j_up m 40 2 1) 40 2)), hH L (j_up m 40 2 1)) else some (some (jI ((j_up m 40 2 2) 40 2)), hH L (j_up m 40 2 2)) := by
  refine (S_if_ge at_29_138).trans ?_
  refine ite_congr rfl (fun _ => ?_) (fun _ => ?_)
  · refine (S_iconst at_29_141).trans ?_
    refine (S_goto at_29_142).trans ?_
    refine (H_put0 (ka_40 L _) rfl at_29_146).trans ?_
    refine (S_aload_n rfl at_29_149).trans ?_
    refine (H_get0 (ka_40 L _) rfl at_29_150).trans ?_
    exact S_ireti rfl at_29_153
  · refine (S_iconst at_29_145).trans ?_
    refine (H_put0 (ka_40 L _) rfl at_29_146).trans ?_
    refine (S_aload_n rfl at_29_149).trans ?_
    refine (H_get0 (ka_40 L _) rfl at_29_150).trans ?_
    exact S_ireti rfl at_29_153
theorem T29_0_54_35 {C : Nat → List j_V → j_H → Option j_Z} {L : j_B} {m : j_M0} {x2 : Int} : j_fin C 29 0 [some (jR 54), some (jR 35), some (jI x2), none, none] [] (hH L m) = (C 38 [jR 55, jR 35] (hH L m)).bind fun z => j_fin C 29 8 [some (jR 54), some (jR 35), some (jI x2), none, none] (z.1.toList ++ []) z.2 := by
  refine (S_aload_n rfl at_29_0).trans ?_
  refine (S_getR (ka_54 L _) rfl (f_54_0 L _) at_29_1).trans ?_
  refine (S_aload_n rfl at_29_4).trans ?_
  refine (S_invv (b := 1) (by decide) kn_38 rfl (kd_55 L _) (Nat.le_of_ble_eq_true rfl) at_29_5).trans ?_
  rfl
theorem T29_8_54_35 {C : Nat → List j_V → j_H → Option j_Z} {L : j_B} {m : j_M0} {x2 : Int} : j_fin C 29 8 [some (jR 54), some (jR 35), some (jI x2), none, none] [] (hH L m) = (C 1 [jR 64] (hH L m)).bind fun z => j_fin C 29 15 [some (jR 54), some (jR 35), some (jI x2), none, none] (z.1.toList ++ []) z.2 := by
  refine (S_aload_n rfl at_29_8).trans ?_
  refine (S_getR (ka_54 L _) rfl (f_54_1 L _) at_29_9).trans ?_
  refine (S_invv (b := 0) (by decide) kn_1 rfl (kd_64 L _) (Nat.le_of_ble_eq_true rfl) at_29_12).trans ?_
  rfl
theorem T29_15_54_35 {C : Nat → List j_V → j_H → Option j_Z} {L : j_B} {m : j_M0} {x2 : Int} : j_fin C 29 15 [some (jR 54), some (jR 35), some (jI x2), none, none] [] (hH L m) = (C 45 [jR 55] (hH L m)).bind fun z => j_fin C 29 23 [some (jR 54), some (jR 35), some (jI x2), none, none] (z.1.toList ++ [jR 54]) z.2 := by
  refine (S_aload_n rfl at_29_15).trans ?_
  refine (S_aload_n rfl at_29_16).trans ?_
  refine (S_getR (ka_54 L _) rfl (f_54_0 L _) at_29_17).trans ?_
  refine (S_invv (b := 0) (by decide) kn_45 rfl (kd_55 L _) (Nat.le_of_ble_eq_true rfl) at_29_20).trans ?_
  rfl
theorem T29_23_54_35 {C : Nat → List j_V → j_H → Option j_Z} {L : j_B} {m : j_M0} {x2 : Int} {s1 : Int} : j_fin C 29 23 [some (jR 54), some (jR 35), some (jI x2), none, none] [jI s1, jR 54] (hH L m) = j_fin C 29 28 [some (jR 54), some (jR 35), some (jI x2), some (jI 0), none] [] (hH L (j_up m 54 2 s1)) := by
  refine (H_put0 (ka_54 L _) rfl at_29_23).trans ?_
  refine (S_iconst at_29_26).trans ?_
  refine (S_istore_n (l1 := [some (jR 54), some (jR 35), some (jI x2), some (jI 0), none]) rfl at_29_27).trans ?_
  rfl
theorem T29_28_54_35 {C : Nat → List j_V → j_H → Option j_Z} {L : j_B} {m : j_M0} {x2 : Int} {x3 : Int} {o4 : Option j_V} : j_fin C 29 28 [some (jR 54), some (jR 35), some (jI x2), some (jI x3), o4] [] (hH L m) = if x3 < x2 then if (m 54 2) = 3 then (C 56 [jR 55] (hH L m)).bind fun z => j_fin C 29 48 [some (jR 54), some (jR 35), some (jI x2), some (jI x3), o4] (z.1.toList ++ []) z.2 else if (m 54 2) = 3 then (C 56 [jR 55] (hH L m)).bind fun z => j_fin C 29 138 [some (jR 54), some (jR 35), some (jI x2), some (jI x3), o4] (z.1.toList ++ [jR 54]) z.2 else some (some (jI (m 54 2)), hH L m) else if (m 54 2) = 3 then (C 56 [jR 55] (hH L m)).bind fun z => j_fin C 29 138 [some (jR 54), some (jR 35), some (jI x2), some (jI x3), o4] (z.1.toList ++ [jR 54]) z.2 else some (some (jI (m 54 2)), hH L m) := by
  refine (S_iload_n rfl at_29_28).trans ?_
  refine (S_iload_n rfl at_29_29).trans ?_
  refine (S_icmp_ge at_29_30).trans ?_
  refine ite_congr rfl (fun _ => ?_) (fun _ => ?_)
  · refine (S_aload_n rfl at_29_33).trans ?_
    refine (H_get0 (ka_54 L _) rfl at_29_34).trans ?_
    refine (S_iconst at_29_37).trans ?_
    refine (S_icmp_ne at_29_38).trans ?_
    refine ite_congr rfl (fun _ => ?_) (fun _ => ?_)
    · refine (S_aload_n rfl at_29_41).trans ?_
      refine (S_getR (ka_54 L _) rfl (f_54_0 L _) at_29_42).trans ?_
      refine (S_invv (b := 0) (by decide) kn_56 rfl (kd_55 L _) (Nat.le_of_ble_eq_true rfl) at_29_45).trans ?_
      rfl
    · refine (S_aload_n rfl at_29_122).trans ?_
      refine (H_get0 (ka_54 L _) rfl at_29_123).trans ?_
      refine (S_iconst at_29_126).trans ?_
      refine (S_icmp_ne at_29_127).trans ?_
      refine ite_congr rfl (fun _ => ?_) (fun _ => ?_)
      · refine (S_aload_n rfl at_29_130).trans ?_
        refine (S_aload_n rfl at_29_131).trans ?_
        refine (S_getR (ka_54 L _) rfl (f_54_0 L _) at_29_132).trans ?_
        refine (S_invv (b := 0) (by decide) kn_56 rfl (kd_55 L _) (Nat.le_of_ble_eq_true rfl) at_29_135).trans ?_
        rfl
      · refine (S_aload_n rfl at_29_149).trans ?_
        refine (H_get0 (ka_54 L _) rfl at_29_150).trans ?_
        exact S_ireti rfl at_29_153
  · refine (S_aload_n rfl at_29_122).trans ?_
    refine (H_get0 (ka_54 L _) rfl at_29_123).trans ?_
    refine (S_iconst at_29_126).trans ?_
    refine (S_icmp_ne at_29_127).trans ?_
    refine ite_congr rfl (fun _ => ?_) (fun _ => ?_)
    · refine (S_aload_n rfl at_29_130).trans ?_
      refine (S_aload_n rfl at_29_131).trans ?_
      refine (S_getR (ka_54 L _) rfl (f_54_0 L _) at_29_132).trans ?_
      refine (S_invv (b := 0) (by decide) kn_56 rfl (kd_55 L _) (Nat.le_of_ble_eq_true rfl) at_29_135).trans ?_
      rfl
    · refine (S_aload_n rfl at_29_149).trans ?_
      refine (H_get0 (ka_54 L _) rfl at_29_150).trans ?_
      exact S_ireti rfl at_29_153
theorem T29_48_54_35 {C : Nat → List j_V → j_H → Option j_Z} {L : j_B} {m : j_M0} {x2 : Int} {x3 : Int} {o4 : Option j_V} {s0 : Int} : j_fin C 29 48 [some (jR 54), some (jR 35), some (jI x2), some (jI x3), o4] [jI s0] (hH L m) = if s0 < 0 then if (m 54 2) = 3 then (C 56 [jR 55] (hH L m)).bind fun z => j_fin C 29 138 [some (jR 54), some (jR 35), some (jI x2), some (jI x3), some (jI s0)] (z.1.toList ++ [jR 54]) z.2 else some (some (jI (m 54 2)), hH L m) else (C 4 [jR 64, jR 55, jI s0, jR 35] (hH L m)).bind fun z => j_fin C 29 72 [some (jR 54), some (jR 35), some (jI x2), some (jI x3), some (jI s0)] (z.1.toList ++ []) z.2 := by
  refine (S_istore (l1 := [some (jR 54), some (jR 35), some (jI x2), some (jI x3), some (jI s0)]) rfl at_29_48).trans ?_
  refine (S_iload rfl at_29_50).trans ?_
  refine (S_if_ge at_29_52).trans ?_
  refine ite_congr rfl (fun _ => ?_) (fun _ => ?_)
  · refine (S_goto at_29_55).trans ?_
    refine (S_aload_n rfl at_29_122).trans ?_
    refine (H_get0 (ka_54 L _) rfl at_29_123).trans ?_
    refine (S_iconst at_29_126).trans ?_
    refine (S_icmp_ne at_29_127).trans ?_
    refine ite_congr rfl (fun _ => ?_) (fun _ => ?_)
    · refine (S_aload_n rfl at_29_130).trans ?_
      refine (S_aload_n rfl at_29_131).trans ?_
      refine (S_getR (ka_54 L _) rfl (f_54_0 L _) at_29_132).trans ?_
      refine (S_invv (b := 0) (by decide) kn_56 rfl (kd_55 L _) (Nat.le_of_ble_eq_true rfl) at_29_135).trans ?_
      rfl
    · refine (S_aload_n rfl at_29_149).trans ?_
      refine (H_get0 (ka_54 L _) rfl at_29_150).trans ?_
      exact S_ireti rfl at_29_153
  · refine (S_aload_n rfl at_29_58).trans ?_
    refine (S_getR (ka_54 L _) rfl (f_54_1 L _) at_29_59).trans ?_
    refine (S_aload_n rfl at_29_62).trans ?_
    refine (S_getR (ka_54 L _) rfl (f_54_0 L _) at_29_63).trans ?_
    refine (S_iload rfl at_29_66).trans ?_
    refine (S_aload_n rfl at_29_68).trans ?_
    refine (S_invv (b := 3) (by decide) kn_4 rfl (kd_64 L _) (Nat.le_of_ble_eq_true rfl) at_29_69).trans ?_
    rfl
theorem T29_72_54_35 {C : Nat → List j_V → j_H → Option j_Z} {L : j_B} {m : j_M0} {x2 : Int} {x3 : Int} {x4 : Int} {s0 : Int} : j_fin C 29 72 [some (jR 54), some (jR 35), some (jI x2), some (jI x3), some (jI x4)] [jI s0] (hH L m) = if s0 = 0 then j_fin C 29 28 [some (jR 54), some (jR 35), some (jI x2), some (jI (w32 (x3 + 1))), some (jI x4)] [] (hH L (j_up m 54 2 (-6))) else (C 42 [jR 55, jI (w32 ((w32 (20 + (m 64 0))) - 1)), jI x4] (hH L m)).bind fun z => j_fin C 29 96 [some (jR 54), some (jR 35), some (jI x2), some (jI x3), some (jI x4)] (z.1.toList ++ []) z.2 := by
  refine (S_if_eq at_29_72).trans ?_
  refine ite_congr rfl (fun _ => ?_) (fun _ => ?_)
  · refine (S_aload_n rfl at_29_110).trans ?_
    refine (S_bipush at_29_111).trans ?_
    refine (H_put0 (ka_54 L _) rfl at_29_113).trans ?_
    refine (S_iinc (l1 := [some (jR 54), some (jR 35), some (jI x2), some (jI (w32 (x3 + 1))), some (jI x4)]) rfl rfl at_29_116).trans ?_
    refine (S_goto at_29_119).trans ?_
    rfl
  · refine (S_aload_n rfl at_29_75).trans ?_
    refine (S_getR (ka_54 L _) rfl (f_54_0 L _) at_29_76).trans ?_
    refine (S_bipush at_29_79).trans ?_
    refine (S_aload_n rfl at_29_81).trans ?_
    refine (S_getR (ka_54 L _) rfl (f_54_1 L _) at_29_82).trans ?_
    refine (H_get0 (ka_64 L _) rfl at_29_85).trans ?_
    refine (S_iadd at_29_88).trans ?_
    refine (S_iconst at_29_89).trans ?_
    refine (S_isub at_29_90).trans ?_
    refine (S_iload rfl at_29_91).trans ?_
    refine (S_invv (b := 2) (by decide) kn_42 rfl (kd_55 L _) (Nat.le_of_ble_eq_true rfl) at_29_93).trans ?_
    rfl
theorem T29_96_54_35 {C : Nat → List j_V → j_H → Option j_Z} {L : j_B} {m : j_M0} {x2 : Int} {x3 : Int} {x4 : Int} : j_fin C 29 96 [some (jR 54), some (jR 35), some (jI x2), some (jI x3), some (jI x4)] [] (hH L m) = (C 45 [jR 55] (hH L m)).bind fun z => j_fin C 29 104 [some (jR 54), some (jR 35), some (jI x2), some (jI x3), some (jI x4)] (z.1.toList ++ [jR 54]) z.2 := by
  refine (S_aload_n rfl at_29_96).trans ?_
  refine (S_aload_n rfl at_29_97).trans ?_
  refine (S_getR (ka_54 L _) rfl (f_54_0 L _) at_29_98).trans ?_
  refine (S_invv (b := 0) (by decide) kn_45 rfl (kd_55 L _) (Nat.le_of_ble_eq_true rfl) at_29_101).trans ?_
  rfl
theorem T29_104_54_35 {C : Nat → List j_V → j_H → Option j_Z} {L : j_B} {m : j_M0} {x2 : Int} {x3 : Int} {x4 : Int} {s1 : Int} : j_fin C 29 104 [some (jR 54), some (jR 35), some (jI x2), some (jI x3), some (jI x4)] [jI s1, jR 54] (hH L m) = j_fin C 29 28 [some (jR 54), some (jR 35), some (jI x2), some (jI (w32 (x3 + 1))), some (jI x4)] [] (hH L (j_up m 54 2 s1)) := by
  refine (H_put0 (ka_54 L _) rfl at_29_104).trans ?_
  refine (S_goto at_29_107).trans ?_
  refine (S_iinc (l1 := [some (jR 54), some (jR 35), some (jI x2), some (jI (w32 (x3 + 1))), some (jI x4)]) rfl rfl at_29_116).trans ?_
  refine (S_goto at_29_119).trans ?_
  rfl
theorem T29_138_54_35 {C : Nat → List j_V → j_H → Option j_Z} {L : j_B} {m : j_M0} {x2 : Int} {x3 : Int} {o4 : Option j_V} {s1 : Int} : j_fin C 29 138 [some (jR 54), some (jR 35), some (jI x2), some (jI x3), o4] [jI s1, jR 54] (hH L m) = if s1 < 0 then some (some (jI ((j_up m 54 2 1) 54 2)), hH L (j_up m 54 2 1)) else some (some (jI ((j_up m 54 2 2) 54 2)), hH L (j_up m 54 2 2)) := by
  refine (S_if_ge at_29_138).trans ?_
  refine ite_congr rfl (fun _ => ?_) (fun _ => ?_)
  · refine (S_iconst at_29_141).trans ?_
    refine (S_goto at_29_142).trans ?_
    refine (H_put0 (ka_54 L _) rfl at_29_146).trans ?_
    refine (S_aload_n rfl at_29_149).trans ?_
    refine (H_get0 (ka_54 L _) rfl at_29_150).trans ?_
    exact S_ireti rfl at_29_153
  · refine (S_iconst at_29_145).trans ?_
    refine (H_put0 (ka_54 L _) rfl at_29_146).trans ?_
    refine (S_aload_n rfl at_29_149).trans ?_
    refine (H_get0 (ka_54 L _) rfl at_29_150).trans ?_
    exact S_ireti rfl at_29_153
theorem T30_0 {C : Nat → List j_V → j_H → Option j_Z} {L : j_B} {m : j_M0} : j_fin C 30 0 [some (jR 54), some (jR 35), none] [] (hH L m) = (C 29 [jR 54, jR 35, jI 12] (hH L m)).bind fun z => j_fin C 30 7 [some (jR 54), some (jR 35), none] (z.1.toList ++ []) z.2 := by
  refine (S_aload_n rfl at_30_0).trans ?_
  refine (S_aload_n rfl at_30_1).trans ?_
  refine (S_bipush at_30_2).trans ?_
  refine (S_invv (b := 2) (by decide) kn_29 rfl (kd_54 L _) (Nat.le_of_ble_eq_true rfl) at_30_4).trans ?_
  rfl
theorem T30_7 {C : Nat → List j_V → j_H → Option j_Z} {L : j_B} {m : j_M0} {s0 : Int} : j_fin C 30 7 [some (jR 54), some (jR 35), none] [jI s0] (hH L m) = if s0 = 1 then (C 44 [jR 55, jL (m 55 3)] (hH L m)).bind fun z => j_fin C 30 27 [some (jR 54), some (jR 35), some (jI s0)] (z.1.toList ++ []) z.2 else if s0 = 0 then some (some (jI (-5)), hH L m) else some (some (jI (-6)), hH L m) := by
  refine (S_istore_n (l1 := [some (jR 54), some (jR 35), some (jI s0)]) rfl at_30_7).trans ?_
  refine (S_iload_n rfl at_30_8).trans ?_
  refine (S_iconst at_30_9).trans ?_
  refine (S_icmp_ne at_30_10).trans ?_
  refine ite_congr rfl (fun _ => ?_) (fun _ => ?_)
  · refine (S_aload_n rfl at_30_13).trans ?_
    refine (S_getR (ka_54 L _) rfl (f_54_0 L _) at_30_14).trans ?_
    refine (S_aload_n rfl at_30_17).trans ?_
    refine (S_getR (ka_54 L _) rfl (f_54_0 L _) at_30_18).trans ?_
    refine (H_get1 (ka_55 L _) rfl at_30_21).trans ?_
    refine (S_invv (b := 1) (by decide) kn_44 rfl (kd_55 L _) (Nat.le_of_ble_eq_true rfl) at_30_24).trans ?_
    rfl
  · refine (S_iload_n rfl at_30_29).trans ?_
    refine (S_if_ne at_30_30).trans ?_
    refine ite_congr rfl (fun _ => ?_) (fun _ => ?_)
    · refine (S_bipush at_30_33).trans ?_
      refine (S_goto at_30_35).trans ?_
      exact S_ireti rfl at_30_40
    · refine (S_bipush at_30_38).trans ?_
      exact S_ireti rfl at_30_40
theorem T30_27 {C : Nat → List j_V → j_H → Option j_Z} {L : j_B} {m : j_M0} {x2 : Int} {t0 : Int} : j_fin C 30 27 [some (jR 54), some (jR 35), some (jI x2)] [jL t0] (hH L m) = some (some (jI (w32 t0)), hH L m) := by
  refine (S_l2i at_30_27).trans ?_
  exact S_ireti rfl at_30_28
theorem T32_0_19_3 {C : Nat → List j_V → j_H → Option j_Z} {L : j_B} {m : j_M0} : j_fin C 32 0 [some (jR 19), some (jR 3)] [] (hH L m) = (C 8 [jR 20, jR 4] (hH L m)).bind fun z => j_fin C 32 11 [some (jR 19), some (jR 3)] (z.1.toList ++ []) z.2 := by
  refine (S_aload_n rfl at_32_0).trans ?_
  refine (S_getR (ka_19 L _) rfl (f_19_0 L _) at_32_1).trans ?_
  refine (S_aload_n rfl at_32_4).trans ?_
  refine (S_getR (ka_3 L _) rfl (f_3_0 L _) at_32_5).trans ?_
  refine (S_invv (b := 1) (by decide) kn_8 rfl (kd_20 L _) (Nat.le_of_ble_eq_true rfl) at_32_8).trans ?_
  rfl
theorem T32_11_19_3 {C : Nat → List j_V → j_H → Option j_Z} {L : j_B} {m : j_M0} : j_fin C 32 11 [some (jR 19), some (jR 3)] [] (hH L m) = (C 21 [jR 25, jR 9] (hH L m)).bind fun z => j_fin C 32 22 [some (jR 19), some (jR 3)] (z.1.toList ++ []) z.2 := by
  refine (S_aload_n rfl at_32_11).trans ?_
  refine (S_getR (ka_19 L _) rfl (f_19_1 L _) at_32_12).trans ?_
  refine (S_aload_n rfl at_32_15).trans ?_
  refine (S_getR (ka_3 L _) rfl (f_3_1 L _) at_32_16).trans ?_
  refine (S_invv (b := 1) (by decide) kn_21 rfl (kd_25 L _) (Nat.le_of_ble_eq_true rfl) at_32_19).trans ?_
  rfl
theorem T32_22_19_3 {C : Nat → List j_V → j_H → Option j_Z} {L : j_B} {m : j_M0} : j_fin C 32 22 [some (jR 19), some (jR 3)] [] (hH L m) = some (none, hH L (j_cpy (j_cpy (j_cpy (j_up (j_cpy (j_cpy (j_up (j_up (j_up (j_cpy m 13 0 29 0 8) 19 3 ((j_cpy m 13 0 29 0 8) 3 3)) 19 4 ((j_up (j_cpy m 13 0 29 0 8) 19 3 ((j_cpy m 13 0 29 0 8) 3 3)) 3 4)) 19 5 ((j_up (j_up (j_cpy m 13 0 29 0 8) 19 3 ((j_cpy m 13 0 29 0 8) 3 3)) 19 4 ((j_up (j_cpy m 13 0 29 0 8) 19 3 ((j_cpy m 13 0 29 0 8) 3 3)) 3 4)) 3 5)) 14 0 30 0 5) 15 0 31 0 5) 19 8 ((j_cpy (j_cpy (j_up (j_up (j_up (j_cpy m 13 0 29 0 8) 19 3 ((j_cpy m 13 0 29 0 8) 3 3)) 19 4 ((j_up (j_cpy m 13 0 29 0 8) 19 3 ((j_cpy m 13 0 29 0 8) 3 3)) 3 4)) 19 5 ((j_up (j_up (j_cpy m 13 0 29 0 8) 19 3 ((j_cpy m 13 0 29 0 8) 3 3)) 19 4 ((j_up (j_cpy m 13 0 29 0 8) 19 3 ((j_cpy m 13 0 29 0 8) 3 3)) 3 4)) 3 5)) 14 0 30 0 5) 15 0 31 0 5) 3 8)) 16 0 32 0 8) 17 0 33 0 8) 18 0 34 0 8)) := by
  refine (S_aload_n rfl at_32_22).trans ?_
  refine (S_getR (ka_3 L _) rfl (f_3_2 L _) at_32_23).trans ?_
  refine (S_iconst at_32_26).trans ?_
  refine (S_aload_n rfl at_32_27).trans ?_
  refine (S_getR (ka_19 L _) rfl (f_19_2 L _) at_32_28).trans ?_
  refine (S_iconst at_32_31).trans ?_
  refine (S_bipush at_32_32).trans ?_
  refine (H_cpy rfl (by decide) (kd_13 L _) (ka_29 L _) (by omega) (Nat.le_of_ble_eq_true rfl) at_32_34).trans ?_
  refine (if_pos (by decide)).trans ?_
  refine (S_aload_n rfl at_32_37).trans ?_
  refine (S_aload_n rfl at_32_38).trans ?_
  refine (H_get0 (ka_3 L _) rfl at_32_39).trans ?_
  refine (H_put0 (ka_19 L _) rfl at_32_42).trans ?_
  refine (S_aload_n rfl at_32_45).trans ?_
  refine (S_aload_n rfl at_32_46).trans ?_
  refine (H_get0 (ka_3 L _) rfl at_32_47).trans ?_
  refine (H_put0 (ka_19 L _) rfl at_32_50).trans ?_
  refine (S_aload_n rfl at_32_53).trans ?_
  refine (S_aload_n rfl at_32_54).trans ?_
  refine (H_get0 (ka_3 L _) rfl at_32_55).trans ?_
  refine (H_put0 (ka_19 L _) rfl at_32_58).trans ?_
  refine (S_aload_n rfl at_32_61).trans ?_
  refine (S_getR (ka_3 L _) rfl (f_3_6 L _) at_32_62).trans ?_
  refine (S_iconst at_32_65).trans ?_
  refine (S_aload_n rfl at_32_66).trans ?_
  refine (S_getR (ka_19 L _) rfl (f_19_6 L _) at_32_67).trans ?_
  refine (S_iconst at_32_70).trans ?_
  refine (S_iconst at_32_71).trans ?_
  refine (H_cpy rfl (by decide) (kd_14 L _) (ka_30 L _) (by omega) (Nat.le_of_ble_eq_true rfl) at_32_72).trans ?_
  refine (if_pos (by decide)).trans ?_
  refine (S_aload_n rfl at_32_75).trans ?_
  refine (S_getR (ka_3 L _) rfl (f_3_7 L _) at_32_76).trans ?_
  refine (S_iconst at_32_79).trans ?_
  refine (S_aload_n rfl at_32_80).trans ?_
  refine (S_getR (ka_19 L _) rfl (f_19_7 L _) at_32_81).trans ?_
  refine (S_iconst at_32_84).trans ?_
  refine (S_iconst at_32_85).trans ?_
  refine (H_cpy rfl (by decide) (kd_15 L _) (ka_31 L _) (by omega) (Nat.le_of_ble_eq_true rfl) at_32_86).trans ?_
  refine (if_pos (by decide)).trans ?_
  refine (S_aload_n rfl at_32_89).trans ?_
  refine (S_aload_n rfl at_32_90).trans ?_
  refine (H_get0 (ka_3 L _) rfl at_32_91).trans ?_
  refine (H_put0 (ka_19 L _) rfl at_32_94).trans ?_
  refine (S_aload_n rfl at_32_97).trans ?_
  refine (S_getR (ka_3 L _) rfl (f_3_9 L _) at_32_98).trans ?_
  refine (S_iconst at_32_101).trans ?_
  refine (S_aload_n rfl at_32_102).trans ?_
  refine (S_getR (ka_19 L _) rfl (f_19_9 L _) at_32_103).trans ?_
  refine (S_iconst at_32_106).trans ?_
  refine (S_bipush at_32_107).trans ?_
  refine (H_cpy rfl (by decide) (kd_16 L _) (ka_32 L _) (by omega) (Nat.le_of_ble_eq_true rfl) at_32_109).trans ?_
  refine (if_pos (by decide)).trans ?_
  refine (S_aload_n rfl at_32_112).trans ?_
  refine (S_getR (ka_3 L _) rfl (f_3_10 L _) at_32_113).trans ?_
  refine (S_iconst at_32_116).trans ?_
  refine (S_aload_n rfl at_32_117).trans ?_
  refine (S_getR (ka_19 L _) rfl (f_19_10 L _) at_32_118).trans ?_
  refine (S_iconst at_32_121).trans ?_
  refine (S_bipush at_32_122).trans ?_
  refine (H_cpy rfl (by decide) (kd_17 L _) (ka_33 L _) (by omega) (Nat.le_of_ble_eq_true rfl) at_32_124).trans ?_
  refine (if_pos (by decide)).trans ?_
  refine (S_aload_n rfl at_32_127).trans ?_
  refine (S_getR (ka_3 L _) rfl (f_3_11 L _) at_32_128).trans ?_
  refine (S_iconst at_32_131).trans ?_
  refine (S_aload_n rfl at_32_132).trans ?_
  refine (S_getR (ka_19 L _) rfl (f_19_11 L _) at_32_133).trans ?_
  refine (S_iconst at_32_136).trans ?_
  refine (S_bipush at_32_137).trans ?_
  refine (H_cpy rfl (by decide) (kd_18 L _) (ka_34 L _) (by omega) (Nat.le_of_ble_eq_true rfl) at_32_139).trans ?_
  refine (if_pos (by decide)).trans ?_
  exact S_ret rfl at_32_142
theorem T32_0_3_19 {C : Nat → List j_V → j_H → Option j_Z} {L : j_B} {m : j_M0} : j_fin C 32 0 [some (jR 3), some (jR 19)] [] (hH L m) = (C 8 [jR 4, jR 20] (hH L m)).bind fun z => j_fin C 32 11 [some (jR 3), some (jR 19)] (z.1.toList ++ []) z.2 := by
  refine (S_aload_n rfl at_32_0).trans ?_
  refine (S_getR (ka_3 L _) rfl (f_3_0 L _) at_32_1).trans ?_
  refine (S_aload_n rfl at_32_4).trans ?_
  refine (S_getR (ka_19 L _) rfl (f_19_0 L _) at_32_5).trans ?_
  refine (S_invv (b := 1) (by decide) kn_8 rfl (kd_4 L _) (Nat.le_of_ble_eq_true rfl) at_32_8).trans ?_
  rfl
theorem T32_11_3_19 {C : Nat → List j_V → j_H → Option j_Z} {L : j_B} {m : j_M0} : j_fin C 32 11 [some (jR 3), some (jR 19)] [] (hH L m) = (C 21 [jR 9, jR 25] (hH L m)).bind fun z => j_fin C 32 22 [some (jR 3), some (jR 19)] (z.1.toList ++ []) z.2 := by
  refine (S_aload_n rfl at_32_11).trans ?_
  refine (S_getR (ka_3 L _) rfl (f_3_1 L _) at_32_12).trans ?_
  refine (S_aload_n rfl at_32_15).trans ?_
  refine (S_getR (ka_19 L _) rfl (f_19_1 L _) at_32_16).trans ?_
  refine (S_invv (b := 1) (by decide) kn_21 rfl (kd_9 L _) (Nat.le_of_ble_eq_true rfl) at_32_19).trans ?_
  rfl
theorem T32_22_3_19 {C : Nat → List j_V → j_H → Option j_Z} {L : j_B} {m : j_M0} : j_fin C 32 22 [some (jR 3), some (jR 19)] [] (hH L m) = some (none, hH L (j_cpy (j_cpy (j_cpy (j_up (j_cpy (j_cpy (j_up (j_up (j_up (j_cpy m 29 0 13 0 8) 3 3 ((j_cpy m 29 0 13 0 8) 19 3)) 3 4 ((j_up (j_cpy m 29 0 13 0 8) 3 3 ((j_cpy m 29 0 13 0 8) 19 3)) 19 4)) 3 5 ((j_up (j_up (j_cpy m 29 0 13 0 8) 3 3 ((j_cpy m 29 0 13 0 8) 19 3)) 3 4 ((j_up (j_cpy m 29 0 13 0 8) 3 3 ((j_cpy m 29 0 13 0 8) 19 3)) 19 4)) 19 5)) 30 0 14 0 5) 31 0 15 0 5) 3 8 ((j_cpy (j_cpy (j_up (j_up (j_up (j_cpy m 29 0 13 0 8) 3 3 ((j_cpy m 29 0 13 0 8) 19 3)) 3 4 ((j_up (j_cpy m 29 0 13 0 8) 3 3 ((j_cpy m 29 0 13 0 8) 19 3)) 19 4)) 3 5 ((j_up (j_up (j_cpy m 29 0 13 0 8) 3 3 ((j_cpy m 29 0 13 0 8) 19 3)) 3 4 ((j_up (j_cpy m 29 0 13 0 8) 3 3 ((j_cpy m 29 0 13 0 8) 19 3)) 19 4)) 19 5)) 30 0 14 0 5) 31 0 15 0 5) 19 8)) 32 0 16 0 8) 33 0 17 0 8) 34 0 18 0 8)) := by
  refine (S_aload_n rfl at_32_22).trans ?_
  refine (S_getR (ka_19 L _) rfl (f_19_2 L _) at_32_23).trans ?_
  refine (S_iconst at_32_26).trans ?_
  refine (S_aload_n rfl at_32_27).trans ?_
  refine (S_getR (ka_3 L _) rfl (f_3_2 L _) at_32_28).trans ?_
  refine (S_iconst at_32_31).trans ?_
  refine (S_bipush at_32_32).trans ?_
  refine (H_cpy rfl (by decide) (kd_29 L _) (ka_13 L _) (by omega) (Nat.le_of_ble_eq_true rfl) at_32_34).trans ?_
  refine (if_pos (by decide)).trans ?_
  refine (S_aload_n rfl at_32_37).trans ?_
  refine (S_aload_n rfl at_32_38).trans ?_
  refine (H_get0 (ka_19 L _) rfl at_32_39).trans ?_
  refine (H_put0 (ka_3 L _) rfl at_32_42).trans ?_
  refine (S_aload_n rfl at_32_45).trans ?_
  refine (S_aload_n rfl at_32_46).trans ?_
  refine (H_get0 (ka_19 L _) rfl at_32_47).trans ?_
  refine (H_put0 (ka_3 L _) rfl at_32_50).trans ?_
  refine (S_aload_n rfl at_32_53).trans ?_
  refine (S_aload_n rfl at_32_54).trans ?_
  refine (H_get0 (ka_19 L _) rfl at_32_55).trans ?_
  refine (H_put0 (ka_3 L _) rfl at_32_58).trans ?_
  refine (S_aload_n rfl at_32_61).trans ?_
  refine (S_getR (ka_19 L _) rfl (f_19_6 L _) at_32_62).trans ?_
  refine (S_iconst at_32_65).trans ?_
  refine (S_aload_n rfl at_32_66).trans ?_
  refine (S_getR (ka_3 L _) rfl (f_3_6 L _) at_32_67).trans ?_
  refine (S_iconst at_32_70).trans ?_
  refine (S_iconst at_32_71).trans ?_
  refine (H_cpy rfl (by decide) (kd_30 L _) (ka_14 L _) (by omega) (Nat.le_of_ble_eq_true rfl) at_32_72).trans ?_
  refine (if_pos (by decide)).trans ?_
  refine (S_aload_n rfl at_32_75).trans ?_
  refine (S_getR (ka_19 L _) rfl (f_19_7 L _) at_32_76).trans ?_
  refine (S_iconst at_32_79).trans ?_
  refine (S_aload_n rfl at_32_80).trans ?_
  refine (S_getR (ka_3 L _) rfl (f_3_7 L _) at_32_81).trans ?_
  refine (S_iconst at_32_84).trans ?_
  refine (S_iconst at_32_85).trans ?_
  refine (H_cpy rfl (by decide) (kd_31 L _) (ka_15 L _) (by omega) (Nat.le_of_ble_eq_true rfl) at_32_86).trans ?_
  refine (if_pos (by decide)).trans ?_
  refine (S_aload_n rfl at_32_89).trans ?_
  refine (S_aload_n rfl at_32_90).trans ?_
  refine (H_get0 (ka_19 L _) rfl at_32_91).trans ?_
  refine (H_put0 (ka_3 L _) rfl at_32_94).trans ?_
  refine (S_aload_n rfl at_32_97).trans ?_
  refine (S_getR (ka_19 L _) rfl (f_19_9 L _) at_32_98).trans ?_
  refine (S_iconst at_32_101).trans ?_
  refine (S_aload_n rfl at_32_102).trans ?_
  refine (S_getR (ka_3 L _) rfl (f_3_9 L _) at_32_103).trans ?_
  refine (S_iconst at_32_106).trans ?_
  refine (S_bipush at_32_107).trans ?_
  refine (H_cpy rfl (by decide) (kd_32 L _) (ka_16 L _) (by omega) (Nat.le_of_ble_eq_true rfl) at_32_109).trans ?_
  refine (if_pos (by decide)).trans ?_
  refine (S_aload_n rfl at_32_112).trans ?_
  refine (S_getR (ka_19 L _) rfl (f_19_10 L _) at_32_113).trans ?_
  refine (S_iconst at_32_116).trans ?_
  refine (S_aload_n rfl at_32_117).trans ?_
  refine (S_getR (ka_3 L _) rfl (f_3_10 L _) at_32_118).trans ?_
  refine (S_iconst at_32_121).trans ?_
  refine (S_bipush at_32_122).trans ?_
  refine (H_cpy rfl (by decide) (kd_33 L _) (ka_17 L _) (by omega) (Nat.le_of_ble_eq_true rfl) at_32_124).trans ?_
  refine (if_pos (by decide)).trans ?_
  refine (S_aload_n rfl at_32_127).trans ?_
  refine (S_getR (ka_19 L _) rfl (f_19_11 L _) at_32_128).trans ?_
  refine (S_iconst at_32_131).trans ?_
  refine (S_aload_n rfl at_32_132).trans ?_
  refine (S_getR (ka_3 L _) rfl (f_3_11 L _) at_32_133).trans ?_
  refine (S_iconst at_32_136).trans ?_
  refine (S_bipush at_32_137).trans ?_
  refine (H_cpy rfl (by decide) (kd_34 L _) (ka_18 L _) (by omega) (Nat.le_of_ble_eq_true rfl) at_32_139).trans ?_
  refine (if_pos (by decide)).trans ?_
  exact S_ret rfl at_32_142
theorem T33_0 {C : Nat → List j_V → j_H → Option j_Z} {L : j_B} {m : j_M0} {x1 : Int} : j_fin C 33 0 [some (jR 3), some (jI x1)] [] (hH L m) = (C 9 [jR 4, jI x1] (hH L m)).bind fun z => j_fin C 33 8 [some (jR 3), some (jI x1)] (z.1.toList ++ []) z.2 := by
  refine (S_aload_n rfl at_33_0).trans ?_
  refine (S_getR (ka_3 L _) rfl (f_3_0 L _) at_33_1).trans ?_
  refine (S_iload_n rfl at_33_4).trans ?_
  refine (S_invv (b := 1) (by decide) kn_9 rfl (kd_4 L _) (Nat.le_of_ble_eq_true rfl) at_33_5).trans ?_
  rfl
theorem T33_8 {C : Nat → List j_V → j_H → Option j_Z} {L : j_B} {m : j_M0} {x1 : Int} : j_fin C 33 8 [some (jR 3), some (jI x1)] [] (hH L m) = (C 22 [jR 9] (hH L m)).bind fun z => j_fin C 33 15 [some (jR 3), some (jI x1)] (z.1.toList ++ []) z.2 := by
  refine (S_aload_n rfl at_33_8).trans ?_
  refine (S_getR (ka_3 L _) rfl (f_3_1 L _) at_33_9).trans ?_
  refine (S_invv (b := 0) (by decide) kn_22 rfl (kd_9 L _) (Nat.le_of_ble_eq_true rfl) at_33_12).trans ?_
  rfl
theorem T33_15 {C : Nat → List j_V → j_H → Option j_Z} {L : j_B} {m : j_M0} {x1 : Int} : j_fin C 33 15 [some (jR 3), some (jI x1)] [] (hH L m) = (C 270 [jR 13, jI 0] (hH L m)).bind fun z => j_fin C 33 23 [some (jR 3), some (jI x1)] (z.1.toList ++ []) z.2 := by
  refine (S_aload_n rfl at_33_15).trans ?_
  refine (S_getR (ka_3 L _) rfl (f_3_2 L _) at_33_16).trans ?_
  refine (S_iconst at_33_19).trans ?_
  refine (S_invs (by decide) (Nat.le_of_ble_eq_true rfl) (Nat.le_of_ble_eq_true rfl) at_33_20).trans ?_
  rfl
theorem T33_23 {C : Nat → List j_V → j_H → Option j_Z} {L : j_B} {m : j_M0} {x1 : Int} : j_fin C 33 23 [some (jR 3), some (jI x1)] [] (hH L m) = some (none, hH L (j_up (j_up (j_up m 3 3 1) 3 5 0) 3 8 0)) := by
  refine (S_aload_n rfl at_33_23).trans ?_
  refine (S_iconst at_33_24).trans ?_
  refine (H_put0 (ka_3 L _) rfl at_33_25).trans ?_
  refine (S_aload_n rfl at_33_28).trans ?_
  refine (S_iconst at_33_29).trans ?_
  refine (H_put0 (ka_3 L _) rfl at_33_30).trans ?_
  refine (S_aload_n rfl at_33_33).trans ?_
  refine (S_iconst at_33_34).trans ?_
  refine (H_put0 (ka_3 L _) rfl at_33_35).trans ?_
  exact S_ret rfl at_33_38
theorem T34_0 {C : Nat → List j_V → j_H → Option j_Z} {L : j_B} {m : j_M0} {x1 : Int} {x2 : Int} : j_fin C 34 0 [some (jR 3), some (jI x1), some (jI x2)] [] (hH L m) = if 0 ≤ (m 3 5) ∧ (m 3 5) < 5 then if 0 ≤ ((j_up m 14 (m 3 5).toNat x1) 3 5) ∧ ((j_up m 14 (m 3 5).toNat x1) 3 5) < 5 then some (none, hH L (j_up (j_up (j_up m 14 (m 3 5).toNat x1) 15 ((j_up m 14 (m 3 5).toNat x1) 3 5).toNat x2) 3 5 (w32 (((j_up (j_up m 14 (m 3 5).toNat x1) 15 ((j_up m 14 (m 3 5).toNat x1) 3 5).toNat x2) 3 5) + 1)))) else none else none := by
  refine (S_aload_n rfl at_34_0).trans ?_
  refine (S_getR (ka_3 L _) rfl (f_3_6 L _) at_34_1).trans ?_
  refine (S_aload_n rfl at_34_4).trans ?_
  refine (H_get0 (ka_3 L _) rfl at_34_5).trans ?_
  refine (S_iload_n rfl at_34_8).trans ?_
  refine (H_iastore (by omega) (ka_14 L _) at_34_9).trans ?_
  refine ite_congr rfl (fun hi => ?_) (fun _ => rfl)
  refine (S_aload_n rfl at_34_10).trans ?_
  refine (S_getR (ka_3 L _) rfl (f_3_7 L _) at_34_11).trans ?_
  refine (S_aload_n rfl at_34_14).trans ?_
  refine (H_get0 (ka_3 L _) rfl at_34_15).trans ?_
  refine (S_iload_n rfl at_34_18).trans ?_
  refine (H_iastore (by omega) (ka_15 L _) at_34_19).trans ?_
  refine ite_congr rfl (fun hi => ?_) (fun _ => rfl)
  refine (S_aload_n rfl at_34_20).trans ?_
  refine (S_dup rfl at_34_21).trans ?_
  refine (H_get0 (ka_3 L _) rfl at_34_22).trans ?_
  refine (S_iconst at_34_25).trans ?_
  refine (S_iadd at_34_26).trans ?_
  refine (H_put0 (ka_3 L _) rfl at_34_27).trans ?_
  exact S_ret rfl at_34_30
theorem T35_0 {C : Nat → List j_V → j_H → Option j_Z} {L : j_B} {m : j_M0} {x1 : Int} {x2 : Int} {x3 : Int} : j_fin C 35 0 [some (jR 3), some (jI x1), some (jI x2), some (jI x3)] [] (hH L m) = if 0 ≤ (m 3 8) ∧ (m 3 8) < 8 then if 0 ≤ ((j_up m 16 (m 3 8).toNat x1) 3 8) ∧ ((j_up m 16 (m 3 8).toNat x1) 3 8) < 8 then if 0 ≤ ((j_up (j_up m 16 (m 3 8).toNat x1) 17 ((j_up m 16 (m 3 8).toNat x1) 3 8).toNat x2) 3 8) ∧ ((j_up (j_up m 16 (m 3 8).toNat x1) 17 ((j_up m 16 (m 3 8).toNat x1) 3 8).toNat x2) 3 8) < 8 then some (none, hH L (j_up (j_up (j_up (j_up m 16 (m 3 8).toNat x1) 17 ((j_up m 16 (m 3 8).toNat x1) 3 8).toNat x2) 18 ((j_up (j_up m 16 (m 3 8).toNat x1) 17 ((j_up m 16 (m 3 8).toNat x1) 3 8).toNat x2) 3 8).toNat x3) 3 8 (w32 (((j_up (j_up (j_up m 16 (m 3 8).toNat x1) 17 ((j_up m 16 (m 3 8).toNat x1) 3 8).toNat x2) 18 ((j_up (j_up m 16 (m 3 8).toNat x1) 17 ((j_up m 16 (m 3 8).toNat x1) 3 8).toNat x2) 3 8).toNat x3) 3 8) + 1)))) else none else none else none := by
  refine (S_aload_n rfl at_35_0).trans ?_
  refine (S_getR (ka_3 L _) rfl (f_3_9 L _) at_35_1).trans ?_
  refine (S_aload_n rfl at_35_4).trans ?_
  refine (H_get0 (ka_3 L _) rfl at_35_5).trans ?_
  refine (S_iload_n rfl at_35_8).trans ?_
  refine (H_iastore (by omega) (ka_16 L _) at_35_9).trans ?_
  refine ite_congr rfl (fun hi => ?_) (fun _ => rfl)
  refine (S_aload_n rfl at_35_10).trans ?_
  refine (S_getR (ka_3 L _) rfl (f_3_10 L _) at_35_11).trans ?_
  refine (S_aload_n rfl at_35_14).trans ?_
  refine (H_get0 (ka_3 L _) rfl at_35_15).trans ?_
  refine (S_iload_n rfl at_35_18).trans ?_
  refine (H_iastore (by omega) (ka_17 L _) at_35_19).trans ?_
  refine ite_congr rfl (fun hi => ?_) (fun _ => rfl)
  refine (S_aload_n rfl at_35_20).trans ?_
  refine (S_getR (ka_3 L _) rfl (f_3_11 L _) at_35_21).trans ?_
  refine (S_aload_n rfl at_35_24).trans ?_
  refine (H_get0 (ka_3 L _) rfl at_35_25).trans ?_
  refine (S_iload_n rfl at_35_28).trans ?_
  refine (H_iastore (by omega) (ka_18 L _) at_35_29).trans ?_
  refine ite_congr rfl (fun hi => ?_) (fun _ => rfl)
  refine (S_aload_n rfl at_35_30).trans ?_
  refine (S_dup rfl at_35_31).trans ?_
  refine (H_get0 (ka_3 L _) rfl at_35_32).trans ?_
  refine (S_iconst at_35_35).trans ?_
  refine (S_iadd at_35_36).trans ?_
  refine (H_put0 (ka_3 L _) rfl at_35_37).trans ?_
  exact S_ret rfl at_35_40
theorem T38_0_41_4 {C : Nat → List j_V → j_H → Option j_Z} {L : j_B} {m : j_M0} : j_fin C 38 0 [some (jR 41), some (jR 4), none, none, none] [] (hH L m) = j_fin C 38 30 [some (jR 41), some (jR 4), some (jI 0), none, none] [] (hH L (j_up (j_up (j_up (j_up (j_up m 41 0 0) 41 1 ((j_up m 41 0 0) 4 0)) 41 2 0) 41 3 0) 41 4 1)) := by
  refine (S_aload_n rfl at_38_0).trans ?_
  refine (S_iconst at_38_1).trans ?_
  refine (H_put0 (ka_41 L _) rfl at_38_2).trans ?_
  refine (S_aload_n rfl at_38_5).trans ?_
  refine (S_aload_n rfl at_38_6).trans ?_
  refine (H_get0 (ka_4 L _) rfl at_38_7).trans ?_
  refine (H_put0 (ka_41 L _) rfl at_38_10).trans ?_
  refine (S_aload_n rfl at_38_13).trans ?_
  refine (S_iconst at_38_14).trans ?_
  refine (H_put0 (ka_41 L _) rfl at_38_15).trans ?_
  refine (S_aload_n rfl at_38_18).trans ?_
  refine (S_lconst at_38_19).trans ?_
  refine (H_put1 (ka_41 L _) rfl at_38_20).trans ?_
  refine (S_aload_n rfl at_38_23).trans ?_
  refine (S_lconst at_38_24).trans ?_
  refine (H_put1 (ka_41 L _) rfl at_38_25).trans ?_
  refine (S_iconst at_38_28).trans ?_
  refine (S_istore_n (l1 := [some (jR 41), some (jR 4), some (jI 0), none, none]) rfl at_38_29).trans ?_
  rfl
theorem T38_30_41_4 {C : Nat → List j_V → j_H → Option j_Z} {L : j_B} {m : j_M0} {x2 : Int} : j_fin C 38 30 [some (jR 41), some (jR 4), some (jI x2), none, none] [] (hH L m) = if x2 < (m 41 1) then if 0 ≤ x2 ∧ x2 < 5 then if 0 ≤ x2 ∧ x2 < 5 then if 0 ≤ x2 ∧ x2 < 5 then j_fin C 38 30 [some (jR 41), some (jR 4), some (jI (w32 (x2 + 1))), none, none] [] (hH L (j_up (j_up m 43 x2.toNat x2) 46 x2.toNat ((j_up m 43 x2.toNat x2) 5 x2.toNat))) else none else none else none else j_fin C 38 66 [some (jR 41), some (jR 4), some (jI 0), none, none] [] (hH L m) := by
  refine (S_iload_n rfl at_38_30).trans ?_
  refine (S_aload_n rfl at_38_31).trans ?_
  refine (H_get0 (ka_41 L _) rfl at_38_32).trans ?_
  refine (S_icmp_ge at_38_35).trans ?_
  refine ite_congr rfl (fun _ => ?_) (fun _ => ?_)
  · refine (S_aload_n rfl at_38_38).trans ?_
    refine (S_getR (ka_41 L _) rfl (f_41_6 L _) at_38_39).trans ?_
    refine (S_iload_n rfl at_38_42).trans ?_
    refine (S_iload_n rfl at_38_43).trans ?_
    refine (H_iastore (by omega) (ka_43 L _) at_38_44).trans ?_
    refine ite_congr rfl (fun hi => ?_) (fun _ => rfl)
    refine (S_aload_n rfl at_38_45).trans ?_
    refine (S_getR (ka_41 L _) rfl (f_41_9 L _) at_38_46).trans ?_
    refine (S_iload_n rfl at_38_49).trans ?_
    refine (S_aload_n rfl at_38_50).trans ?_
    refine (S_getR (ka_4 L _) rfl (f_4_2 L _) at_38_51).trans ?_
    refine (S_iload_n rfl at_38_54).trans ?_
    refine (H_iaload (ka_5 L _) at_38_55).trans ?_
    refine ite_congr rfl (fun hi => ?_) (fun _ => rfl)
    refine (S_i2l at_38_56).trans ?_
    refine (H_lastore (by omega) (ka_46 L _) at_38_57).trans ?_
    refine ite_congr rfl (fun hi => ?_) (fun _ => rfl)
    refine (S_iinc (l1 := [some (jR 41), some (jR 4), some (jI (w32 (x2 + 1))), none, none]) rfl rfl at_38_58).trans ?_
    refine (S_goto at_38_61).trans ?_
    rfl
  · refine (S_iconst at_38_64).trans ?_
    refine (S_istore_n (l1 := [some (jR 41), some (jR 4), some (jI 0), none, none]) rfl at_38_65).trans ?_
    rfl
theorem T38_66_41_4 {C : Nat → List j_V → j_H → Option j_Z} {L : j_B} {m : j_M0} {x2 : Int} {o3 : Option j_V} {o4 : Option j_V} : j_fin C 38 66 [some (jR 41), some (jR 4), some (jI x2), o3, o4] [] (hH L m) = if x2 < (m 4 1) then (C 13 [jR 4, jI x2, jI (m 41 1)] (hH L m)).bind fun z => j_fin C 38 88 [some (jR 41), some (jR 4), some (jI x2), o3, o4] (z.1.toList ++ [jI (w32 (10 + x2)), jR 41]) z.2 else some (none, hH L m) := by
  refine (S_iload_n rfl at_38_66).trans ?_
  refine (S_aload_n rfl at_38_67).trans ?_
  refine (H_get0 (ka_4 L _) rfl at_38_68).trans ?_
  refine (S_icmp_ge at_38_71).trans ?_
  refine ite_congr rfl (fun _ => ?_) (fun _ => ?_)
  · refine (S_aload_n rfl at_38_74).trans ?_
    refine (S_bipush at_38_75).trans ?_
    refine (S_iload_n rfl at_38_77).trans ?_
    refine (S_iadd at_38_78).trans ?_
    refine (S_aload_n rfl at_38_79).trans ?_
    refine (S_iload_n rfl at_38_80).trans ?_
    refine (S_aload_n rfl at_38_81).trans ?_
    refine (H_get0 (ka_41 L _) rfl at_38_82).trans ?_
    refine (S_invv (b := 2) (by decide) kn_13 rfl (kd_4 L _) (Nat.le_of_ble_eq_true rfl) at_38_85).trans ?_
    rfl
  · exact S_ret rfl at_38_136
theorem T38_88_41_4 {C : Nat → List j_V → j_H → Option j_Z} {L : j_B} {m : j_M0} {x2 : Int} {o3 : Option j_V} {o4 : Option j_V} {s1 : Int} {s2 : Int} : j_fin C 38 88 [some (jR 41), some (jR 4), some (jI x2), o3, o4] [jI s2, jI s1, jR 41] (hH L m) = (C 39 [jR 41, jI s1, jL s2] (hH L m)).bind fun z => j_fin C 38 92 [some (jR 41), some (jR 4), some (jI x2), o3, o4] (z.1.toList ++ []) z.2 := by
  refine (S_i2l at_38_88).trans ?_
  refine (S_invv (b := 2) (by decide) kn_39 rfl (kd_41 L _) (Nat.le_of_ble_eq_true rfl) at_38_89).trans ?_
  rfl
theorem T38_92_41_4 {C : Nat → List j_V → j_H → Option j_Z} {L : j_B} {m : j_M0} {x2 : Int} {o3 : Option j_V} {o4 : Option j_V} {s0 : Int} : j_fin C 38 92 [some (jR 41), some (jR 4), some (jI x2), o3, o4] [jI s0] (hH L m) = j_fin C 38 96 [some (jR 41), some (jR 4), some (jI x2), some (jI s0), some (jI 0)] [] (hH L m) := by
  refine (S_istore_n (l1 := [some (jR 41), some (jR 4), some (jI x2), some (jI s0), o4]) rfl at_38_92).trans ?_
  refine (S_iconst at_38_93).trans ?_
  refine (S_istore (l1 := [some (jR 41), some (jR 4), some (jI x2), some (jI s0), some (jI 0)]) rfl at_38_94).trans ?_
  rfl
theorem T38_96_41_4 {C : Nat → List j_V → j_H → Option j_Z} {L : j_B} {m : j_M0} {x2 : Int} {x3 : Int} {x4 : Int} : j_fin C 38 96 [some (jR 41), some (jR 4), some (jI x2), some (jI x3), some (jI x4)] [] (hH L m) = if x4 < (m 41 1) then (C 13 [jR 4, jI x2, jI x4] (hH L m)).bind fun z => j_fin C 38 122 [some (jR 41), some (jR 4), some (jI x2), some (jI x3), some (jI x4)] (z.1.toList ++ [jI (w32 ((w32 (x3 * 5)) + x4)), jR 44]) z.2 else j_fin C 38 66 [some (jR 41), some (jR 4), some (jI (w32 (x2 + 1))), some (jI x3), some (jI x4)] [] (hH L m) := by
  refine (S_iload rfl at_38_96).trans ?_
  refine (S_aload_n rfl at_38_98).trans ?_
  refine (H_get0 (ka_41 L _) rfl at_38_99).trans ?_
  refine (S_icmp_ge at_38_102).trans ?_
  refine ite_congr rfl (fun _ => ?_) (fun _ => ?_)
  · refine (S_aload_n rfl at_38_105).trans ?_
    refine (S_getR (ka_41 L _) rfl (f_41_7 L _) at_38_106).trans ?_
    refine (S_iload_n rfl at_38_109).trans ?_
    refine (S_iconst at_38_110).trans ?_
    refine (S_imul at_38_111).trans ?_
    refine (S_iload rfl at_38_112).trans ?_
    refine (S_iadd at_38_114).trans ?_
    refine (S_aload_n rfl at_38_115).trans ?_
    refine (S_iload_n rfl at_38_116).trans ?_
    refine (S_iload rfl at_38_117).trans ?_
    refine (S_invv (b := 2) (by decide) kn_13 rfl (kd_4 L _) (Nat.le_of_ble_eq_true rfl) at_38_119).trans ?_
    rfl
  · refine (S_iinc (l1 := [some (jR 41), some (jR 4), some (jI (w32 (x2 + 1))), some (jI x3), some (jI x4)]) rfl rfl at_38_130).trans ?_
    refine (S_goto at_38_133).trans ?_
    rfl
theorem T38_122_41_4 {C : Nat → List j_V → j_H → Option j_Z} {L : j_B} {m : j_M0} {x2 : Int} {x3 : Int} {x4 : Int} {s1 : Int} {s2 : Int} : j_fin C 38 122 [some (jR 41), some (jR 4), some (jI x2), some (jI x3), some (jI x4)] [jI s2, jI s1, jR 44] (hH L m) = if 0 ≤ s1 ∧ s1 < 100 then j_fin C 38 96 [some (jR 41), some (jR 4), some (jI x2), some (jI x3), some (jI (w32 (x4 + 1)))] [] (hH L (j_up m 44 s1.toNat s2)) else none := by
  refine (S_i2l at_38_122).trans ?_
  refine (H_lastore (by omega) (ka_44 L _) at_38_123).trans ?_
  refine ite_congr rfl (fun hi => ?_) (fun _ => rfl)
  refine (S_iinc (l1 := [some (jR 41), some (jR 4), some (jI x2), some (jI x3), some (jI (w32 (x4 + 1)))]) rfl rfl at_38_124).trans ?_
  refine (S_goto at_38_127).trans ?_
  rfl
theorem T38_0_55_35 {C : Nat → List j_V → j_H → Option j_Z} {L : j_B} {m : j_M0} : j_fin C 38 0 [some (jR 55), some (jR 35), none, none, none] [] (hH L m) = j_fin C 38 30 [some (jR 55), some (jR 35), some (jI 0), none, none] [] (hH L (j_up (j_up (j_up (j_up (j_up m 55 0 0) 55 1 ((j_up m 55 0 0) 35 0)) 55 2 0) 55 3 0) 55 4 1)) := by
  refine (S_aload_n rfl at_38_0).trans ?_
  refine (S_iconst at_38_1).trans ?_
  refine (H_put0 (ka_55 L _) rfl at_38_2).trans ?_
  refine (S_aload_n rfl at_38_5).trans ?_
  refine (S_aload_n rfl at_38_6).trans ?_
  refine (H_get0 (ka_35 L _) rfl at_38_7).trans ?_
  refine (H_put0 (ka_55 L _) rfl at_38_10).trans ?_
  refine (S_aload_n rfl at_38_13).trans ?_
  refine (S_iconst at_38_14).trans ?_
  refine (H_put0 (ka_55 L _) rfl at_38_15).trans ?_
  refine (S_aload_n rfl at_38_18).trans ?_
  refine (S_lconst at_38_19).trans ?_
  refine (H_put1 (ka_55 L _) rfl at_38_20).trans ?_
  refine (S_aload_n rfl at_38_23).trans ?_
  refine (S_lconst at_38_24).trans ?_
  refine (H_put1 (ka_55 L _) rfl at_38_25).trans ?_
  refine (S_iconst at_38_28).trans ?_
  refine (S_istore_n (l1 := [some (jR 55), some (jR 35), some (jI 0), none, none]) rfl at_38_29).trans ?_
  rfl
theorem T38_30_55_35 {C : Nat → List j_V → j_H → Option j_Z} {L : j_B} {m : j_M0} {x2 : Int} : j_fin C 38 30 [some (jR 55), some (jR 35), some (jI x2), none, none] [] (hH L m) = if x2 < (m 55 1) then if 0 ≤ x2 ∧ x2 < 5 then if 0 ≤ x2 ∧ x2 < 5 then if 0 ≤ x2 ∧ x2 < 5 then j_fin C 38 30 [some (jR 55), some (jR 35), some (jI (w32 (x2 + 1))), none, none] [] (hH L (j_up (j_up m 57 x2.toNat x2) 60 x2.toNat ((j_up m 57 x2.toNat x2) 36 x2.toNat))) else none else none else none else j_fin C 38 66 [some (jR 55), some (jR 35), some (jI 0), none, none] [] (hH L m) := by
  refine (S_iload_n rfl at_38_30).trans ?_
  refine (S_aload_n rfl at_38_31).trans ?_
  refine (H_get0 (ka_55 L _) rfl at_38_32).trans ?_
  refine (S_icmp_ge at_38_35).trans ?_
  refine ite_congr rfl (fun _ => ?_) (fun _ => ?_)
  · refine (S_aload_n rfl at_38_38).trans ?_
    refine (S_getR (ka_55 L _) rfl (f_55_6 L _) at_38_39).trans ?_
    refine (S_iload_n rfl at_38_42).trans ?_
    refine (S_iload_n rfl at_38_43).trans ?_
    refine (H_iastore (by omega) (ka_57 L _) at_38_44).trans ?_
    refine ite_congr rfl (fun hi => ?_) (fun _ => rfl)
    refine (S_aload_n rfl at_38_45).trans ?_
    refine (S_getR (ka_55 L _) rfl (f_55_9 L _) at_38_46).trans ?_
    refine (S_iload_n rfl at_38_49).trans ?_
    refine (S_aload_n rfl at_38_50).trans ?_
    refine (S_getR (ka_35 L _) rfl (f_35_2 L _) at_38_51).trans ?_
    refine (S_iload_n rfl at_38_54).trans ?_
    refine (H_iaload (ka_36 L _) at_38_55).trans ?_
    refine ite_congr rfl (fun hi => ?_) (fun _ => rfl)
    refine (S_i2l at_38_56).trans ?_
    refine (H_lastore (by omega) (ka_60 L _) at_38_57).trans ?_
    refine ite_congr rfl (fun hi => ?_) (fun _ => rfl)
    refine (S_iinc (l1 := [some (jR 55), some (jR 35), some (jI (w32 (x2 + 1))), none, none]) rfl rfl at_38_58).trans ?_
    refine (S_goto at_38_61).trans ?_
    rfl
  · refine (S_iconst at_38_64).trans ?_
    refine (S_istore_n (l1 := [some (jR 55), some (jR 35), some (jI 0), none, none]) rfl at_38_65).trans ?_
    rfl
theorem T38_66_55_35 {C : Nat → List j_V → j_H → Option j_Z} {L : j_B} {m : j_M0} {x2 : Int} {o3 : Option j_V} {o4 : Option j_V} : j_fin C 38 66 [some (jR 55), some (jR 35), some (jI x2), o3, o4] [] (hH L m) = if x2 < (m 35 1) then (C 13 [jR 35, jI x2, jI (m 55 1)] (hH L m)).bind fun z => j_fin C 38 88 [some (jR 55), some (jR 35), some (jI x2), o3, o4] (z.1.toList ++ [jI (w32 (10 + x2)), jR 55]) z.2 else some (none, hH L m) := by
  refine (S_iload_n rfl at_38_66).trans ?_
  refine (S_aload_n rfl at_38_67).trans ?_
  refine (H_get0 (ka_35 L _) rfl at_38_68).trans ?_
  refine (S_icmp_ge at_38_71).trans ?_
  refine ite_congr rfl (fun _ => ?_) (fun _ => ?_)
  · refine (S_aload_n rfl at_38_74).trans ?_
    refine (S_bipush at_38_75).trans ?_
    refine (S_iload_n rfl at_38_77).trans ?_
    refine (S_iadd at_38_78).trans ?_
    refine (S_aload_n rfl at_38_79).trans ?_
    refine (S_iload_n rfl at_38_80).trans ?_
    refine (S_aload_n rfl at_38_81).trans ?_
    refine (H_get0 (ka_55 L _) rfl at_38_82).trans ?_
    refine (S_invv (b := 2) (by decide) kn_13 rfl (kd_35 L _) (Nat.le_of_ble_eq_true rfl) at_38_85).trans ?_
    rfl
  · exact S_ret rfl at_38_136
theorem T38_88_55_35 {C : Nat → List j_V → j_H → Option j_Z} {L : j_B} {m : j_M0} {x2 : Int} {o3 : Option j_V} {o4 : Option j_V} {s1 : Int} {s2 : Int} : j_fin C 38 88 [some (jR 55), some (jR 35), some (jI x2), o3, o4] [jI s2, jI s1, jR 55] (hH L m) = (C 39 [jR 55, jI s1, jL s2] (hH L m)).bind fun z => j_fin C 38 92 [some (jR 55), some (jR 35), some (jI x2), o3, o4] (z.1.toList ++ []) z.2 := by
  refine (S_i2l at_38_88).trans ?_
  refine (S_invv (b := 2) (by decide) kn_39 rfl (kd_55 L _) (Nat.le_of_ble_eq_true rfl) at_38_89).trans ?_
  rfl
theorem T38_92_55_35 {C : Nat → List j_V → j_H → Option j_Z} {L : j_B} {m : j_M0} {x2 : Int} {o3 : Option j_V} {o4 : Option j_V} {s0 : Int} : j_fin C 38 92 [some (jR 55), some (jR 35), some (jI x2), o3, o4] [jI s0] (hH L m) = j_fin C 38 96 [some (jR 55), some (jR 35), some (jI x2), some (jI s0), some (jI 0)] [] (hH L m) := by
  refine (S_istore_n (l1 := [some (jR 55), some (jR 35), some (jI x2), some (jI s0), o4]) rfl at_38_92).trans ?_
  refine (S_iconst at_38_93).trans ?_
  refine (S_istore (l1 := [some (jR 55), some (jR 35), some (jI x2), some (jI s0), some (jI 0)]) rfl at_38_94).trans ?_
  rfl
theorem T38_96_55_35 {C : Nat → List j_V → j_H → Option j_Z} {L : j_B} {m : j_M0} {x2 : Int} {x3 : Int} {x4 : Int} : j_fin C 38 96 [some (jR 55), some (jR 35), some (jI x2), some (jI x3), some (jI x4)] [] (hH L m) = if x4 < (m 55 1) then (C 13 [jR 35, jI x2, jI x4] (hH L m)).bind fun z => j_fin C 38 122 [some (jR 55), some (jR 35), some (jI x2), some (jI x3), some (jI x4)] (z.1.toList ++ [jI (w32 ((w32 (x3 * 5)) + x4)), jR 58]) z.2 else j_fin C 38 66 [some (jR 55), some (jR 35), some (jI (w32 (x2 + 1))), some (jI x3), some (jI x4)] [] (hH L m) := by
  refine (S_iload rfl at_38_96).trans ?_
  refine (S_aload_n rfl at_38_98).trans ?_
  refine (H_get0 (ka_55 L _) rfl at_38_99).trans ?_
  refine (S_icmp_ge at_38_102).trans ?_
  refine ite_congr rfl (fun _ => ?_) (fun _ => ?_)
  · refine (S_aload_n rfl at_38_105).trans ?_
    refine (S_getR (ka_55 L _) rfl (f_55_7 L _) at_38_106).trans ?_
    refine (S_iload_n rfl at_38_109).trans ?_
    refine (S_iconst at_38_110).trans ?_
    refine (S_imul at_38_111).trans ?_
    refine (S_iload rfl at_38_112).trans ?_
    refine (S_iadd at_38_114).trans ?_
    refine (S_aload_n rfl at_38_115).trans ?_
    refine (S_iload_n rfl at_38_116).trans ?_
    refine (S_iload rfl at_38_117).trans ?_
    refine (S_invv (b := 2) (by decide) kn_13 rfl (kd_35 L _) (Nat.le_of_ble_eq_true rfl) at_38_119).trans ?_
    rfl
  · refine (S_iinc (l1 := [some (jR 55), some (jR 35), some (jI (w32 (x2 + 1))), some (jI x3), some (jI x4)]) rfl rfl at_38_130).trans ?_
    refine (S_goto at_38_133).trans ?_
    rfl
theorem T38_122_55_35 {C : Nat → List j_V → j_H → Option j_Z} {L : j_B} {m : j_M0} {x2 : Int} {x3 : Int} {x4 : Int} {s1 : Int} {s2 : Int} : j_fin C 38 122 [some (jR 55), some (jR 35), some (jI x2), some (jI x3), some (jI x4)] [jI s2, jI s1, jR 58] (hH L m) = if 0 ≤ s1 ∧ s1 < 100 then j_fin C 38 96 [some (jR 55), some (jR 35), some (jI x2), some (jI x3), some (jI (w32 (x4 + 1)))] [] (hH L (j_up m 58 s1.toNat s2)) else none := by
  refine (S_i2l at_38_122).trans ?_
  refine (H_lastore (by omega) (ka_58 L _) at_38_123).trans ?_
  refine ite_congr rfl (fun hi => ?_) (fun _ => rfl)
  refine (S_iinc (l1 := [some (jR 55), some (jR 35), some (jI x2), some (jI x3), some (jI (w32 (x4 + 1)))]) rfl rfl at_38_124).trans ?_
  refine (S_goto at_38_127).trans ?_
  rfl
theorem T39_0_41 {C : Nat → List j_V → j_H → Option j_Z} {L : j_B} {m : j_M0} {x1 : Int} {y2 : Int} : j_fin C 39 0 [some (jR 41), some (jI x1), some (jL y2), none, none, none] [] (hH L m) = if 0 ≤ (m 41 0) ∧ (m 41 0) < 20 then if 0 ≤ (m 41 0) ∧ (m 41 0) < 20 then j_fin C 39 25 [some (jR 41), some (jI x1), some (jL y2), none, some (jI (m 41 0)), some (jI 0)] [] (hH L (j_up (j_up m 42 (m 41 0).toNat x1) 45 (m 41 0).toNat y2)) else none else none := by
  refine (S_aload_n rfl at_39_0).trans ?_
  refine (H_get0 (ka_41 L _) rfl at_39_1).trans ?_
  refine (S_istore (l1 := [some (jR 41), some (jI x1), some (jL y2), none, some (jI (m 41 0)), none]) rfl at_39_4).trans ?_
  refine (S_aload_n rfl at_39_6).trans ?_
  refine (S_getR (ka_41 L _) rfl (f_41_5 L _) at_39_7).trans ?_
  refine (S_iload rfl at_39_10).trans ?_
  refine (S_iload_n rfl at_39_12).trans ?_
  refine (H_iastore (by omega) (ka_42 L _) at_39_13).trans ?_
  refine ite_congr rfl (fun hi => ?_) (fun _ => rfl)
  refine (S_aload_n rfl at_39_14).trans ?_
  refine (S_getR (ka_41 L _) rfl (f_41_8 L _) at_39_15).trans ?_
  refine (S_iload rfl at_39_18).trans ?_
  refine (S_lload_n rfl at_39_20).trans ?_
  refine (H_lastore (by omega) (ka_45 L _) at_39_21).trans ?_
  refine ite_congr rfl (fun hi => ?_) (fun _ => rfl)
  refine (S_iconst at_39_22).trans ?_
  refine (S_istore (l1 := [some (jR 41), some (jI x1), some (jL y2), none, some (jI (m 41 0)), some (jI 0)]) rfl at_39_23).trans ?_
  rfl
theorem T39_25_41 {C : Nat → List j_V → j_H → Option j_Z} {L : j_B} {m : j_M0} {x1 : Int} {y2 : Int} {x4 : Int} {x5 : Int} : j_fin C 39 25 [some (jR 41), some (jI x1), some (jL y2), none, some (jI x4), some (jI x5)] [] (hH L m) = if x5 < 5 then if 0 ≤ (w32 ((w32 (x4 * 5)) + x5)) ∧ (w32 ((w32 (x4 * 5)) + x5)) < 100 then j_fin C 39 25 [some (jR 41), some (jI x1), some (jL y2), none, some (jI x4), some (jI (w32 (x5 + 1)))] [] (hH L (j_up m 44 (w32 ((w32 (x4 * 5)) + x5)).toNat 0)) else none else some (some (jI x4), hH L (j_up m 41 0 (w32 ((m 41 0) + 1)))) := by
  refine (S_iload rfl at_39_25).trans ?_
  refine (S_iconst at_39_27).trans ?_
  refine (S_icmp_ge at_39_28).trans ?_
  refine ite_congr rfl (fun _ => ?_) (fun _ => ?_)
  · refine (S_aload_n rfl at_39_31).trans ?_
    refine (S_getR (ka_41 L _) rfl (f_41_7 L _) at_39_32).trans ?_
    refine (S_iload rfl at_39_35).trans ?_
    refine (S_iconst at_39_37).trans ?_
    refine (S_imul at_39_38).trans ?_
    refine (S_iload rfl at_39_39).trans ?_
    refine (S_iadd at_39_41).trans ?_
    refine (S_lconst at_39_42).trans ?_
    refine (H_lastore (by omega) (ka_44 L _) at_39_43).trans ?_
    refine ite_congr rfl (fun hi => ?_) (fun _ => rfl)
    refine (S_iinc (l1 := [some (jR 41), some (jI x1), some (jL y2), none, some (jI x4), some (jI (w32 (x5 + 1)))]) rfl rfl at_39_44).trans ?_
    refine (S_goto at_39_47).trans ?_
    rfl
  · refine (S_aload_n rfl at_39_50).trans ?_
    refine (S_dup rfl at_39_51).trans ?_
    refine (H_get0 (ka_41 L _) rfl at_39_52).trans ?_
    refine (S_iconst at_39_55).trans ?_
    refine (S_iadd at_39_56).trans ?_
    refine (H_put0 (ka_41 L _) rfl at_39_57).trans ?_
    refine (S_iload rfl at_39_60).trans ?_
    exact S_ireti rfl at_39_62
theorem T39_0_55 {C : Nat → List j_V → j_H → Option j_Z} {L : j_B} {m : j_M0} {x1 : Int} {y2 : Int} : j_fin C 39 0 [some (jR 55), some (jI x1), some (jL y2), none, none, none] [] (hH L m) = if 0 ≤ (m 55 0) ∧ (m 55 0) < 20 then if 0 ≤ (m 55 0) ∧ (m 55 0) < 20 then j_fin C 39 25 [some (jR 55), some (jI x1), some (jL y2), none, some (jI (m 55 0)), some (jI 0)] [] (hH L (j_up (j_up m 56 (m 55 0).toNat x1) 59 (m 55 0).toNat y2)) else none else none := by
  refine (S_aload_n rfl at_39_0).trans ?_
  refine (H_get0 (ka_55 L _) rfl at_39_1).trans ?_
  refine (S_istore (l1 := [some (jR 55), some (jI x1), some (jL y2), none, some (jI (m 55 0)), none]) rfl at_39_4).trans ?_
  refine (S_aload_n rfl at_39_6).trans ?_
  refine (S_getR (ka_55 L _) rfl (f_55_5 L _) at_39_7).trans ?_
  refine (S_iload rfl at_39_10).trans ?_
  refine (S_iload_n rfl at_39_12).trans ?_
  refine (H_iastore (by omega) (ka_56 L _) at_39_13).trans ?_
  refine ite_congr rfl (fun hi => ?_) (fun _ => rfl)
  refine (S_aload_n rfl at_39_14).trans ?_
  refine (S_getR (ka_55 L _) rfl (f_55_8 L _) at_39_15).trans ?_
  refine (S_iload rfl at_39_18).trans ?_
  refine (S_lload_n rfl at_39_20).trans ?_
  refine (H_lastore (by omega) (ka_59 L _) at_39_21).trans ?_
  refine ite_congr rfl (fun hi => ?_) (fun _ => rfl)
  refine (S_iconst at_39_22).trans ?_
  refine (S_istore (l1 := [some (jR 55), some (jI x1), some (jL y2), none, some (jI (m 55 0)), some (jI 0)]) rfl at_39_23).trans ?_
  rfl
theorem T39_25_55 {C : Nat → List j_V → j_H → Option j_Z} {L : j_B} {m : j_M0} {x1 : Int} {y2 : Int} {x4 : Int} {x5 : Int} : j_fin C 39 25 [some (jR 55), some (jI x1), some (jL y2), none, some (jI x4), some (jI x5)] [] (hH L m) = if x5 < 5 then if 0 ≤ (w32 ((w32 (x4 * 5)) + x5)) ∧ (w32 ((w32 (x4 * 5)) + x5)) < 100 then j_fin C 39 25 [some (jR 55), some (jI x1), some (jL y2), none, some (jI x4), some (jI (w32 (x5 + 1)))] [] (hH L (j_up m 58 (w32 ((w32 (x4 * 5)) + x5)).toNat 0)) else none else some (some (jI x4), hH L (j_up m 55 0 (w32 ((m 55 0) + 1)))) := by
  refine (S_iload rfl at_39_25).trans ?_
  refine (S_iconst at_39_27).trans ?_
  refine (S_icmp_ge at_39_28).trans ?_
  refine ite_congr rfl (fun _ => ?_) (fun _ => ?_)
  · refine (S_aload_n rfl at_39_31).trans ?_
    refine (S_getR (ka_55 L _) rfl (f_55_7 L _) at_39_32).trans ?_
    refine (S_iload rfl at_39_35).trans ?_
    refine (S_iconst at_39_37).trans ?_
    refine (S_imul at_39_38).trans ?_
    refine (S_iload rfl at_39_39).trans ?_
    refine (S_iadd at_39_41).trans ?_
    refine (S_lconst at_39_42).trans ?_
    refine (H_lastore (by omega) (ka_58 L _) at_39_43).trans ?_
    refine ite_congr rfl (fun hi => ?_) (fun _ => rfl)
    refine (S_iinc (l1 := [some (jR 55), some (jI x1), some (jL y2), none, some (jI x4), some (jI (w32 (x5 + 1)))]) rfl rfl at_39_44).trans ?_
    refine (S_goto at_39_47).trans ?_
    rfl
  · refine (S_aload_n rfl at_39_50).trans ?_
    refine (S_dup rfl at_39_51).trans ?_
    refine (H_get0 (ka_55 L _) rfl at_39_52).trans ?_
    refine (S_iconst at_39_55).trans ?_
    refine (S_iadd at_39_56).trans ?_
    refine (H_put0 (ka_55 L _) rfl at_39_57).trans ?_
    refine (S_iload rfl at_39_60).trans ?_
    exact S_ireti rfl at_39_62
theorem T42_0_41 {C : Nat → List j_V → j_H → Option j_Z} {L : j_B} {m : j_M0} {x1 : Int} {x2 : Int} : j_fin C 42 0 [some (jR 41), some (jI x1), some (jI x2), none, none] [] (hH L m) = if 0 ≤ x2 ∧ x2 < 20 then (C 43 [jR 41, jL (m 45 x2.toNat)] (hH L m)).bind fun z => j_fin C 42 12 [some (jR 41), some (jI x1), some (jI x2), none, none] (z.1.toList ++ [jI x1, jR 41]) z.2 else none := by
  refine (S_aload_n rfl at_42_0).trans ?_
  refine (S_iload_n rfl at_42_1).trans ?_
  refine (S_aload_n rfl at_42_2).trans ?_
  refine (S_aload_n rfl at_42_3).trans ?_
  refine (S_getR (ka_41 L _) rfl (f_41_8 L _) at_42_4).trans ?_
  refine (S_iload_n rfl at_42_7).trans ?_
  refine (H_laload (ka_45 L _) at_42_8).trans ?_
  refine ite_congr rfl (fun hi => ?_) (fun _ => rfl)
  refine (S_invv (b := 1) (by decide) kn_43 rfl (kd_41 L _) (Nat.le_of_ble_eq_true rfl) at_42_9).trans ?_
  rfl
theorem T42_12_41 {C : Nat → List j_V → j_H → Option j_Z} {L : j_B} {m : j_M0} {x1 : Int} {x2 : Int} {s1 : Int} {t2 : Int} : j_fin C 42 12 [some (jR 41), some (jI x1), some (jI x2), none, none] [jL t2, jI s1, jR 41] (hH L m) = (C 39 [jR 41, jI s1, jL (w64 (-t2))] (hH L m)).bind fun z => j_fin C 42 16 [some (jR 41), some (jI x1), some (jI x2), none, none] (z.1.toList ++ []) z.2 := by
  refine (S_lneg at_42_12).trans ?_
  refine (S_invv (b := 2) (by decide) kn_39 rfl (kd_41 L _) (Nat.le_of_ble_eq_true rfl) at_42_13).trans ?_
  rfl
theorem T42_16_41 {C : Nat → List j_V → j_H → Option j_Z} {L : j_B} {m : j_M0} {x1 : Int} {x2 : Int} {s0 : Int} : j_fin C 42 16 [some (jR 41), some (jI x1), some (jI x2), none, none] [jI s0] (hH L m) = j_fin C 42 20 [some (jR 41), some (jI x1), some (jI x2), some (jI s0), some (jI 0)] [] (hH L m) := by
  refine (S_istore_n (l1 := [some (jR 41), some (jI x1), some (jI x2), some (jI s0), none]) rfl at_42_16).trans ?_
  refine (S_iconst at_42_17).trans ?_
  refine (S_istore (l1 := [some (jR 41), some (jI x1), some (jI x2), some (jI s0), some (jI 0)]) rfl at_42_18).trans ?_
  rfl
theorem T42_20_41 {C : Nat → List j_V → j_H → Option j_Z} {L : j_B} {m : j_M0} {x1 : Int} {x2 : Int} {x3 : Int} {x4 : Int} : j_fin C 42 20 [some (jR 41), some (jI x1), some (jI x2), some (jI x3), some (jI x4)] [] (hH L m) = if x4 < (m 41 1) then if 0 ≤ (w32 ((w32 (x2 * 5)) + x4)) ∧ (w32 ((w32 (x2 * 5)) + x4)) < 100 then (C 43 [jR 41, jL (m 44 (w32 ((w32 (x2 * 5)) + x4)).toNat)] (hH L m)).bind fun z => j_fin C 42 54 [some (jR 41), some (jI x1), some (jI x2), some (jI x3), some (jI x4)] (z.1.toList ++ [jI (w32 ((w32 (x3 * 5)) + x4)), jR 44]) z.2 else none else some (none, hH L m) := by
  refine (S_iload rfl at_42_20).trans ?_
  refine (S_aload_n rfl at_42_22).trans ?_
  refine (H_get0 (ka_41 L _) rfl at_42_23).trans ?_
  refine (S_icmp_ge at_42_26).trans ?_
  refine ite_congr rfl (fun _ => ?_) (fun _ => ?_)
  · refine (S_aload_n rfl at_42_29).trans ?_
    refine (S_getR (ka_41 L _) rfl (f_41_7 L _) at_42_30).trans ?_
    refine (S_iload_n rfl at_42_33).trans ?_
    refine (S_iconst at_42_34).trans ?_
    refine (S_imul at_42_35).trans ?_
    refine (S_iload rfl at_42_36).trans ?_
    refine (S_iadd at_42_38).trans ?_
    refine (S_aload_n rfl at_42_39).trans ?_
    refine (S_aload_n rfl at_42_40).trans ?_
    refine (S_getR (ka_41 L _) rfl (f_41_7 L _) at_42_41).trans ?_
    refine (S_iload_n rfl at_42_44).trans ?_
    refine (S_iconst at_42_45).trans ?_
    refine (S_imul at_42_46).trans ?_
    refine (S_iload rfl at_42_47).trans ?_
    refine (S_iadd at_42_49).trans ?_
    refine (H_laload (ka_44 L _) at_42_50).trans ?_
    refine ite_congr rfl (fun hi => ?_) (fun _ => rfl)
    refine (S_invv (b := 1) (by decide) kn_43 rfl (kd_41 L _) (Nat.le_of_ble_eq_true rfl) at_42_51).trans ?_
    rfl
  · exact S_ret rfl at_42_62
theorem T42_54_41 {C : Nat → List j_V → j_H → Option j_Z} {L : j_B} {m : j_M0} {x1 : Int} {x2 : Int} {x3 : Int} {x4 : Int} {s1 : Int} {t2 : Int} : j_fin C 42 54 [some (jR 41), some (jI x1), some (jI x2), some (jI x3), some (jI x4)] [jL t2, jI s1, jR 44] (hH L m) = if 0 ≤ s1 ∧ s1 < 100 then j_fin C 42 20 [some (jR 41), some (jI x1), some (jI x2), some (jI x3), some (jI (w32 (x4 + 1)))] [] (hH L (j_up m 44 s1.toNat (w64 (-t2)))) else none := by
  refine (S_lneg at_42_54).trans ?_
  refine (H_lastore (by omega) (ka_44 L _) at_42_55).trans ?_
  refine ite_congr rfl (fun hi => ?_) (fun _ => rfl)
  refine (S_iinc (l1 := [some (jR 41), some (jI x1), some (jI x2), some (jI x3), some (jI (w32 (x4 + 1)))]) rfl rfl at_42_56).trans ?_
  refine (S_goto at_42_59).trans ?_
  rfl
theorem T42_0_55 {C : Nat → List j_V → j_H → Option j_Z} {L : j_B} {m : j_M0} {x1 : Int} {x2 : Int} : j_fin C 42 0 [some (jR 55), some (jI x1), some (jI x2), none, none] [] (hH L m) = if 0 ≤ x2 ∧ x2 < 20 then (C 43 [jR 55, jL (m 59 x2.toNat)] (hH L m)).bind fun z => j_fin C 42 12 [some (jR 55), some (jI x1), some (jI x2), none, none] (z.1.toList ++ [jI x1, jR 55]) z.2 else none := by
  refine (S_aload_n rfl at_42_0).trans ?_
  refine (S_iload_n rfl at_42_1).trans ?_
  refine (S_aload_n rfl at_42_2).trans ?_
  refine (S_aload_n rfl at_42_3).trans ?_
  refine (S_getR (ka_55 L _) rfl (f_55_8 L _) at_42_4).trans ?_
  refine (S_iload_n rfl at_42_7).trans ?_
  refine (H_laload (ka_59 L _) at_42_8).trans ?_
  refine ite_congr rfl (fun hi => ?_) (fun _ => rfl)
  refine (S_invv (b := 1) (by decide) kn_43 rfl (kd_55 L _) (Nat.le_of_ble_eq_true rfl) at_42_9).trans ?_
  rfl
theorem T42_12_55 {C : Nat → List j_V → j_H → Option j_Z} {L : j_B} {m : j_M0} {x1 : Int} {x2 : Int} {s1 : Int} {t2 : Int} : j_fin C 42 12 [some (jR 55), some (jI x1), some (jI x2), none, none] [jL t2, jI s1, jR 55] (hH L m) = (C 39 [jR 55, jI s1, jL (w64 (-t2))] (hH L m)).bind fun z => j_fin C 42 16 [some (jR 55), some (jI x1), some (jI x2), none, none] (z.1.toList ++ []) z.2 := by
  refine (S_lneg at_42_12).trans ?_
  refine (S_invv (b := 2) (by decide) kn_39 rfl (kd_55 L _) (Nat.le_of_ble_eq_true rfl) at_42_13).trans ?_
  rfl
theorem T42_16_55 {C : Nat → List j_V → j_H → Option j_Z} {L : j_B} {m : j_M0} {x1 : Int} {x2 : Int} {s0 : Int} : j_fin C 42 16 [some (jR 55), some (jI x1), some (jI x2), none, none] [jI s0] (hH L m) = j_fin C 42 20 [some (jR 55), some (jI x1), some (jI x2), some (jI s0), some (jI 0)] [] (hH L m) := by
  refine (S_istore_n (l1 := [some (jR 55), some (jI x1), some (jI x2), some (jI s0), none]) rfl at_42_16).trans ?_
  refine (S_iconst at_42_17).trans ?_
  refine (S_istore (l1 := [some (jR 55), some (jI x1), some (jI x2), some (jI s0), some (jI 0)]) rfl at_42_18).trans ?_
  rfl
theorem T42_20_55 {C : Nat → List j_V → j_H → Option j_Z} {L : j_B} {m : j_M0} {x1 : Int} {x2 : Int} {x3 : Int} {x4 : Int} : j_fin C 42 20 [some (jR 55), some (jI x1), some (jI x2), some (jI x3), some (jI x4)] [] (hH L m) = if x4 < (m 55 1) then if 0 ≤ (w32 ((w32 (x2 * 5)) + x4)) ∧ (w32 ((w32 (x2 * 5)) + x4)) < 100 then (C 43 [jR 55, jL (m 58 (w32 ((w32 (x2 * 5)) + x4)).toNat)] (hH L m)).bind fun z => j_fin C 42 54 [some (jR 55), some (jI x1), some (jI x2), some (jI x3), some (jI x4)] (z.1.toList ++ [jI (w32 ((w32 (x3 * 5)) + x4)), jR 58]) z.2 else none else some (none, hH L m) := by
  refine (S_iload rfl at_42_20).trans ?_
  refine (S_aload_n rfl at_42_22).trans ?_
  refine (H_get0 (ka_55 L _) rfl at_42_23).trans ?_
  refine (S_icmp_ge at_42_26).trans ?_
  refine ite_congr rfl (fun _ => ?_) (fun _ => ?_)
  · refine (S_aload_n rfl at_42_29).trans ?_
    refine (S_getR (ka_55 L _) rfl (f_55_7 L _) at_42_30).trans ?_
    refine (S_iload_n rfl at_42_33).trans ?_
    refine (S_iconst at_42_34).trans ?_
    refine (S_imul at_42_35).trans ?_
    refine (S_iload rfl at_42_36).trans ?_
    refine (S_iadd at_42_38).trans ?_
    refine (S_aload_n rfl at_42_39).trans ?_
    refine (S_aload_n rfl at_42_40).trans ?_
    refine (S_getR (ka_55 L _) rfl (f_55_7 L _) at_42_41).trans ?_
    refine (S_iload_n rfl at_42_44).trans ?_
    refine (S_iconst at_42_45).trans ?_
    refine (S_imul at_42_46).trans ?_
    refine (S_iload rfl at_42_47).trans ?_
    refine (S_iadd at_42_49).trans ?_
    refine (H_laload (ka_58 L _) at_42_50).trans ?_
    refine ite_congr rfl (fun hi => ?_) (fun _ => rfl)
    refine (S_invv (b := 1) (by decide) kn_43 rfl (kd_55 L _) (Nat.le_of_ble_eq_true rfl) at_42_51).trans ?_
    rfl
  · exact S_ret rfl at_42_62
theorem T42_54_55 {C : Nat → List j_V → j_H → Option j_Z} {L : j_B} {m : j_M0} {x1 : Int} {x2 : Int} {x3 : Int} {x4 : Int} {s1 : Int} {t2 : Int} : j_fin C 42 54 [some (jR 55), some (jI x1), some (jI x2), some (jI x3), some (jI x4)] [jL t2, jI s1, jR 58] (hH L m) = if 0 ≤ s1 ∧ s1 < 100 then j_fin C 42 20 [some (jR 55), some (jI x1), some (jI x2), some (jI x3), some (jI (w32 (x4 + 1)))] [] (hH L (j_up m 58 s1.toNat (w64 (-t2)))) else none := by
  refine (S_lneg at_42_54).trans ?_
  refine (H_lastore (by omega) (ka_58 L _) at_42_55).trans ?_
  refine ite_congr rfl (fun hi => ?_) (fun _ => rfl)
  refine (S_iinc (l1 := [some (jR 55), some (jI x1), some (jI x2), some (jI x3), some (jI (w32 (x4 + 1)))]) rfl rfl at_42_56).trans ?_
  refine (S_goto at_42_59).trans ?_
  rfl
theorem T43_0_41 {C : Nat → List j_V → j_H → Option j_Z} {L : j_B} {m : j_M0} {y1 : Int} : j_fin C 43 0 [some (jR 41), some (jL y1), none] [] (hH L m) = if 0 < (j_cmp (m 41 4) 0) then (C 266 [jL y1, jL (m 41 4)] (hH L m)).bind fun z => j_fin C 43 17 [some (jR 41), some (jL y1), none] (z.1.toList ++ []) z.2 else some (some (jL 0), hH L m) := by
  refine (S_aload_n rfl at_43_0).trans ?_
  refine (H_get1 (ka_41 L _) rfl at_43_1).trans ?_
  refine (S_lconst at_43_4).trans ?_
  refine (S_lcmp at_43_5).trans ?_
  refine (S_if_le at_43_6).trans ?_
  refine ite_congr rfl (fun _ => ?_) (fun _ => ?_)
  · refine (S_lload_n rfl at_43_9).trans ?_
    refine (S_aload_n rfl at_43_10).trans ?_
    refine (H_get1 (ka_41 L _) rfl at_43_11).trans ?_
    refine (S_invs (by decide) (Nat.le_of_ble_eq_true rfl) (Nat.le_of_ble_eq_true rfl) at_43_14).trans ?_
    rfl
  · refine (S_lconst at_43_20).trans ?_
    exact S_lret rfl at_43_21
theorem T43_17_41 {C : Nat → List j_V → j_H → Option j_Z} {L : j_B} {m : j_M0} {y1 : Int} {t0 : Int} : j_fin C 43 17 [some (jR 41), some (jL y1), none] [jL t0] (hH L m) = some (some (jL t0), hH L m) := by
  refine (S_goto at_43_17).trans ?_
  exact S_lret rfl at_43_21
theorem T43_0_55 {C : Nat → List j_V → j_H → Option j_Z} {L : j_B} {m : j_M0} {y1 : Int} : j_fin C 43 0 [some (jR 55), some (jL y1), none] [] (hH L m) = if 0 < (j_cmp (m 55 4) 0) then (C 266 [jL y1, jL (m 55 4)] (hH L m)).bind fun z => j_fin C 43 17 [some (jR 55), some (jL y1), none] (z.1.toList ++ []) z.2 else some (some (jL 0), hH L m) := by
  refine (S_aload_n rfl at_43_0).trans ?_
  refine (H_get1 (ka_55 L _) rfl at_43_1).trans ?_
  refine (S_lconst at_43_4).trans ?_
  refine (S_lcmp at_43_5).trans ?_
  refine (S_if_le at_43_6).trans ?_
  refine ite_congr rfl (fun _ => ?_) (fun _ => ?_)
  · refine (S_lload_n rfl at_43_9).trans ?_
    refine (S_aload_n rfl at_43_10).trans ?_
    refine (H_get1 (ka_55 L _) rfl at_43_11).trans ?_
    refine (S_invs (by decide) (Nat.le_of_ble_eq_true rfl) (Nat.le_of_ble_eq_true rfl) at_43_14).trans ?_
    rfl
  · refine (S_lconst at_43_20).trans ?_
    exact S_lret rfl at_43_21
theorem T43_17_55 {C : Nat → List j_V → j_H → Option j_Z} {L : j_B} {m : j_M0} {y1 : Int} {t0 : Int} : j_fin C 43 17 [some (jR 55), some (jL y1), none] [jL t0] (hH L m) = some (some (jL t0), hH L m) := by
  refine (S_goto at_43_17).trans ?_
  exact S_lret rfl at_43_21
theorem T44_0_41 {C : Nat → List j_V → j_H → Option j_Z} {L : j_B} {m : j_M0} {y1 : Int} : j_fin C 44 0 [some (jR 41), some (jL y1), none] [] (hH L m) = if 0 < (j_cmp (m 41 4) 0) then (C 265 [jL y1, jL (m 41 4)] (hH L m)).bind fun z => j_fin C 44 17 [some (jR 41), some (jL y1), none] (z.1.toList ++ []) z.2 else some (some (jL 0), hH L m) := by
  refine (S_aload_n rfl at_44_0).trans ?_
  refine (H_get1 (ka_41 L _) rfl at_44_1).trans ?_
  refine (S_lconst at_44_4).trans ?_
  refine (S_lcmp at_44_5).trans ?_
  refine (S_if_le at_44_6).trans ?_
  refine ite_congr rfl (fun _ => ?_) (fun _ => ?_)
  · refine (S_lload_n rfl at_44_9).trans ?_
    refine (S_aload_n rfl at_44_10).trans ?_
    refine (H_get1 (ka_41 L _) rfl at_44_11).trans ?_
    refine (S_invs (by decide) (Nat.le_of_ble_eq_true rfl) (Nat.le_of_ble_eq_true rfl) at_44_14).trans ?_
    rfl
  · refine (S_lconst at_44_20).trans ?_
    exact S_lret rfl at_44_21
theorem T44_17_41 {C : Nat → List j_V → j_H → Option j_Z} {L : j_B} {m : j_M0} {y1 : Int} {t0 : Int} : j_fin C 44 17 [some (jR 41), some (jL y1), none] [jL t0] (hH L m) = some (some (jL t0), hH L m) := by
  refine (S_goto at_44_17).trans ?_
  exact S_lret rfl at_44_21
theorem T44_0_55 {C : Nat → List j_V → j_H → Option j_Z} {L : j_B} {m : j_M0} {y1 : Int} : j_fin C 44 0 [some (jR 55), some (jL y1), none] [] (hH L m) = if 0 < (j_cmp (m 55 4) 0) then (C 265 [jL y1, jL (m 55 4)] (hH L m)).bind fun z => j_fin C 44 17 [some (jR 55), some (jL y1), none] (z.1.toList ++ []) z.2 else some (some (jL 0), hH L m) := by
  refine (S_aload_n rfl at_44_0).trans ?_
  refine (H_get1 (ka_55 L _) rfl at_44_1).trans ?_
  refine (S_lconst at_44_4).trans ?_
  refine (S_lcmp at_44_5).trans ?_
  refine (S_if_le at_44_6).trans ?_
  refine ite_congr rfl (fun _ => ?_) (fun _ => ?_)
  · refine (S_lload_n rfl at_44_9).trans ?_
    refine (S_aload_n rfl at_44_10).trans ?_
    refine (H_get1 (ka_55 L _) rfl at_44_11).trans ?_
    refine (S_invs (by decide) (Nat.le_of_ble_eq_true rfl) (Nat.le_of_ble_eq_true rfl) at_44_14).trans ?_
    rfl
  · refine (S_lconst at_44_20).trans ?_
    exact S_lret rfl at_44_21
theorem T44_17_55 {C : Nat → List j_V → j_H → Option j_Z} {L : j_B} {m : j_M0} {y1 : Int} {t0 : Int} : j_fin C 44 17 [some (jR 55), some (jL y1), none] [jL t0] (hH L m) = some (some (jL t0), hH L m) := by
  refine (S_goto at_44_17).trans ?_
  exact S_lret rfl at_44_21
theorem T45_0_41 {C : Nat → List j_V → j_H → Option j_Z} {L : j_B} {m : j_M0} : j_fin C 45 0 [some (jR 41), none, none, none] [] (hH L m) = j_fin C 45 2 [some (jR 41), some (jI 0), none, none] [] (hH L m) := by
  refine (S_iconst at_45_0).trans ?_
  refine (S_istore_n (l1 := [some (jR 41), some (jI 0), none, none]) rfl at_45_1).trans ?_
  rfl
theorem T45_2_41 {C : Nat → List j_V → j_H → Option j_Z} {L : j_B} {m : j_M0} {x1 : Int} {o2 : Option j_V} {o3 : Option j_V} : j_fin C 45 2 [some (jR 41), some (jI x1), o2, o3] [] (hH L m) = if 60 < x1 then some (some (jI (-6)), hH L m) else (C 46 [jR 41] (hH L m)).bind fun z => j_fin C 45 12 [some (jR 41), some (jI x1), o2, o3] (z.1.toList ++ []) z.2 := by
  refine (S_iload_n rfl at_45_2).trans ?_
  refine (S_bipush at_45_3).trans ?_
  refine (S_icmp_gt at_45_5).trans ?_
  refine ite_congr rfl (fun _ => ?_) (fun _ => ?_)
  · refine (S_bipush at_45_58).trans ?_
    exact S_ireti rfl at_45_60
  · refine (S_aload_n rfl at_45_8).trans ?_
    refine (S_invv (b := 0) (by decide) kn_46 rfl (kd_41 L _) (Nat.le_of_ble_eq_true rfl) at_45_9).trans ?_
    rfl
theorem T45_12_41 {C : Nat → List j_V → j_H → Option j_Z} {L : j_B} {m : j_M0} {x1 : Int} {o2 : Option j_V} {o3 : Option j_V} {s0 : Int} : j_fin C 45 12 [some (jR 41), some (jI x1), o2, o3] [jI s0] (hH L m) = if s0 < 0 then some (some (jI 3), hH L m) else (C 47 [jR 41, jI s0] (hH L m)).bind fun z => j_fin C 45 24 [some (jR 41), some (jI x1), some (jI s0), o3] (z.1.toList ++ []) z.2 := by
  refine (S_istore_n (l1 := [some (jR 41), some (jI x1), some (jI s0), o3]) rfl at_45_12).trans ?_
  refine (S_iload_n rfl at_45_13).trans ?_
  refine (S_if_ge at_45_14).trans ?_
  refine ite_congr rfl (fun _ => ?_) (fun _ => ?_)
  · refine (S_iconst at_45_17).trans ?_
    exact S_ireti rfl at_45_18
  · refine (S_aload_n rfl at_45_19).trans ?_
    refine (S_iload_n rfl at_45_20).trans ?_
    refine (S_invv (b := 1) (by decide) kn_47 rfl (kd_41 L _) (Nat.le_of_ble_eq_true rfl) at_45_21).trans ?_
    rfl
theorem T45_24_41 {C : Nat → List j_V → j_H → Option j_Z} {L : j_B} {m : j_M0} {x1 : Int} {x2 : Int} {o3 : Option j_V} {s0 : Int} : j_fin C 45 24 [some (jR 41), some (jI x1), some (jI x2), o3] [jI s0] (hH L m) = if s0 < 0 then some (some (jI 0), hH L m) else if (m 41 2) < 60 then (C 49 [jR 41, jI x2, jI s0] (hH L m)).bind fun z => j_fin C 45 46 [some (jR 41), some (jI x1), some (jI x2), some (jI s0)] (z.1.toList ++ []) z.2 else some (some (jI (-6)), hH L m) := by
  refine (S_istore_n (l1 := [some (jR 41), some (jI x1), some (jI x2), some (jI s0)]) rfl at_45_24).trans ?_
  refine (S_iload_n rfl at_45_25).trans ?_
  refine (S_if_ge at_45_26).trans ?_
  refine ite_congr rfl (fun _ => ?_) (fun _ => ?_)
  · refine (S_iconst at_45_29).trans ?_
    exact S_ireti rfl at_45_30
  · refine (S_aload_n rfl at_45_31).trans ?_
    refine (H_get0 (ka_41 L _) rfl at_45_32).trans ?_
    refine (S_bipush at_45_35).trans ?_
    refine (S_icmp_ge at_45_37).trans ?_
    refine ite_congr rfl (fun _ => ?_) (fun _ => ?_)
    · refine (S_aload_n rfl at_45_40).trans ?_
      refine (S_iload_n rfl at_45_41).trans ?_
      refine (S_iload_n rfl at_45_42).trans ?_
      refine (S_invv (b := 2) (by decide) kn_49 rfl (kd_41 L _) (Nat.le_of_ble_eq_true rfl) at_45_43).trans ?_
      rfl
    · refine (S_bipush at_45_49).trans ?_
      exact S_ireti rfl at_45_51
theorem T45_46_41 {C : Nat → List j_V → j_H → Option j_Z} {L : j_B} {m : j_M0} {x1 : Int} {x2 : Int} {x3 : Int} {s0 : Int} : j_fin C 45 46 [some (jR 41), some (jI x1), some (jI x2), some (jI x3)] [jI s0] (hH L m) = if s0 = 0 then some (some (jI (-6)), hH L m) else j_fin C 45 2 [some (jR 41), some (jI (w32 (x1 + 1))), some (jI x2), some (jI x3)] [] (hH L m) := by
  refine (S_if_ne at_45_46).trans ?_
  refine ite_congr rfl (fun _ => ?_) (fun _ => ?_)
  · refine (S_bipush at_45_49).trans ?_
    exact S_ireti rfl at_45_51
  · refine (S_iinc (l1 := [some (jR 41), some (jI (w32 (x1 + 1))), some (jI x2), some (jI x3)]) rfl rfl at_45_52).trans ?_
    refine (S_goto at_45_55).trans ?_
    rfl
theorem T45_0_55 {C : Nat → List j_V → j_H → Option j_Z} {L : j_B} {m : j_M0} : j_fin C 45 0 [some (jR 55), none, none, none] [] (hH L m) = j_fin C 45 2 [some (jR 55), some (jI 0), none, none] [] (hH L m) := by
  refine (S_iconst at_45_0).trans ?_
  refine (S_istore_n (l1 := [some (jR 55), some (jI 0), none, none]) rfl at_45_1).trans ?_
  rfl
theorem T45_2_55 {C : Nat → List j_V → j_H → Option j_Z} {L : j_B} {m : j_M0} {x1 : Int} {o2 : Option j_V} {o3 : Option j_V} : j_fin C 45 2 [some (jR 55), some (jI x1), o2, o3] [] (hH L m) = if 60 < x1 then some (some (jI (-6)), hH L m) else (C 46 [jR 55] (hH L m)).bind fun z => j_fin C 45 12 [some (jR 55), some (jI x1), o2, o3] (z.1.toList ++ []) z.2 := by
  refine (S_iload_n rfl at_45_2).trans ?_
  refine (S_bipush at_45_3).trans ?_
  refine (S_icmp_gt at_45_5).trans ?_
  refine ite_congr rfl (fun _ => ?_) (fun _ => ?_)
  · refine (S_bipush at_45_58).trans ?_
    exact S_ireti rfl at_45_60
  · refine (S_aload_n rfl at_45_8).trans ?_
    refine (S_invv (b := 0) (by decide) kn_46 rfl (kd_55 L _) (Nat.le_of_ble_eq_true rfl) at_45_9).trans ?_
    rfl
theorem T45_12_55 {C : Nat → List j_V → j_H → Option j_Z} {L : j_B} {m : j_M0} {x1 : Int} {o2 : Option j_V} {o3 : Option j_V} {s0 : Int} : j_fin C 45 12 [some (jR 55), some (jI x1), o2, o3] [jI s0] (hH L m) = if s0 < 0 then some (some (jI 3), hH L m) else (C 47 [jR 55, jI s0] (hH L m)).bind fun z => j_fin C 45 24 [some (jR 55), some (jI x1), some (jI s0), o3] (z.1.toList ++ []) z.2 := by
  refine (S_istore_n (l1 := [some (jR 55), some (jI x1), some (jI s0), o3]) rfl at_45_12).trans ?_
  refine (S_iload_n rfl at_45_13).trans ?_
  refine (S_if_ge at_45_14).trans ?_
  refine ite_congr rfl (fun _ => ?_) (fun _ => ?_)
  · refine (S_iconst at_45_17).trans ?_
    exact S_ireti rfl at_45_18
  · refine (S_aload_n rfl at_45_19).trans ?_
    refine (S_iload_n rfl at_45_20).trans ?_
    refine (S_invv (b := 1) (by decide) kn_47 rfl (kd_55 L _) (Nat.le_of_ble_eq_true rfl) at_45_21).trans ?_
    rfl
theorem T45_24_55 {C : Nat → List j_V → j_H → Option j_Z} {L : j_B} {m : j_M0} {x1 : Int} {x2 : Int} {o3 : Option j_V} {s0 : Int} : j_fin C 45 24 [some (jR 55), some (jI x1), some (jI x2), o3] [jI s0] (hH L m) = if s0 < 0 then some (some (jI 0), hH L m) else if (m 55 2) < 60 then (C 49 [jR 55, jI x2, jI s0] (hH L m)).bind fun z => j_fin C 45 46 [some (jR 55), some (jI x1), some (jI x2), some (jI s0)] (z.1.toList ++ []) z.2 else some (some (jI (-6)), hH L m) := by
  refine (S_istore_n (l1 := [some (jR 55), some (jI x1), some (jI x2), some (jI s0)]) rfl at_45_24).trans ?_
  refine (S_iload_n rfl at_45_25).trans ?_
  refine (S_if_ge at_45_26).trans ?_
  refine ite_congr rfl (fun _ => ?_) (fun _ => ?_)
  · refine (S_iconst at_45_29).trans ?_
    exact S_ireti rfl at_45_30
  · refine (S_aload_n rfl at_45_31).trans ?_
    refine (H_get0 (ka_55 L _) rfl at_45_32).trans ?_
    refine (S_bipush at_45_35).trans ?_
    refine (S_icmp_ge at_45_37).trans ?_
    refine ite_congr rfl (fun _ => ?_) (fun _ => ?_)
    · refine (S_aload_n rfl at_45_40).trans ?_
      refine (S_iload_n rfl at_45_41).trans ?_
      refine (S_iload_n rfl at_45_42).trans ?_
      refine (S_invv (b := 2) (by decide) kn_49 rfl (kd_55 L _) (Nat.le_of_ble_eq_true rfl) at_45_43).trans ?_
      rfl
    · refine (S_bipush at_45_49).trans ?_
      exact S_ireti rfl at_45_51
theorem T45_46_55 {C : Nat → List j_V → j_H → Option j_Z} {L : j_B} {m : j_M0} {x1 : Int} {x2 : Int} {x3 : Int} {s0 : Int} : j_fin C 45 46 [some (jR 55), some (jI x1), some (jI x2), some (jI x3)] [jI s0] (hH L m) = if s0 = 0 then some (some (jI (-6)), hH L m) else j_fin C 45 2 [some (jR 55), some (jI (w32 (x1 + 1))), some (jI x2), some (jI x3)] [] (hH L m) := by
  refine (S_if_ne at_45_46).trans ?_
  refine ite_congr rfl (fun _ => ?_) (fun _ => ?_)
  · refine (S_bipush at_45_49).trans ?_
    exact S_ireti rfl at_45_51
  · refine (S_iinc (l1 := [some (jR 55), some (jI (w32 (x1 + 1))), some (jI x2), some (jI x3)]) rfl rfl at_45_52).trans ?_
    refine (S_goto at_45_55).trans ?_
    rfl
theorem T46_0_41 {C : Nat → List j_V → j_H → Option j_Z} {L : j_B} {m : j_M0} : j_fin C 46 0 [some (jR 41), none, none] [] (hH L m) = j_fin C 46 4 [some (jR 41), some (jI (-1)), some (jI 0)] [] (hH L m) := by
  refine (S_iconst at_46_0).trans ?_
  refine (S_istore_n (l1 := [some (jR 41), some (jI (-1)), none]) rfl at_46_1).trans ?_
  refine (S_iconst at_46_2).trans ?_
  refine (S_istore_n (l1 := [some (jR 41), some (jI (-1)), some (jI 0)]) rfl at_46_3).trans ?_
  rfl
theorem T46_4_41 {C : Nat → List j_V → j_H → Option j_Z} {L : j_B} {m : j_M0} {x1 : Int} {x2 : Int} : j_fin C 46 4 [some (jR 41), some (jI x1), some (jI x2)] [] (hH L m) = if x2 < (m 41 0) then if 0 ≤ x2 ∧ x2 < 20 then if (j_cmp (m 45 x2.toNat) 0) < 0 then if x1 < 0 then j_fin C 46 4 [some (jR 41), some (jI x2), some (jI (w32 (x2 + 1)))] [] (hH L m) else if 0 ≤ x2 ∧ x2 < 20 then if 0 ≤ x1 ∧ x1 < 20 then if (j_cmp (m 45 x2.toNat) (m 45 x1.toNat)) < 0 then j_fin C 46 4 [some (jR 41), some (jI x2), some (jI (w32 (x2 + 1)))] [] (hH L m) else j_fin C 46 4 [some (jR 41), some (jI x1), some (jI (w32 (x2 + 1)))] [] (hH L m) else none else none else j_fin C 46 4 [some (jR 41), some (jI x1), some (jI (w32 (x2 + 1)))] [] (hH L m) else none else some (some (jI x1), hH L m) := by
  refine (S_iload_n rfl at_46_4).trans ?_
  refine (S_aload_n rfl at_46_5).trans ?_
  refine (H_get0 (ka_41 L _) rfl at_46_6).trans ?_
  refine (S_icmp_ge at_46_9).trans ?_
  refine ite_congr rfl (fun _ => ?_) (fun _ => ?_)
  · refine (S_aload_n rfl at_46_12).trans ?_
    refine (S_getR (ka_41 L _) rfl (f_41_8 L _) at_46_13).trans ?_
    refine (S_iload_n rfl at_46_16).trans ?_
    refine (H_laload (ka_45 L _) at_46_17).trans ?_
    refine ite_congr rfl (fun hi => ?_) (fun _ => rfl)
    refine (S_lconst at_46_18).trans ?_
    refine (S_lcmp at_46_19).trans ?_
    refine (S_if_ge at_46_20).trans ?_
    refine ite_congr rfl (fun _ => ?_) (fun _ => ?_)
    · refine (S_iload_n rfl at_46_23).trans ?_
      refine (S_if_lt at_46_24).trans ?_
      refine ite_congr rfl (fun _ => ?_) (fun _ => ?_)
      · refine (S_iload_n rfl at_46_43).trans ?_
        refine (S_istore_n (l1 := [some (jR 41), some (jI x2), some (jI x2)]) rfl at_46_44).trans ?_
        refine (S_iinc (l1 := [some (jR 41), some (jI x2), some (jI (w32 (x2 + 1)))]) rfl rfl at_46_45).trans ?_
        refine (S_goto at_46_48).trans ?_
        rfl
      · refine (S_aload_n rfl at_46_27).trans ?_
        refine (S_getR (ka_41 L _) rfl (f_41_8 L _) at_46_28).trans ?_
        refine (S_iload_n rfl at_46_31).trans ?_
        refine (H_laload (ka_45 L _) at_46_32).trans ?_
        refine ite_congr rfl (fun hi => ?_) (fun _ => rfl)
        refine (S_aload_n rfl at_46_33).trans ?_
        refine (S_getR (ka_41 L _) rfl (f_41_8 L _) at_46_34).trans ?_
        refine (S_iload_n rfl at_46_37).trans ?_
        refine (H_laload (ka_45 L _) at_46_38).trans ?_
        refine ite_congr rfl (fun hi => ?_) (fun _ => rfl)
        refine (S_lcmp at_46_39).trans ?_
        refine (S_if_ge at_46_40).trans ?_
        refine ite_congr rfl (fun _ => ?_) (fun _ => ?_)
        · refine (S_iload_n rfl at_46_43).trans ?_
          refine (S_istore_n (l1 := [some (jR 41), some (jI x2), some (jI x2)]) rfl at_46_44).trans ?_
          refine (S_iinc (l1 := [some (jR 41), some (jI x2), some (jI (w32 (x2 + 1)))]) rfl rfl at_46_45).trans ?_
          refine (S_goto at_46_48).trans ?_
          rfl
        · refine (S_iinc (l1 := [some (jR 41), some (jI x1), some (jI (w32 (x2 + 1)))]) rfl rfl at_46_45).trans ?_
          refine (S_goto at_46_48).trans ?_
          rfl
    · refine (S_iinc (l1 := [some (jR 41), some (jI x1), some (jI (w32 (x2 + 1)))]) rfl rfl at_46_45).trans ?_
      refine (S_goto at_46_48).trans ?_
      rfl
  · refine (S_iload_n rfl at_46_51).trans ?_
    exact S_ireti rfl at_46_52
theorem T46_0_55 {C : Nat → List j_V → j_H → Option j_Z} {L : j_B} {m : j_M0} : j_fin C 46 0 [some (jR 55), none, none] [] (hH L m) = j_fin C 46 4 [some (jR 55), some (jI (-1)), some (jI 0)] [] (hH L m) := by
  refine (S_iconst at_46_0).trans ?_
  refine (S_istore_n (l1 := [some (jR 55), some (jI (-1)), none]) rfl at_46_1).trans ?_
  refine (S_iconst at_46_2).trans ?_
  refine (S_istore_n (l1 := [some (jR 55), some (jI (-1)), some (jI 0)]) rfl at_46_3).trans ?_
  rfl
theorem T46_4_55 {C : Nat → List j_V → j_H → Option j_Z} {L : j_B} {m : j_M0} {x1 : Int} {x2 : Int} : j_fin C 46 4 [some (jR 55), some (jI x1), some (jI x2)] [] (hH L m) = if x2 < (m 55 0) then if 0 ≤ x2 ∧ x2 < 20 then if (j_cmp (m 59 x2.toNat) 0) < 0 then if x1 < 0 then j_fin C 46 4 [some (jR 55), some (jI x2), some (jI (w32 (x2 + 1)))] [] (hH L m) else if 0 ≤ x2 ∧ x2 < 20 then if 0 ≤ x1 ∧ x1 < 20 then if (j_cmp (m 59 x2.toNat) (m 59 x1.toNat)) < 0 then j_fin C 46 4 [some (jR 55), some (jI x2), some (jI (w32 (x2 + 1)))] [] (hH L m) else j_fin C 46 4 [some (jR 55), some (jI x1), some (jI (w32 (x2 + 1)))] [] (hH L m) else none else none else j_fin C 46 4 [some (jR 55), some (jI x1), some (jI (w32 (x2 + 1)))] [] (hH L m) else none else some (some (jI x1), hH L m) := by
  refine (S_iload_n rfl at_46_4).trans ?_
  refine (S_aload_n rfl at_46_5).trans ?_
  refine (H_get0 (ka_55 L _) rfl at_46_6).trans ?_
  refine (S_icmp_ge at_46_9).trans ?_
  refine ite_congr rfl (fun _ => ?_) (fun _ => ?_)
  · refine (S_aload_n rfl at_46_12).trans ?_
    refine (S_getR (ka_55 L _) rfl (f_55_8 L _) at_46_13).trans ?_
    refine (S_iload_n rfl at_46_16).trans ?_
    refine (H_laload (ka_59 L _) at_46_17).trans ?_
    refine ite_congr rfl (fun hi => ?_) (fun _ => rfl)
    refine (S_lconst at_46_18).trans ?_
    refine (S_lcmp at_46_19).trans ?_
    refine (S_if_ge at_46_20).trans ?_
    refine ite_congr rfl (fun _ => ?_) (fun _ => ?_)
    · refine (S_iload_n rfl at_46_23).trans ?_
      refine (S_if_lt at_46_24).trans ?_
      refine ite_congr rfl (fun _ => ?_) (fun _ => ?_)
      · refine (S_iload_n rfl at_46_43).trans ?_
        refine (S_istore_n (l1 := [some (jR 55), some (jI x2), some (jI x2)]) rfl at_46_44).trans ?_
        refine (S_iinc (l1 := [some (jR 55), some (jI x2), some (jI (w32 (x2 + 1)))]) rfl rfl at_46_45).trans ?_
        refine (S_goto at_46_48).trans ?_
        rfl
      · refine (S_aload_n rfl at_46_27).trans ?_
        refine (S_getR (ka_55 L _) rfl (f_55_8 L _) at_46_28).trans ?_
        refine (S_iload_n rfl at_46_31).trans ?_
        refine (H_laload (ka_59 L _) at_46_32).trans ?_
        refine ite_congr rfl (fun hi => ?_) (fun _ => rfl)
        refine (S_aload_n rfl at_46_33).trans ?_
        refine (S_getR (ka_55 L _) rfl (f_55_8 L _) at_46_34).trans ?_
        refine (S_iload_n rfl at_46_37).trans ?_
        refine (H_laload (ka_59 L _) at_46_38).trans ?_
        refine ite_congr rfl (fun hi => ?_) (fun _ => rfl)
        refine (S_lcmp at_46_39).trans ?_
        refine (S_if_ge at_46_40).trans ?_
        refine ite_congr rfl (fun _ => ?_) (fun _ => ?_)
        · refine (S_iload_n rfl at_46_43).trans ?_
          refine (S_istore_n (l1 := [some (jR 55), some (jI x2), some (jI x2)]) rfl at_46_44).trans ?_
          refine (S_iinc (l1 := [some (jR 55), some (jI x2), some (jI (w32 (x2 + 1)))]) rfl rfl at_46_45).trans ?_
          refine (S_goto at_46_48).trans ?_
          rfl
        · refine (S_iinc (l1 := [some (jR 55), some (jI x1), some (jI (w32 (x2 + 1)))]) rfl rfl at_46_45).trans ?_
          refine (S_goto at_46_48).trans ?_
          rfl
    · refine (S_iinc (l1 := [some (jR 55), some (jI x1), some (jI (w32 (x2 + 1)))]) rfl rfl at_46_45).trans ?_
      refine (S_goto at_46_48).trans ?_
      rfl
  · refine (S_iload_n rfl at_46_51).trans ?_
    exact S_ireti rfl at_46_52
theorem T47_0_41 {C : Nat → List j_V → j_H → Option j_Z} {L : j_B} {m : j_M0} {x1 : Int} : j_fin C 47 0 [some (jR 41), some (jI x1), none, none] [] (hH L m) = j_fin C 47 4 [some (jR 41), some (jI x1), some (jI (-1)), some (jI 0)] [] (hH L m) := by
  refine (S_iconst at_47_0).trans ?_
  refine (S_istore_n (l1 := [some (jR 41), some (jI x1), some (jI (-1)), none]) rfl at_47_1).trans ?_
  refine (S_iconst at_47_2).trans ?_
  refine (S_istore_n (l1 := [some (jR 41), some (jI x1), some (jI (-1)), some (jI 0)]) rfl at_47_3).trans ?_
  rfl
theorem T47_4_41 {C : Nat → List j_V → j_H → Option j_Z} {L : j_B} {m : j_M0} {x1 : Int} {x2 : Int} {x3 : Int} : j_fin C 47 4 [some (jR 41), some (jI x1), some (jI x2), some (jI x3)] [] (hH L m) = if x3 < (m 41 1) then if 0 ≤ (w32 ((w32 (x1 * 5)) + x3)) ∧ (w32 ((w32 (x1 * 5)) + x3)) < 100 then if (j_cmp (m 44 (w32 ((w32 (x1 * 5)) + x3)).toNat) 0) < 0 then if x2 < 0 then j_fin C 47 4 [some (jR 41), some (jI x1), some (jI x3), some (jI (w32 (x3 + 1)))] [] (hH L m) else (C 48 [jR 41, jI x1, jI x3, jI x2] (hH L m)).bind fun z => j_fin C 47 41 [some (jR 41), some (jI x1), some (jI x2), some (jI x3)] (z.1.toList ++ []) z.2 else j_fin C 47 4 [some (jR 41), some (jI x1), some (jI x2), some (jI (w32 (x3 + 1)))] [] (hH L m) else none else some (some (jI x2), hH L m) := by
  refine (S_iload_n rfl at_47_4).trans ?_
  refine (S_aload_n rfl at_47_5).trans ?_
  refine (H_get0 (ka_41 L _) rfl at_47_6).trans ?_
  refine (S_icmp_ge at_47_9).trans ?_
  refine ite_congr rfl (fun _ => ?_) (fun _ => ?_)
  · refine (S_aload_n rfl at_47_12).trans ?_
    refine (S_getR (ka_41 L _) rfl (f_41_7 L _) at_47_13).trans ?_
    refine (S_iload_n rfl at_47_16).trans ?_
    refine (S_iconst at_47_17).trans ?_
    refine (S_imul at_47_18).trans ?_
    refine (S_iload_n rfl at_47_19).trans ?_
    refine (S_iadd at_47_20).trans ?_
    refine (H_laload (ka_44 L _) at_47_21).trans ?_
    refine ite_congr rfl (fun hi => ?_) (fun _ => rfl)
    refine (S_lconst at_47_22).trans ?_
    refine (S_lcmp at_47_23).trans ?_
    refine (S_if_lt at_47_24).trans ?_
    refine ite_congr rfl (fun _ => ?_) (fun _ => ?_)
    · refine (S_iload_n rfl at_47_30).trans ?_
      refine (S_if_lt at_47_31).trans ?_
      refine ite_congr rfl (fun _ => ?_) (fun _ => ?_)
      · refine (S_iload_n rfl at_47_44).trans ?_
        refine (S_istore_n (l1 := [some (jR 41), some (jI x1), some (jI x3), some (jI x3)]) rfl at_47_45).trans ?_
        refine (S_iinc (l1 := [some (jR 41), some (jI x1), some (jI x3), some (jI (w32 (x3 + 1)))]) rfl rfl at_47_46).trans ?_
        refine (S_goto at_47_49).trans ?_
        rfl
      · refine (S_aload_n rfl at_47_34).trans ?_
        refine (S_iload_n rfl at_47_35).trans ?_
        refine (S_iload_n rfl at_47_36).trans ?_
        refine (S_iload_n rfl at_47_37).trans ?_
        refine (S_invv (b := 3) (by decide) kn_48 rfl (kd_41 L _) (Nat.le_of_ble_eq_true rfl) at_47_38).trans ?_
        rfl
    · refine (S_goto at_47_27).trans ?_
      refine (S_iinc (l1 := [some (jR 41), some (jI x1), some (jI x2), some (jI (w32 (x3 + 1)))]) rfl rfl at_47_46).trans ?_
      refine (S_goto at_47_49).trans ?_
      rfl
  · refine (S_iload_n rfl at_47_52).trans ?_
    exact S_ireti rfl at_47_53
theorem T47_41_41 {C : Nat → List j_V → j_H → Option j_Z} {L : j_B} {m : j_M0} {x1 : Int} {x2 : Int} {x3 : Int} {s0 : Int} : j_fin C 47 41 [some (jR 41), some (jI x1), some (jI x2), some (jI x3)] [jI s0] (hH L m) = if s0 = 0 then j_fin C 47 4 [some (jR 41), some (jI x1), some (jI x2), some (jI (w32 (x3 + 1)))] [] (hH L m) else j_fin C 47 4 [some (jR 41), some (jI x1), some (jI x3), some (jI (w32 (x3 + 1)))] [] (hH L m) := by
  refine (S_if_eq at_47_41).trans ?_
  refine ite_congr rfl (fun _ => ?_) (fun _ => ?_)
  · refine (S_iinc (l1 := [some (jR 41), some (jI x1), some (jI x2), some (jI (w32 (x3 + 1)))]) rfl rfl at_47_46).trans ?_
    refine (S_goto at_47_49).trans ?_
    rfl
  · refine (S_iload_n rfl at_47_44).trans ?_
    refine (S_istore_n (l1 := [some (jR 41), some (jI x1), some (jI x3), some (jI x3)]) rfl at_47_45).trans ?_
    refine (S_iinc (l1 := [some (jR 41), some (jI x1), some (jI x3), some (jI (w32 (x3 + 1)))]) rfl rfl at_47_46).trans ?_
    refine (S_goto at_47_49).trans ?_
    rfl
theorem T47_0_55 {C : Nat → List j_V → j_H → Option j_Z} {L : j_B} {m : j_M0} {x1 : Int} : j_fin C 47 0 [some (jR 55), some (jI x1), none, none] [] (hH L m) = j_fin C 47 4 [some (jR 55), some (jI x1), some (jI (-1)), some (jI 0)] [] (hH L m) := by
  refine (S_iconst at_47_0).trans ?_
  refine (S_istore_n (l1 := [some (jR 55), some (jI x1), some (jI (-1)), none]) rfl at_47_1).trans ?_
  refine (S_iconst at_47_2).trans ?_
  refine (S_istore_n (l1 := [some (jR 55), some (jI x1), some (jI (-1)), some (jI 0)]) rfl at_47_3).trans ?_
  rfl
theorem T47_4_55 {C : Nat → List j_V → j_H → Option j_Z} {L : j_B} {m : j_M0} {x1 : Int} {x2 : Int} {x3 : Int} : j_fin C 47 4 [some (jR 55), some (jI x1), some (jI x2), some (jI x3)] [] (hH L m) = if x3 < (m 55 1) then if 0 ≤ (w32 ((w32 (x1 * 5)) + x3)) ∧ (w32 ((w32 (x1 * 5)) + x3)) < 100 then if (j_cmp (m 58 (w32 ((w32 (x1 * 5)) + x3)).toNat) 0) < 0 then if x2 < 0 then j_fin C 47 4 [some (jR 55), some (jI x1), some (jI x3), some (jI (w32 (x3 + 1)))] [] (hH L m) else (C 48 [jR 55, jI x1, jI x3, jI x2] (hH L m)).bind fun z => j_fin C 47 41 [some (jR 55), some (jI x1), some (jI x2), some (jI x3)] (z.1.toList ++ []) z.2 else j_fin C 47 4 [some (jR 55), some (jI x1), some (jI x2), some (jI (w32 (x3 + 1)))] [] (hH L m) else none else some (some (jI x2), hH L m) := by
  refine (S_iload_n rfl at_47_4).trans ?_
  refine (S_aload_n rfl at_47_5).trans ?_
  refine (H_get0 (ka_55 L _) rfl at_47_6).trans ?_
  refine (S_icmp_ge at_47_9).trans ?_
  refine ite_congr rfl (fun _ => ?_) (fun _ => ?_)
  · refine (S_aload_n rfl at_47_12).trans ?_
    refine (S_getR (ka_55 L _) rfl (f_55_7 L _) at_47_13).trans ?_
    refine (S_iload_n rfl at_47_16).trans ?_
    refine (S_iconst at_47_17).trans ?_
    refine (S_imul at_47_18).trans ?_
    refine (S_iload_n rfl at_47_19).trans ?_
    refine (S_iadd at_47_20).trans ?_
    refine (H_laload (ka_58 L _) at_47_21).trans ?_
    refine ite_congr rfl (fun hi => ?_) (fun _ => rfl)
    refine (S_lconst at_47_22).trans ?_
    refine (S_lcmp at_47_23).trans ?_
    refine (S_if_lt at_47_24).trans ?_
    refine ite_congr rfl (fun _ => ?_) (fun _ => ?_)
    · refine (S_iload_n rfl at_47_30).trans ?_
      refine (S_if_lt at_47_31).trans ?_
      refine ite_congr rfl (fun _ => ?_) (fun _ => ?_)
      · refine (S_iload_n rfl at_47_44).trans ?_
        refine (S_istore_n (l1 := [some (jR 55), some (jI x1), some (jI x3), some (jI x3)]) rfl at_47_45).trans ?_
        refine (S_iinc (l1 := [some (jR 55), some (jI x1), some (jI x3), some (jI (w32 (x3 + 1)))]) rfl rfl at_47_46).trans ?_
        refine (S_goto at_47_49).trans ?_
        rfl
      · refine (S_aload_n rfl at_47_34).trans ?_
        refine (S_iload_n rfl at_47_35).trans ?_
        refine (S_iload_n rfl at_47_36).trans ?_
        refine (S_iload_n rfl at_47_37).trans ?_
        refine (S_invv (b := 3) (by decide) kn_48 rfl (kd_55 L _) (Nat.le_of_ble_eq_true rfl) at_47_38).trans ?_
        rfl
    · refine (S_goto at_47_27).trans ?_
      refine (S_iinc (l1 := [some (jR 55), some (jI x1), some (jI x2), some (jI (w32 (x3 + 1)))]) rfl rfl at_47_46).trans ?_
      refine (S_goto at_47_49).trans ?_
      rfl
  · refine (S_iload_n rfl at_47_52).trans ?_
    exact S_ireti rfl at_47_53
theorem T47_41_55 {C : Nat → List j_V → j_H → Option j_Z} {L : j_B} {m : j_M0} {x1 : Int} {x2 : Int} {x3 : Int} {s0 : Int} : j_fin C 47 41 [some (jR 55), some (jI x1), some (jI x2), some (jI x3)] [jI s0] (hH L m) = if s0 = 0 then j_fin C 47 4 [some (jR 55), some (jI x1), some (jI x2), some (jI (w32 (x3 + 1)))] [] (hH L m) else j_fin C 47 4 [some (jR 55), some (jI x1), some (jI x3), some (jI (w32 (x3 + 1)))] [] (hH L m) := by
  refine (S_if_eq at_47_41).trans ?_
  refine ite_congr rfl (fun _ => ?_) (fun _ => ?_)
  · refine (S_iinc (l1 := [some (jR 55), some (jI x1), some (jI x2), some (jI (w32 (x3 + 1)))]) rfl rfl at_47_46).trans ?_
    refine (S_goto at_47_49).trans ?_
    rfl
  · refine (S_iload_n rfl at_47_44).trans ?_
    refine (S_istore_n (l1 := [some (jR 55), some (jI x1), some (jI x3), some (jI x3)]) rfl at_47_45).trans ?_
    refine (S_iinc (l1 := [some (jR 55), some (jI x1), some (jI x3), some (jI (w32 (x3 + 1)))]) rfl rfl at_47_46).trans ?_
    refine (S_goto at_47_49).trans ?_
    rfl
theorem T48_0_41 {C : Nat → List j_V → j_H → Option j_Z} {L : j_B} {m : j_M0} {x1 : Int} {x2 : Int} {x3 : Int} : j_fin C 48 0 [some (jR 41), some (jI x1), some (jI x2), some (jI x3), none, none, none, none] [] (hH L m) = if 0 ≤ x2 ∧ x2 < 5 then if 0 ≤ (w32 ((w32 (x1 * 5)) + x3)) ∧ (w32 ((w32 (x1 * 5)) + x3)) < 100 then if 0 ≤ x3 ∧ x3 < 5 then if 0 ≤ (w32 ((w32 (x1 * 5)) + x2)) ∧ (w32 ((w32 (x1 * 5)) + x2)) < 100 then if (j_cmp (w64 ((m 46 x2.toNat) * (w64 (-(m 44 (w32 ((w32 (x1 * 5)) + x3)).toNat))))) (w64 ((m 46 x3.toNat) * (w64 (-(m 44 (w32 ((w32 (x1 * 5)) + x2)).toNat)))))) < 0 then some (some (jI 1), hH L m) else if (j_cmp (w64 ((m 46 x2.toNat) * (w64 (-(m 44 (w32 ((w32 (x1 * 5)) + x3)).toNat))))) (w64 ((m 46 x3.toNat) * (w64 (-(m 44 (w32 ((w32 (x1 * 5)) + x2)).toNat)))))) = 0 then if 0 ≤ x2 ∧ x2 < 5 then if 0 ≤ x3 ∧ x3 < 5 then if (m 43 x2.toNat) < (m 43 x3.toNat) then some (some (jI 1), hH L m) else some (some (jI 0), hH L m) else none else none else some (some (jI 0), hH L m) else none else none else none else none := by
  refine (S_aload_n rfl at_48_0).trans ?_
  refine (S_getR (ka_41 L _) rfl (f_41_9 L _) at_48_1).trans ?_
  refine (S_iload_n rfl at_48_4).trans ?_
  refine (H_laload (ka_46 L _) at_48_5).trans ?_
  refine ite_congr rfl (fun hi => ?_) (fun _ => rfl)
  refine (S_aload_n rfl at_48_6).trans ?_
  refine (S_getR (ka_41 L _) rfl (f_41_7 L _) at_48_7).trans ?_
  refine (S_iload_n rfl at_48_10).trans ?_
  refine (S_iconst at_48_11).trans ?_
  refine (S_imul at_48_12).trans ?_
  refine (S_iload_n rfl at_48_13).trans ?_
  refine (S_iadd at_48_14).trans ?_
  refine (H_laload (ka_44 L _) at_48_15).trans ?_
  refine ite_congr rfl (fun hi => ?_) (fun _ => rfl)
  refine (S_lneg at_48_16).trans ?_
  refine (S_lmul at_48_17).trans ?_
  refine (S_lstore (l1 := [some (jR 41), some (jI x1), some (jI x2), some (jI x3), some (jL (w64 ((m 46 x2.toNat) * (w64 (-(m 44 (w32 ((w32 (x1 * 5)) + x3)).toNat)))))), none, none, none]) rfl at_48_18).trans ?_
  refine (S_aload_n rfl at_48_20).trans ?_
  refine (S_getR (ka_41 L _) rfl (f_41_9 L _) at_48_21).trans ?_
  refine (S_iload_n rfl at_48_24).trans ?_
  refine (H_laload (ka_46 L _) at_48_25).trans ?_
  refine ite_congr rfl (fun hi => ?_) (fun _ => rfl)
  refine (S_aload_n rfl at_48_26).trans ?_
  refine (S_getR (ka_41 L _) rfl (f_41_7 L _) at_48_27).trans ?_
  refine (S_iload_n rfl at_48_30).trans ?_
  refine (S_iconst at_48_31).trans ?_
  refine (S_imul at_48_32).trans ?_
  refine (S_iload_n rfl at_48_33).trans ?_
  refine (S_iadd at_48_34).trans ?_
  refine (H_laload (ka_44 L _) at_48_35).trans ?_
  refine ite_congr rfl (fun hi => ?_) (fun _ => rfl)
  refine (S_lneg at_48_36).trans ?_
  refine (S_lmul at_48_37).trans ?_
  refine (S_lstore (l1 := [some (jR 41), some (jI x1), some (jI x2), some (jI x3), some (jL (w64 ((m 46 x2.toNat) * (w64 (-(m 44 (w32 ((w32 (x1 * 5)) + x3)).toNat)))))), none, some (jL (w64 ((m 46 x3.toNat) * (w64 (-(m 44 (w32 ((w32 (x1 * 5)) + x2)).toNat)))))), none]) rfl at_48_38).trans ?_
  refine (S_lload rfl at_48_40).trans ?_
  refine (S_lload rfl at_48_42).trans ?_
  refine (S_lcmp at_48_44).trans ?_
  refine (S_if_lt at_48_45).trans ?_
  refine ite_congr rfl (fun _ => ?_) (fun _ => ?_)
  · refine (S_iconst at_48_71).trans ?_
    refine (S_goto at_48_72).trans ?_
    exact (S_iretz rfl at_48_76).trans (if_pos (by decide))
  · refine (S_lload rfl at_48_48).trans ?_
    refine (S_lload rfl at_48_50).trans ?_
    refine (S_lcmp at_48_52).trans ?_
    refine (S_if_ne at_48_53).trans ?_
    refine ite_congr rfl (fun _ => ?_) (fun _ => ?_)
    · refine (S_aload_n rfl at_48_56).trans ?_
      refine (S_getR (ka_41 L _) rfl (f_41_6 L _) at_48_57).trans ?_
      refine (S_iload_n rfl at_48_60).trans ?_
      refine (H_iaload (ka_43 L _) at_48_61).trans ?_
      refine ite_congr rfl (fun hi => ?_) (fun _ => rfl)
      refine (S_aload_n rfl at_48_62).trans ?_
      refine (S_getR (ka_41 L _) rfl (f_41_6 L _) at_48_63).trans ?_
      refine (S_iload_n rfl at_48_66).trans ?_
      refine (H_iaload (ka_43 L _) at_48_67).trans ?_
      refine ite_congr rfl (fun hi => ?_) (fun _ => rfl)
      refine (S_icmp_ge at_48_68).trans ?_
      refine ite_congr rfl (fun _ => ?_) (fun _ => ?_)
      · refine (S_iconst at_48_71).trans ?_
        refine (S_goto at_48_72).trans ?_
        exact (S_iretz rfl at_48_76).trans (if_pos (by decide))
      · refine (S_iconst at_48_75).trans ?_
        exact (S_iretz rfl at_48_76).trans (if_pos (by decide))
    · refine (S_iconst at_48_75).trans ?_
      exact (S_iretz rfl at_48_76).trans (if_pos (by decide))
theorem T48_0_55 {C : Nat → List j_V → j_H → Option j_Z} {L : j_B} {m : j_M0} {x1 : Int} {x2 : Int} {x3 : Int} : j_fin C 48 0 [some (jR 55), some (jI x1), some (jI x2), some (jI x3), none, none, none, none] [] (hH L m) = if 0 ≤ x2 ∧ x2 < 5 then if 0 ≤ (w32 ((w32 (x1 * 5)) + x3)) ∧ (w32 ((w32 (x1 * 5)) + x3)) < 100 then if 0 ≤ x3 ∧ x3 < 5 then if 0 ≤ (w32 ((w32 (x1 * 5)) + x2)) ∧ (w32 ((w32 (x1 * 5)) + x2)) < 100 then if (j_cmp (w64 ((m 60 x2.toNat) * (w64 (-(m 58 (w32 ((w32 (x1 * 5)) + x3)).toNat))))) (w64 ((m 60 x3.toNat) * (w64 (-(m 58 (w32 ((w32 (x1 * 5)) + x2)).toNat)))))) < 0 then some (some (jI 1), hH L m) else if (j_cmp (w64 ((m 60 x2.toNat) * (w64 (-(m 58 (w32 ((w32 (x1 * 5)) + x3)).toNat))))) (w64 ((m 60 x3.toNat) * (w64 (-(m 58 (w32 ((w32 (x1 * 5)) + x2)).toNat)))))) = 0 then if 0 ≤ x2 ∧ x2 < 5 then if 0 ≤ x3 ∧ x3 < 5 then if (m 57 x2.toNat) < (m 57 x3.toNat) then some (some (jI 1), hH L m) else some (some (jI 0), hH L m) else none else none else some (some (jI 0), hH L m) else none else none else none else none := by
  refine (S_aload_n rfl at_48_0).trans ?_
  refine (S_getR (ka_55 L _) rfl (f_55_9 L _) at_48_1).trans ?_
  refine (S_iload_n rfl at_48_4).trans ?_
  refine (H_laload (ka_60 L _) at_48_5).trans ?_
  refine ite_congr rfl (fun hi => ?_) (fun _ => rfl)
  refine (S_aload_n rfl at_48_6).trans ?_
  refine (S_getR (ka_55 L _) rfl (f_55_7 L _) at_48_7).trans ?_
  refine (S_iload_n rfl at_48_10).trans ?_
  refine (S_iconst at_48_11).trans ?_
  refine (S_imul at_48_12).trans ?_
  refine (S_iload_n rfl at_48_13).trans ?_
  refine (S_iadd at_48_14).trans ?_
  refine (H_laload (ka_58 L _) at_48_15).trans ?_
  refine ite_congr rfl (fun hi => ?_) (fun _ => rfl)
  refine (S_lneg at_48_16).trans ?_
  refine (S_lmul at_48_17).trans ?_
  refine (S_lstore (l1 := [some (jR 55), some (jI x1), some (jI x2), some (jI x3), some (jL (w64 ((m 60 x2.toNat) * (w64 (-(m 58 (w32 ((w32 (x1 * 5)) + x3)).toNat)))))), none, none, none]) rfl at_48_18).trans ?_
  refine (S_aload_n rfl at_48_20).trans ?_
  refine (S_getR (ka_55 L _) rfl (f_55_9 L _) at_48_21).trans ?_
  refine (S_iload_n rfl at_48_24).trans ?_
  refine (H_laload (ka_60 L _) at_48_25).trans ?_
  refine ite_congr rfl (fun hi => ?_) (fun _ => rfl)
  refine (S_aload_n rfl at_48_26).trans ?_
  refine (S_getR (ka_55 L _) rfl (f_55_7 L _) at_48_27).trans ?_
  refine (S_iload_n rfl at_48_30).trans ?_
  refine (S_iconst at_48_31).trans ?_
  refine (S_imul at_48_32).trans ?_
  refine (S_iload_n rfl at_48_33).trans ?_
  refine (S_iadd at_48_34).trans ?_
  refine (H_laload (ka_58 L _) at_48_35).trans ?_
  refine ite_congr rfl (fun hi => ?_) (fun _ => rfl)
  refine (S_lneg at_48_36).trans ?_
  refine (S_lmul at_48_37).trans ?_
  refine (S_lstore (l1 := [some (jR 55), some (jI x1), some (jI x2), some (jI x3), some (jL (w64 ((m 60 x2.toNat) * (w64 (-(m 58 (w32 ((w32 (x1 * 5)) + x3)).toNat)))))), none, some (jL (w64 ((m 60 x3.toNat) * (w64 (-(m 58 (w32 ((w32 (x1 * 5)) + x2)).toNat)))))), none]) rfl at_48_38).trans ?_
  refine (S_lload rfl at_48_40).trans ?_
  refine (S_lload rfl at_48_42).trans ?_
  refine (S_lcmp at_48_44).trans ?_
  refine (S_if_lt at_48_45).trans ?_
  refine ite_congr rfl (fun _ => ?_) (fun _ => ?_)
  · refine (S_iconst at_48_71).trans ?_
    refine (S_goto at_48_72).trans ?_
    exact (S_iretz rfl at_48_76).trans (if_pos (by decide))
  · refine (S_lload rfl at_48_48).trans ?_
    refine (S_lload rfl at_48_50).trans ?_
    refine (S_lcmp at_48_52).trans ?_
    refine (S_if_ne at_48_53).trans ?_
    refine ite_congr rfl (fun _ => ?_) (fun _ => ?_)
    · refine (S_aload_n rfl at_48_56).trans ?_
      refine (S_getR (ka_55 L _) rfl (f_55_6 L _) at_48_57).trans ?_
      refine (S_iload_n rfl at_48_60).trans ?_
      refine (H_iaload (ka_57 L _) at_48_61).trans ?_
      refine ite_congr rfl (fun hi => ?_) (fun _ => rfl)
      refine (S_aload_n rfl at_48_62).trans ?_
      refine (S_getR (ka_55 L _) rfl (f_55_6 L _) at_48_63).trans ?_
      refine (S_iload_n rfl at_48_66).trans ?_
      refine (H_iaload (ka_57 L _) at_48_67).trans ?_
      refine ite_congr rfl (fun hi => ?_) (fun _ => rfl)
      refine (S_icmp_ge at_48_68).trans ?_
      refine ite_congr rfl (fun _ => ?_) (fun _ => ?_)
      · refine (S_iconst at_48_71).trans ?_
        refine (S_goto at_48_72).trans ?_
        exact (S_iretz rfl at_48_76).trans (if_pos (by decide))
      · refine (S_iconst at_48_75).trans ?_
        exact (S_iretz rfl at_48_76).trans (if_pos (by decide))
    · refine (S_iconst at_48_75).trans ?_
      exact (S_iretz rfl at_48_76).trans (if_pos (by decide))
theorem T49_0_41 {C : Nat → List j_V → j_H → Option j_Z} {L : j_B} {m : j_M0} {x1 : Int} {x2 : Int} : j_fin C 49 0 [some (jR 41), some (jI x1), some (jI x2), none, none, none] [] (hH L m) = j_fin C 49 2 [some (jR 41), some (jI x1), some (jI x2), some (jI 0), none, none] [] (hH L m) := by
  refine (S_iconst at_49_0).trans ?_
  refine (S_istore_n (l1 := [some (jR 41), some (jI x1), some (jI x2), some (jI 0), none, none]) rfl at_49_1).trans ?_
  rfl
theorem T49_2_41 {C : Nat → List j_V → j_H → Option j_Z} {L : j_B} {m : j_M0} {x1 : Int} {x2 : Int} {x3 : Int} : j_fin C 49 2 [some (jR 41), some (jI x1), some (jI x2), some (jI x3), none, none] [] (hH L m) = if x3 < (m 41 0) then (C 50 [jR 41, jI x3, jI x1, jI x2] (hH L m)).bind fun z => j_fin C 49 17 [some (jR 41), some (jI x1), some (jI x2), some (jI x3), none, none] (z.1.toList ++ []) z.2 else j_fin C 49 30 [some (jR 41), some (jI x1), some (jI x2), some (jI 0), none, none] [] (hH L m) := by
  refine (S_iload_n rfl at_49_2).trans ?_
  refine (S_aload_n rfl at_49_3).trans ?_
  refine (H_get0 (ka_41 L _) rfl at_49_4).trans ?_
  refine (S_icmp_ge at_49_7).trans ?_
  refine ite_congr rfl (fun _ => ?_) (fun _ => ?_)
  · refine (S_aload_n rfl at_49_10).trans ?_
    refine (S_iload_n rfl at_49_11).trans ?_
    refine (S_iload_n rfl at_49_12).trans ?_
    refine (S_iload_n rfl at_49_13).trans ?_
    refine (S_invv (b := 3) (by decide) kn_50 rfl (kd_41 L _) (Nat.le_of_ble_eq_true rfl) at_49_14).trans ?_
    rfl
  · refine (S_iconst at_49_28).trans ?_
    refine (S_istore_n (l1 := [some (jR 41), some (jI x1), some (jI x2), some (jI 0), none, none]) rfl at_49_29).trans ?_
    rfl
theorem T49_17_41 {C : Nat → List j_V → j_H → Option j_Z} {L : j_B} {m : j_M0} {x1 : Int} {x2 : Int} {x3 : Int} {s0 : Int} : j_fin C 49 17 [some (jR 41), some (jI x1), some (jI x2), some (jI x3), none, none] [jI s0] (hH L m) = if s0 = 0 then some (some (jI 0), hH L m) else j_fin C 49 2 [some (jR 41), some (jI x1), some (jI x2), some (jI (w32 (x3 + 1))), none, none] [] (hH L m) := by
  refine (S_if_ne at_49_17).trans ?_
  refine ite_congr rfl (fun _ => ?_) (fun _ => ?_)
  · refine (S_iconst at_49_20).trans ?_
    exact (S_iretz rfl at_49_21).trans (if_pos (by decide))
  · refine (S_iinc (l1 := [some (jR 41), some (jI x1), some (jI x2), some (jI (w32 (x3 + 1))), none, none]) rfl rfl at_49_22).trans ?_
    refine (S_goto at_49_25).trans ?_
    rfl
theorem T49_30_41 {C : Nat → List j_V → j_H → Option j_Z} {L : j_B} {m : j_M0} {x1 : Int} {x2 : Int} {x3 : Int} : j_fin C 49 30 [some (jR 41), some (jI x1), some (jI x2), some (jI x3), none, none] [] (hH L m) = if x3 < (m 41 1) then if x3 = x2 then if 0 ≤ x2 ∧ x2 < 5 then j_fin C 49 85 [some (jR 41), some (jI x1), some (jI x2), some (jI x3), none, none] [jL (m 46 x2.toNat), jI x3, jR 49] (hH L m) else none else if 0 ≤ x3 ∧ x3 < 5 then if 0 ≤ x2 ∧ x2 < 5 then if 0 ≤ (w32 ((w32 (x1 * 5)) + x3)) ∧ (w32 ((w32 (x1 * 5)) + x3)) < 100 then (C 51 [jR 41, jL (m 46 x3.toNat), jL (m 46 x2.toNat), jL (m 44 (w32 ((w32 (x1 * 5)) + x3)).toNat), jI x1, jI x2] (hH L m)).bind fun z => j_fin C 49 85 [some (jR 41), some (jI x1), some (jI x2), some (jI x3), none, none] (z.1.toList ++ [jI x3, jR 49]) z.2 else none else none else none else if 0 ≤ x2 ∧ x2 < 5 then if 0 ≤ x1 ∧ x1 < 20 then (C 51 [jR 41, jL (m 41 3), jL (w64 (-(m 46 x2.toNat))), jL (m 45 x1.toNat), jI x1, jI x2] (hH L m)).bind fun z => j_fin C 49 129 [some (jR 41), some (jI x1), some (jI x2), some (jI x3), none, none] (z.1.toList ++ []) z.2 else none else none := by
  refine (S_iload_n rfl at_49_30).trans ?_
  refine (S_aload_n rfl at_49_31).trans ?_
  refine (H_get0 (ka_41 L _) rfl at_49_32).trans ?_
  refine (S_icmp_ge at_49_35).trans ?_
  refine ite_congr rfl (fun _ => ?_) (fun _ => ?_)
  · refine (S_aload_n rfl at_49_38).trans ?_
    refine (S_getR (ka_41 L _) rfl (f_41_12 L _) at_49_39).trans ?_
    refine (S_iload_n rfl at_49_42).trans ?_
    refine (S_iload_n rfl at_49_43).trans ?_
    refine (S_iload_n rfl at_49_44).trans ?_
    refine (S_icmp_ne at_49_45).trans ?_
    refine ite_congr rfl (fun _ => ?_) (fun _ => ?_)
    · refine (S_aload_n rfl at_49_48).trans ?_
      refine (S_getR (ka_41 L _) rfl (f_41_9 L _) at_49_49).trans ?_
      refine (S_iload_n rfl at_49_52).trans ?_
      refine (H_laload (ka_46 L _) at_49_53).trans ?_
      refine ite_congr rfl (fun hi => ?_) (fun _ => rfl)
      refine (S_goto at_49_54).trans ?_
      rfl
    · refine (S_aload_n rfl at_49_57).trans ?_
      refine (S_aload_n rfl at_49_58).trans ?_
      refine (S_getR (ka_41 L _) rfl (f_41_9 L _) at_49_59).trans ?_
      refine (S_iload_n rfl at_49_62).trans ?_
      refine (H_laload (ka_46 L _) at_49_63).trans ?_
      refine ite_congr rfl (fun hi => ?_) (fun _ => rfl)
      refine (S_aload_n rfl at_49_64).trans ?_
      refine (S_getR (ka_41 L _) rfl (f_41_9 L _) at_49_65).trans ?_
      refine (S_iload_n rfl at_49_68).trans ?_
      refine (H_laload (ka_46 L _) at_49_69).trans ?_
      refine ite_congr rfl (fun hi => ?_) (fun _ => rfl)
      refine (S_aload_n rfl at_49_70).trans ?_
      refine (S_getR (ka_41 L _) rfl (f_41_7 L _) at_49_71).trans ?_
      refine (S_iload_n rfl at_49_74).trans ?_
      refine (S_iconst at_49_75).trans ?_
      refine (S_imul at_49_76).trans ?_
      refine (S_iload_n rfl at_49_77).trans ?_
      refine (S_iadd at_49_78).trans ?_
      refine (H_laload (ka_44 L _) at_49_79).trans ?_
      refine ite_congr rfl (fun hi => ?_) (fun _ => rfl)
      refine (S_iload_n rfl at_49_80).trans ?_
      refine (S_iload_n rfl at_49_81).trans ?_
      refine (S_invv (b := 5) (by decide) kn_51 rfl (kd_41 L _) (Nat.le_of_ble_eq_true rfl) at_49_82).trans ?_
      rfl
  · refine (S_aload_n rfl at_49_106).trans ?_
    refine (S_aload_n rfl at_49_107).trans ?_
    refine (H_get1 (ka_41 L _) rfl at_49_108).trans ?_
    refine (S_aload_n rfl at_49_111).trans ?_
    refine (S_getR (ka_41 L _) rfl (f_41_9 L _) at_49_112).trans ?_
    refine (S_iload_n rfl at_49_115).trans ?_
    refine (H_laload (ka_46 L _) at_49_116).trans ?_
    refine ite_congr rfl (fun hi => ?_) (fun _ => rfl)
    refine (S_lneg at_49_117).trans ?_
    refine (S_aload_n rfl at_49_118).trans ?_
    refine (S_getR (ka_41 L _) rfl (f_41_8 L _) at_49_119).trans ?_
    refine (S_iload_n rfl at_49_122).trans ?_
    refine (H_laload (ka_45 L _) at_49_123).trans ?_
    refine ite_congr rfl (fun hi => ?_) (fun _ => rfl)
    refine (S_iload_n rfl at_49_124).trans ?_
    refine (S_iload_n rfl at_49_125).trans ?_
    refine (S_invv (b := 5) (by decide) kn_51 rfl (kd_41 L _) (Nat.le_of_ble_eq_true rfl) at_49_126).trans ?_
    rfl
theorem T49_85_41 {C : Nat → List j_V → j_H → Option j_Z} {L : j_B} {m : j_M0} {x1 : Int} {x2 : Int} {x3 : Int} {s1 : Int} {t2 : Int} : j_fin C 49 85 [some (jR 41), some (jI x1), some (jI x2), some (jI x3), none, none] [jL t2, jI s1, jR 49] (hH L m) = if 0 ≤ s1 ∧ s1 < 5 then if 0 ≤ x3 ∧ x3 < 5 then (C 144 [jL ((j_up m 49 s1.toNat t2) 49 x3.toNat)] (hH L (j_up m 49 s1.toNat t2))).bind fun z => j_fin C 49 95 [some (jR 41), some (jI x1), some (jI x2), some (jI x3), none, none] (z.1.toList ++ []) z.2 else none else none := by
  refine (H_lastore (by omega) (ka_49 L _) at_49_85).trans ?_
  refine ite_congr rfl (fun hi => ?_) (fun _ => rfl)
  refine (S_aload_n rfl at_49_86).trans ?_
  refine (S_getR (ka_41 L _) rfl (f_41_12 L _) at_49_87).trans ?_
  refine (S_iload_n rfl at_49_90).trans ?_
  refine (H_laload (ka_49 L _) at_49_91).trans ?_
  refine ite_congr rfl (fun hi => ?_) (fun _ => rfl)
  refine (S_invs (by decide) (Nat.le_of_ble_eq_true rfl) (Nat.le_of_ble_eq_true rfl) at_49_92).trans ?_
  rfl
theorem T49_95_41 {C : Nat → List j_V → j_H → Option j_Z} {L : j_B} {m : j_M0} {x1 : Int} {x2 : Int} {x3 : Int} {s0 : Int} : j_fin C 49 95 [some (jR 41), some (jI x1), some (jI x2), some (jI x3), none, none] [jI s0] (hH L m) = if s0 = 0 then some (some (jI 0), hH L m) else j_fin C 49 30 [some (jR 41), some (jI x1), some (jI x2), some (jI (w32 (x3 + 1))), none, none] [] (hH L m) := by
  refine (S_if_ne at_49_95).trans ?_
  refine ite_congr rfl (fun _ => ?_) (fun _ => ?_)
  · refine (S_iconst at_49_98).trans ?_
    exact (S_iretz rfl at_49_99).trans (if_pos (by decide))
  · refine (S_iinc (l1 := [some (jR 41), some (jI x1), some (jI x2), some (jI (w32 (x3 + 1))), none, none]) rfl rfl at_49_100).trans ?_
    refine (S_goto at_49_103).trans ?_
    rfl
theorem T49_129_41 {C : Nat → List j_V → j_H → Option j_Z} {L : j_B} {m : j_M0} {x1 : Int} {x2 : Int} {x3 : Int} {t0 : Int} : j_fin C 49 129 [some (jR 41), some (jI x1), some (jI x2), some (jI x3), none, none] [jL t0] (hH L m) = (C 144 [jL t0] (hH L m)).bind fun z => j_fin C 49 134 [some (jR 41), some (jI x1), some (jI x2), some (jL t0), none, none] (z.1.toList ++ []) z.2 := by
  refine (S_lstore_n (l1 := [some (jR 41), some (jI x1), some (jI x2), some (jL t0), none, none]) rfl at_49_129).trans ?_
  refine (S_lload_n rfl at_49_130).trans ?_
  refine (S_invs (by decide) (Nat.le_of_ble_eq_true rfl) (Nat.le_of_ble_eq_true rfl) at_49_131).trans ?_
  rfl
theorem T49_134_41 {C : Nat → List j_V → j_H → Option j_Z} {L : j_B} {m : j_M0} {x1 : Int} {x2 : Int} {y3 : Int} {s0 : Int} : j_fin C 49 134 [some (jR 41), some (jI x1), some (jI x2), some (jL y3), none, none] [jI s0] (hH L m) = if s0 = 0 then some (some (jI 0), hH L m) else if 0 ≤ (w32 ((w32 (x1 * 5)) + x2)) ∧ (w32 ((w32 (x1 * 5)) + x2)) < 100 then if 0 ≤ (w32 (((j_up (j_up m 41 3 y3) 41 4 (w64 (-((j_up m 41 3 y3) 44 (w32 ((w32 (x1 * 5)) + x2)).toNat)))) 41 0) * 5)) ∧ 0 ≤ (0 : Int) ∧ 0 ≤ (0 : Int) ∧ (0 : Int) + (w32 (((j_up (j_up m 41 3 y3) 41 4 (w64 (-((j_up m 41 3 y3) 44 (w32 ((w32 (x1 * 5)) + x2)).toNat)))) 41 0) * 5)) ≤ 100 ∧ (0 : Int) + (w32 (((j_up (j_up m 41 3 y3) 41 4 (w64 (-((j_up m 41 3 y3) 44 (w32 ((w32 (x1 * 5)) + x2)).toNat)))) 41 0) * 5)) ≤ 100 then if 0 ≤ ((j_cpy (j_up (j_up m 41 3 y3) 41 4 (w64 (-((j_up m 41 3 y3) 44 (w32 ((w32 (x1 * 5)) + x2)).toNat)))) 47 0 44 0 (w32 (((j_up (j_up m 41 3 y3) 41 4 (w64 (-((j_up m 41 3 y3) 44 (w32 ((w32 (x1 * 5)) + x2)).toNat)))) 41 0) * 5)).toNat) 41 0) ∧ 0 ≤ (0 : Int) ∧ 0 ≤ (0 : Int) ∧ (0 : Int) + ((j_cpy (j_up (j_up m 41 3 y3) 41 4 (w64 (-((j_up m 41 3 y3) 44 (w32 ((w32 (x1 * 5)) + x2)).toNat)))) 47 0 44 0 (w32 (((j_up (j_up m 41 3 y3) 41 4 (w64 (-((j_up m 41 3 y3) 44 (w32 ((w32 (x1 * 5)) + x2)).toNat)))) 41 0) * 5)).toNat) 41 0) ≤ 20 ∧ (0 : Int) + ((j_cpy (j_up (j_up m 41 3 y3) 41 4 (w64 (-((j_up m 41 3 y3) 44 (w32 ((w32 (x1 * 5)) + x2)).toNat)))) 47 0 44 0 (w32 (((j_up (j_up m 41 3 y3) 41 4 (w64 (-((j_up m 41 3 y3) 44 (w32 ((w32 (x1 * 5)) + x2)).toNat)))) 41 0) * 5)).toNat) 41 0) ≤ 20 then if 0 ≤ ((j_cpy (j_cpy (j_up (j_up m 41 3 y3) 41 4 (w64 (-((j_up m 41 3 y3) 44 (w32 ((w32 (x1 * 5)) + x2)).toNat)))) 47 0 44 0 (w32 (((j_up (j_up m 41 3 y3) 41 4 (w64 (-((j_up m 41 3 y3) 44 (w32 ((w32 (x1 * 5)) + x2)).toNat)))) 41 0) * 5)).toNat) 48 0 45 0 ((j_cpy (j_up (j_up m 41 3 y3) 41 4 (w64 (-((j_up m 41 3 y3) 44 (w32 ((w32 (x1 * 5)) + x2)).toNat)))) 47 0 44 0 (w32 (((j_up (j_up m 41 3 y3) 41 4 (w64 (-((j_up m 41 3 y3) 44 (w32 ((w32 (x1 * 5)) + x2)).toNat)))) 41 0) * 5)).toNat) 41 0).toNat) 41 1) ∧ 0 ≤ (0 : Int) ∧ 0 ≤ (0 : Int) ∧ (0 : Int) + ((j_cpy (j_cpy (j_up (j_up m 41 3 y3) 41 4 (w64 (-((j_up m 41 3 y3) 44 (w32 ((w32 (x1 * 5)) + x2)).toNat)))) 47 0 44 0 (w32 (((j_up (j_up m 41 3 y3) 41 4 (w64 (-((j_up m 41 3 y3) 44 (w32 ((w32 (x1 * 5)) + x2)).toNat)))) 41 0) * 5)).toNat) 48 0 45 0 ((j_cpy (j_up (j_up m 41 3 y3) 41 4 (w64 (-((j_up m 41 3 y3) 44 (w32 ((w32 (x1 * 5)) + x2)).toNat)))) 47 0 44 0 (w32 (((j_up (j_up m 41 3 y3) 41 4 (w64 (-((j_up m 41 3 y3) 44 (w32 ((w32 (x1 * 5)) + x2)).toNat)))) 41 0) * 5)).toNat) 41 0).toNat) 41 1) ≤ 5 ∧ (0 : Int) + ((j_cpy (j_cpy (j_up (j_up m 41 3 y3) 41 4 (w64 (-((j_up m 41 3 y3) 44 (w32 ((w32 (x1 * 5)) + x2)).toNat)))) 47 0 44 0 (w32 (((j_up (j_up m 41 3 y3) 41 4 (w64 (-((j_up m 41 3 y3) 44 (w32 ((w32 (x1 * 5)) + x2)).toNat)))) 41 0) * 5)).toNat) 48 0 45 0 ((j_cpy (j_up (j_up m 41 3 y3) 41 4 (w64 (-((j_up m 41 3 y3) 44 (w32 ((w32 (x1 * 5)) + x2)).toNat)))) 47 0 44 0 (w32 (((j_up (j_up m 41 3 y3) 41 4 (w64 (-((j_up m 41 3 y3) 44 (w32 ((w32 (x1 * 5)) + x2)).toNat)))) 41 0) * 5)).toNat) 41 0).toNat) 41 1) ≤ 5 then if 0 ≤ x1 ∧ x1 < 20 then if 0 ≤ x2 ∧ x2 < 5 then if 0 ≤ x1 ∧ x1 < 20 then if 0 ≤ x2 ∧ x2 < 5 then some (some (jI 1), hH L (j_up (j_up (j_up (j_cpy (j_cpy (j_cpy (j_up (j_up m 41 3 y3) 41 4 (w64 (-((j_up m 41 3 y3) 44 (w32 ((w32 (x1 * 5)) + x2)).toNat)))) 47 0 44 0 (w32 (((j_up (j_up m 41 3 y3) 41 4 (w64 (-((j_up m 41 3 y3) 44 (w32 ((w32 (x1 * 5)) + x2)).toNat)))) 41 0) * 5)).toNat) 48 0 45 0 ((j_cpy (j_up (j_up m 41 3 y3) 41 4 (w64 (-((j_up m 41 3 y3) 44 (w32 ((w32 (x1 * 5)) + x2)).toNat)))) 47 0 44 0 (w32 (((j_up (j_up m 41 3 y3) 41 4 (w64 (-((j_up m 41 3 y3) 44 (w32 ((w32 (x1 * 5)) + x2)).toNat)))) 41 0) * 5)).toNat) 41 0).toNat) 49 0 46 0 ((j_cpy (j_cpy (j_up (j_up m 41 3 y3) 41 4 (w64 (-((j_up m 41 3 y3) 44 (w32 ((w32 (x1 * 5)) + x2)).toNat)))) 47 0 44 0 (w32 (((j_up (j_up m 41 3 y3) 41 4 (w64 (-((j_up m 41 3 y3) 44 (w32 ((w32 (x1 * 5)) + x2)).toNat)))) 41 0) * 5)).toNat) 48 0 45 0 ((j_cpy (j_up (j_up m 41 3 y3) 41 4 (w64 (-((j_up m 41 3 y3) 44 (w32 ((w32 (x1 * 5)) + x2)).toNat)))) 47 0 44 0 (w32 (((j_up (j_up m 41 3 y3) 41 4 (w64 (-((j_up m 41 3 y3) 44 (w32 ((w32 (x1 * 5)) + x2)).toNat)))) 41 0) * 5)).toNat) 41 0).toNat) 41 1).toNat) 42 x1.toNat ((j_cpy (j_cpy (j_cpy (j_up (j_up m 41 3 y3) 41 4 (w64 (-((j_up m 41 3 y3) 44 (w32 ((w32 (x1 * 5)) + x2)).toNat)))) 47 0 44 0 (w32 (((j_up (j_up m 41 3 y3) 41 4 (w64 (-((j_up m 41 3 y3) 44 (w32 ((w32 (x1 * 5)) + x2)).toNat)))) 41 0) * 5)).toNat) 48 0 45 0 ((j_cpy (j_up (j_up m 41 3 y3) 41 4 (w64 (-((j_up m 41 3 y3) 44 (w32 ((w32 (x1 * 5)) + x2)).toNat)))) 47 0 44 0 (w32 (((j_up (j_up m 41 3 y3) 41 4 (w64 (-((j_up m 41 3 y3) 44 (w32 ((w32 (x1 * 5)) + x2)).toNat)))) 41 0) * 5)).toNat) 41 0).toNat) 49 0 46 0 ((j_cpy (j_cpy (j_up (j_up m 41 3 y3) 41 4 (w64 (-((j_up m 41 3 y3) 44 (w32 ((w32 (x1 * 5)) + x2)).toNat)))) 47 0 44 0 (w32 (((j_up (j_up m 41 3 y3) 41 4 (w64 (-((j_up m 41 3 y3) 44 (w32 ((w32 (x1 * 5)) + x2)).toNat)))) 41 0) * 5)).toNat) 48 0 45 0 ((j_cpy (j_up (j_up m 41 3 y3) 41 4 (w64 (-((j_up m 41 3 y3) 44 (w32 ((w32 (x1 * 5)) + x2)).toNat)))) 47 0 44 0 (w32 (((j_up (j_up m 41 3 y3) 41 4 (w64 (-((j_up m 41 3 y3) 44 (w32 ((w32 (x1 * 5)) + x2)).toNat)))) 41 0) * 5)).toNat) 41 0).toNat) 41 1).toNat) 43 x2.toNat)) 43 x2.toNat ((j_cpy (j_cpy (j_cpy (j_up (j_up m 41 3 y3) 41 4 (w64 (-((j_up m 41 3 y3) 44 (w32 ((w32 (x1 * 5)) + x2)).toNat)))) 47 0 44 0 (w32 (((j_up (j_up m 41 3 y3) 41 4 (w64 (-((j_up m 41 3 y3) 44 (w32 ((w32 (x1 * 5)) + x2)).toNat)))) 41 0) * 5)).toNat) 48 0 45 0 ((j_cpy (j_up (j_up m 41 3 y3) 41 4 (w64 (-((j_up m 41 3 y3) 44 (w32 ((w32 (x1 * 5)) + x2)).toNat)))) 47 0 44 0 (w32 (((j_up (j_up m 41 3 y3) 41 4 (w64 (-((j_up m 41 3 y3) 44 (w32 ((w32 (x1 * 5)) + x2)).toNat)))) 41 0) * 5)).toNat) 41 0).toNat) 49 0 46 0 ((j_cpy (j_cpy (j_up (j_up m 41 3 y3) 41 4 (w64 (-((j_up m 41 3 y3) 44 (w32 ((w32 (x1 * 5)) + x2)).toNat)))) 47 0 44 0 (w32 (((j_up (j_up m 41 3 y3) 41 4 (w64 (-((j_up m 41 3 y3) 44 (w32 ((w32 (x1 * 5)) + x2)).toNat)))) 41 0) * 5)).toNat) 48 0 45 0 ((j_cpy (j_up (j_up m 41 3 y3) 41 4 (w64 (-((j_up m 41 3 y3) 44 (w32 ((w32 (x1 * 5)) + x2)).toNat)))) 47 0 44 0 (w32 (((j_up (j_up m 41 3 y3) 41 4 (w64 (-((j_up m 41 3 y3) 44 (w32 ((w32 (x1 * 5)) + x2)).toNat)))) 41 0) * 5)).toNat) 41 0).toNat) 41 1).toNat) 42 x1.toNat)) 41 2 (w32 (((j_up (j_up (j_cpy (j_cpy (j_cpy (j_up (j_up m 41 3 y3) 41 4 (w64 (-((j_up m 41 3 y3) 44 (w32 ((w32 (x1 * 5)) + x2)).toNat)))) 47 0 44 0 (w32 (((j_up (j_up m 41 3 y3) 41 4 (w64 (-((j_up m 41 3 y3) 44 (w32 ((w32 (x1 * 5)) + x2)).toNat)))) 41 0) * 5)).toNat) 48 0 45 0 ((j_cpy (j_up (j_up m 41 3 y3) 41 4 (w64 (-((j_up m 41 3 y3) 44 (w32 ((w32 (x1 * 5)) + x2)).toNat)))) 47 0 44 0 (w32 (((j_up (j_up m 41 3 y3) 41 4 (w64 (-((j_up m 41 3 y3) 44 (w32 ((w32 (x1 * 5)) + x2)).toNat)))) 41 0) * 5)).toNat) 41 0).toNat) 49 0 46 0 ((j_cpy (j_cpy (j_up (j_up m 41 3 y3) 41 4 (w64 (-((j_up m 41 3 y3) 44 (w32 ((w32 (x1 * 5)) + x2)).toNat)))) 47 0 44 0 (w32 (((j_up (j_up m 41 3 y3) 41 4 (w64 (-((j_up m 41 3 y3) 44 (w32 ((w32 (x1 * 5)) + x2)).toNat)))) 41 0) * 5)).toNat) 48 0 45 0 ((j_cpy (j_up (j_up m 41 3 y3) 41 4 (w64 (-((j_up m 41 3 y3) 44 (w32 ((w32 (x1 * 5)) + x2)).toNat)))) 47 0 44 0 (w32 (((j_up (j_up m 41 3 y3) 41 4 (w64 (-((j_up m 41 3 y3) 44 (w32 ((w32 (x1 * 5)) + x2)).toNat)))) 41 0) * 5)).toNat) 41 0).toNat) 41 1).toNat) 42 x1.toNat ((j_cpy (j_cpy (j_cpy (j_up (j_up m 41 3 y3) 41 4 (w64 (-((j_up m 41 3 y3) 44 (w32 ((w32 (x1 * 5)) + x2)).toNat)))) 47 0 44 0 (w32 (((j_up (j_up m 41 3 y3) 41 4 (w64 (-((j_up m 41 3 y3) 44 (w32 ((w32 (x1 * 5)) + x2)).toNat)))) 41 0) * 5)).toNat) 48 0 45 0 ((j_cpy (j_up (j_up m 41 3 y3) 41 4 (w64 (-((j_up m 41 3 y3) 44 (w32 ((w32 (x1 * 5)) + x2)).toNat)))) 47 0 44 0 (w32 (((j_up (j_up m 41 3 y3) 41 4 (w64 (-((j_up m 41 3 y3) 44 (w32 ((w32 (x1 * 5)) + x2)).toNat)))) 41 0) * 5)).toNat) 41 0).toNat) 49 0 46 0 ((j_cpy (j_cpy (j_up (j_up m 41 3 y3) 41 4 (w64 (-((j_up m 41 3 y3) 44 (w32 ((w32 (x1 * 5)) + x2)).toNat)))) 47 0 44 0 (w32 (((j_up (j_up m 41 3 y3) 41 4 (w64 (-((j_up m 41 3 y3) 44 (w32 ((w32 (x1 * 5)) + x2)).toNat)))) 41 0) * 5)).toNat) 48 0 45 0 ((j_cpy (j_up (j_up m 41 3 y3) 41 4 (w64 (-((j_up m 41 3 y3) 44 (w32 ((w32 (x1 * 5)) + x2)).toNat)))) 47 0 44 0 (w32 (((j_up (j_up m 41 3 y3) 41 4 (w64 (-((j_up m 41 3 y3) 44 (w32 ((w32 (x1 * 5)) + x2)).toNat)))) 41 0) * 5)).toNat) 41 0).toNat) 41 1).toNat) 43 x2.toNat)) 43 x2.toNat ((j_cpy (j_cpy (j_cpy (j_up (j_up m 41 3 y3) 41 4 (w64 (-((j_up m 41 3 y3) 44 (w32 ((w32 (x1 * 5)) + x2)).toNat)))) 47 0 44 0 (w32 (((j_up (j_up m 41 3 y3) 41 4 (w64 (-((j_up m 41 3 y3) 44 (w32 ((w32 (x1 * 5)) + x2)).toNat)))) 41 0) * 5)).toNat) 48 0 45 0 ((j_cpy (j_up (j_up m 41 3 y3) 41 4 (w64 (-((j_up m 41 3 y3) 44 (w32 ((w32 (x1 * 5)) + x2)).toNat)))) 47 0 44 0 (w32 (((j_up (j_up m 41 3 y3) 41 4 (w64 (-((j_up m 41 3 y3) 44 (w32 ((w32 (x1 * 5)) + x2)).toNat)))) 41 0) * 5)).toNat) 41 0).toNat) 49 0 46 0 ((j_cpy (j_cpy (j_up (j_up m 41 3 y3) 41 4 (w64 (-((j_up m 41 3 y3) 44 (w32 ((w32 (x1 * 5)) + x2)).toNat)))) 47 0 44 0 (w32 (((j_up (j_up m 41 3 y3) 41 4 (w64 (-((j_up m 41 3 y3) 44 (w32 ((w32 (x1 * 5)) + x2)).toNat)))) 41 0) * 5)).toNat) 48 0 45 0 ((j_cpy (j_up (j_up m 41 3 y3) 41 4 (w64 (-((j_up m 41 3 y3) 44 (w32 ((w32 (x1 * 5)) + x2)).toNat)))) 47 0 44 0 (w32 (((j_up (j_up m 41 3 y3) 41 4 (w64 (-((j_up m 41 3 y3) 44 (w32 ((w32 (x1 * 5)) + x2)).toNat)))) 41 0) * 5)).toNat) 41 0).toNat) 41 1).toNat) 42 x1.toNat)) 41 2) + 1)))) else none else none else none else none else none else none else none else none := by
  refine (S_if_ne at_49_134).trans ?_
  refine ite_congr rfl (fun _ => ?_) (fun _ => ?_)
  · refine (S_iconst at_49_137).trans ?_
    exact (S_iretz rfl at_49_138).trans (if_pos (by decide))
  · refine (S_aload_n rfl at_49_139).trans ?_
    refine (S_lload_n rfl at_49_140).trans ?_
    refine (H_put1 (ka_41 L _) rfl at_49_141).trans ?_
    refine (S_aload_n rfl at_49_144).trans ?_
    refine (S_aload_n rfl at_49_145).trans ?_
    refine (S_getR (ka_41 L _) rfl (f_41_7 L _) at_49_146).trans ?_
    refine (S_iload_n rfl at_49_149).trans ?_
    refine (S_iconst at_49_150).trans ?_
    refine (S_imul at_49_151).trans ?_
    refine (S_iload_n rfl at_49_152).trans ?_
    refine (S_iadd at_49_153).trans ?_
    refine (H_laload (ka_44 L _) at_49_154).trans ?_
    refine ite_congr rfl (fun hi => ?_) (fun _ => rfl)
    refine (S_lneg at_49_155).trans ?_
    refine (H_put1 (ka_41 L _) rfl at_49_156).trans ?_
    refine (S_aload_n rfl at_49_159).trans ?_
    refine (S_getR (ka_41 L _) rfl (f_41_10 L _) at_49_160).trans ?_
    refine (S_iconst at_49_163).trans ?_
    refine (S_aload_n rfl at_49_164).trans ?_
    refine (S_getR (ka_41 L _) rfl (f_41_7 L _) at_49_165).trans ?_
    refine (S_iconst at_49_168).trans ?_
    refine (S_aload_n rfl at_49_169).trans ?_
    refine (H_get0 (ka_41 L _) rfl at_49_170).trans ?_
    refine (S_iconst at_49_173).trans ?_
    refine (S_imul at_49_174).trans ?_
    refine (H_cpy rfl (by decide) (kd_47 L _) (ka_44 L _) (by omega) (Nat.le_of_ble_eq_true rfl) at_49_175).trans ?_
    refine ite_congr rfl (fun hi => ?_) (fun _ => rfl)
    refine (S_aload_n rfl at_49_178).trans ?_
    refine (S_getR (ka_41 L _) rfl (f_41_11 L _) at_49_179).trans ?_
    refine (S_iconst at_49_182).trans ?_
    refine (S_aload_n rfl at_49_183).trans ?_
    refine (S_getR (ka_41 L _) rfl (f_41_8 L _) at_49_184).trans ?_
    refine (S_iconst at_49_187).trans ?_
    refine (S_aload_n rfl at_49_188).trans ?_
    refine (H_get0 (ka_41 L _) rfl at_49_189).trans ?_
    refine (H_cpy rfl (by decide) (kd_48 L _) (ka_45 L _) (by omega) (Nat.le_of_ble_eq_true rfl) at_49_192).trans ?_
    refine ite_congr rfl (fun hi => ?_) (fun _ => rfl)
    refine (S_aload_n rfl at_49_195).trans ?_
    refine (S_getR (ka_41 L _) rfl (f_41_12 L _) at_49_196).trans ?_
    refine (S_iconst at_49_199).trans ?_
    refine (S_aload_n rfl at_49_200).trans ?_
    refine (S_getR (ka_41 L _) rfl (f_41_9 L _) at_49_201).trans ?_
    refine (S_iconst at_49_204).trans ?_
    refine (S_aload_n rfl at_49_205).trans ?_
    refine (H_get0 (ka_41 L _) rfl at_49_206).trans ?_
    refine (H_cpy rfl (by decide) (kd_49 L _) (ka_46 L _) (by omega) (Nat.le_of_ble_eq_true rfl) at_49_209).trans ?_
    refine ite_congr rfl (fun hi => ?_) (fun _ => rfl)
    refine (S_aload_n rfl at_49_212).trans ?_
    refine (S_getR (ka_41 L _) rfl (f_41_5 L _) at_49_213).trans ?_
    refine (S_iload_n rfl at_49_216).trans ?_
    refine (H_iaload (ka_42 L _) at_49_217).trans ?_
    refine ite_congr rfl (fun hi => ?_) (fun _ => rfl)
    refine (S_istore (l1 := [some (jR 41), some (jI x1), some (jI x2), some (jL y3), none, some (jI ((j_cpy (j_cpy (j_cpy (j_up (j_up m 41 3 y3) 41 4 (w64 (-((j_up m 41 3 y3) 44 (w32 ((w32 (x1 * 5)) + x2)).toNat)))) 47 0 44 0 (w32 (((j_up (j_up m 41 3 y3) 41 4 (w64 (-((j_up m 41 3 y3) 44 (w32 ((w32 (x1 * 5)) + x2)).toNat)))) 41 0) * 5)).toNat) 48 0 45 0 ((j_cpy (j_up (j_up m 41 3 y3) 41 4 (w64 (-((j_up m 41 3 y3) 44 (w32 ((w32 (x1 * 5)) + x2)).toNat)))) 47 0 44 0 (w32 (((j_up (j_up m 41 3 y3) 41 4 (w64 (-((j_up m 41 3 y3) 44 (w32 ((w32 (x1 * 5)) + x2)).toNat)))) 41 0) * 5)).toNat) 41 0).toNat) 49 0 46 0 ((j_cpy (j_cpy (j_up (j_up m 41 3 y3) 41 4 (w64 (-((j_up m 41 3 y3) 44 (w32 ((w32 (x1 * 5)) + x2)).toNat)))) 47 0 44 0 (w32 (((j_up (j_up m 41 3 y3) 41 4 (w64 (-((j_up m 41 3 y3) 44 (w32 ((w32 (x1 * 5)) + x2)).toNat)))) 41 0) * 5)).toNat) 48 0 45 0 ((j_cpy (j_up (j_up m 41 3 y3) 41 4 (w64 (-((j_up m 41 3 y3) 44 (w32 ((w32 (x1 * 5)) + x2)).toNat)))) 47 0 44 0 (w32 (((j_up (j_up m 41 3 y3) 41 4 (w64 (-((j_up m 41 3 y3) 44 (w32 ((w32 (x1 * 5)) + x2)).toNat)))) 41 0) * 5)).toNat) 41 0).toNat) 41 1).toNat) 42 x1.toNat))]) rfl at_49_218).trans ?_
    refine (S_aload_n rfl at_49_220).trans ?_
    refine (S_getR (ka_41 L _) rfl (f_41_5 L _) at_49_221).trans ?_
    refine (S_iload_n rfl at_49_224).trans ?_
    refine (S_aload_n rfl at_49_225).trans ?_
    refine (S_getR (ka_41 L _) rfl (f_41_6 L _) at_49_226).trans ?_
    refine (S_iload_n rfl at_49_229).trans ?_
    refine (H_iaload (ka_43 L _) at_49_230).trans ?_
    refine ite_congr rfl (fun hi => ?_) (fun _ => rfl)
    refine (H_iastore (by omega) (ka_42 L _) at_49_231).trans ?_
    refine ite_congr rfl (fun hi => ?_) (fun _ => rfl)
    refine (S_aload_n rfl at_49_232).trans ?_
    refine (S_getR (ka_41 L _) rfl (f_41_6 L _) at_49_233).trans ?_
    refine (S_iload_n rfl at_49_236).trans ?_
    refine (S_iload rfl at_49_237).trans ?_
    refine (H_iastore (by omega) (ka_43 L _) at_49_239).trans ?_
    refine ite_congr rfl (fun hi => ?_) (fun _ => rfl)
    refine (S_aload_n rfl at_49_240).trans ?_
    refine (S_dup rfl at_49_241).trans ?_
    refine (H_get0 (ka_41 L _) rfl at_49_242).trans ?_
    refine (S_iconst at_49_245).trans ?_
    refine (S_iadd at_49_246).trans ?_
    refine (H_put0 (ka_41 L _) rfl at_49_247).trans ?_
    refine (S_iconst at_49_250).trans ?_
    exact (S_iretz rfl at_49_251).trans (if_pos (by decide))
theorem T49_0_55 {C : Nat → List j_V → j_H → Option j_Z} {L : j_B} {m : j_M0} {x1 : Int} {x2 : Int} : j_fin C 49 0 [some (jR 55), some (jI x1), some (jI x2), none, none, none] [] (hH L m) = j_fin C 49 2 [some (jR 55), some (jI x1), some (jI x2), some (jI 0), none, none] [] (hH L m) := by
  refine (S_iconst at_49_0).trans ?_
  refine (S_istore_n (l1 := [some (jR 55), some (jI x1), some (jI x2), some (jI 0), none, none]) rfl at_49_1).trans ?_
  rfl
theorem T49_2_55 {C : Nat → List j_V → j_H → Option j_Z} {L : j_B} {m : j_M0} {x1 : Int} {x2 : Int} {x3 : Int} : j_fin C 49 2 [some (jR 55), some (jI x1), some (jI x2), some (jI x3), none, none] [] (hH L m) = if x3 < (m 55 0) then (C 50 [jR 55, jI x3, jI x1, jI x2] (hH L m)).bind fun z => j_fin C 49 17 [some (jR 55), some (jI x1), some (jI x2), some (jI x3), none, none] (z.1.toList ++ []) z.2 else j_fin C 49 30 [some (jR 55), some (jI x1), some (jI x2), some (jI 0), none, none] [] (hH L m) := by
  refine (S_iload_n rfl at_49_2).trans ?_
  refine (S_aload_n rfl at_49_3).trans ?_
  refine (H_get0 (ka_55 L _) rfl at_49_4).trans ?_
  refine (S_icmp_ge at_49_7).trans ?_
  refine ite_congr rfl (fun _ => ?_) (fun _ => ?_)
  · refine (S_aload_n rfl at_49_10).trans ?_
    refine (S_iload_n rfl at_49_11).trans ?_
    refine (S_iload_n rfl at_49_12).trans ?_
    refine (S_iload_n rfl at_49_13).trans ?_
    refine (S_invv (b := 3) (by decide) kn_50 rfl (kd_55 L _) (Nat.le_of_ble_eq_true rfl) at_49_14).trans ?_
    rfl
  · refine (S_iconst at_49_28).trans ?_
    refine (S_istore_n (l1 := [some (jR 55), some (jI x1), some (jI x2), some (jI 0), none, none]) rfl at_49_29).trans ?_
    rfl
theorem T49_17_55 {C : Nat → List j_V → j_H → Option j_Z} {L : j_B} {m : j_M0} {x1 : Int} {x2 : Int} {x3 : Int} {s0 : Int} : j_fin C 49 17 [some (jR 55), some (jI x1), some (jI x2), some (jI x3), none, none] [jI s0] (hH L m) = if s0 = 0 then some (some (jI 0), hH L m) else j_fin C 49 2 [some (jR 55), some (jI x1), some (jI x2), some (jI (w32 (x3 + 1))), none, none] [] (hH L m) := by
  refine (S_if_ne at_49_17).trans ?_
  refine ite_congr rfl (fun _ => ?_) (fun _ => ?_)
  · refine (S_iconst at_49_20).trans ?_
    exact (S_iretz rfl at_49_21).trans (if_pos (by decide))
  · refine (S_iinc (l1 := [some (jR 55), some (jI x1), some (jI x2), some (jI (w32 (x3 + 1))), none, none]) rfl rfl at_49_22).trans ?_
    refine (S_goto at_49_25).trans ?_
    rfl
theorem T49_30_55 {C : Nat → List j_V → j_H → Option j_Z} {L : j_B} {m : j_M0} {x1 : Int} {x2 : Int} {x3 : Int} : j_fin C 49 30 [some (jR 55), some (jI x1), some (jI x2), some (jI x3), none, none] [] (hH L m) = if x3 < (m 55 1) then if x3 = x2 then if 0 ≤ x2 ∧ x2 < 5 then j_fin C 49 85 [some (jR 55), some (jI x1), some (jI x2), some (jI x3), none, none] [jL (m 60 x2.toNat), jI x3, jR 63] (hH L m) else none else if 0 ≤ x3 ∧ x3 < 5 then if 0 ≤ x2 ∧ x2 < 5 then if 0 ≤ (w32 ((w32 (x1 * 5)) + x3)) ∧ (w32 ((w32 (x1 * 5)) + x3)) < 100 then (C 51 [jR 55, jL (m 60 x3.toNat), jL (m 60 x2.toNat), jL (m 58 (w32 ((w32 (x1 * 5)) + x3)).toNat), jI x1, jI x2] (hH L m)).bind fun z => j_fin C 49 85 [some (jR 55), some (jI x1), some (jI x2), some (jI x3), none, none] (z.1.toList ++ [jI x3, jR 63]) z.2 else none else none else none else if 0 ≤ x2 ∧ x2 < 5 then if 0 ≤ x1 ∧ x1 < 20 then (C 51 [jR 55, jL (m 55 3), jL (w64 (-(m 60 x2.toNat))), jL (m 59 x1.toNat), jI x1, jI x2] (hH L m)).bind fun z => j_fin C 49 129 [some (jR 55), some (jI x1), some (jI x2), some (jI x3), none, none] (z.1.toList ++ []) z.2 else none else none := by
  refine (S_iload_n rfl at_49_30).trans ?_
  refine (S_aload_n rfl at_49_31).trans ?_
  refine (H_get0 (ka_55 L _) rfl at_49_32).trans ?_
  refine (S_icmp_ge at_49_35).trans ?_
  refine ite_congr rfl (fun _ => ?_) (fun _ => ?_)
  · refine (S_aload_n rfl at_49_38).trans ?_
    refine (S_getR (ka_55 L _) rfl (f_55_12 L _) at_49_39).trans ?_
    refine (S_iload_n rfl at_49_42).trans ?_
    refine (S_iload_n rfl at_49_43).trans ?_
    refine (S_iload_n rfl at_49_44).trans ?_
    refine (S_icmp_ne at_49_45).trans ?_
    refine ite_congr rfl (fun _ => ?_) (fun _ => ?_)
    · refine (S_aload_n rfl at_49_48).trans ?_
      refine (S_getR (ka_55 L _) rfl (f_55_9 L _) at_49_49).trans ?_
      refine (S_iload_n rfl at_49_52).trans ?_
      refine (H_laload (ka_60 L _) at_49_53).trans ?_
      refine ite_congr rfl (fun hi => ?_) (fun _ => rfl)
      refine (S_goto at_49_54).trans ?_
      rfl
    · refine (S_aload_n rfl at_49_57).trans ?_
      refine (S_aload_n rfl at_49_58).trans ?_
      refine (S_getR (ka_55 L _) rfl (f_55_9 L _) at_49_59).trans ?_
      refine (S_iload_n rfl at_49_62).trans ?_
      refine (H_laload (ka_60 L _) at_49_63).trans ?_
      refine ite_congr rfl (fun hi => ?_) (fun _ => rfl)
      refine (S_aload_n rfl at_49_64).trans ?_
      refine (S_getR (ka_55 L _) rfl (f_55_9 L _) at_49_65).trans ?_
      refine (S_iload_n rfl at_49_68).trans ?_
      refine (H_laload (ka_60 L _) at_49_69).trans ?_
      refine ite_congr rfl (fun hi => ?_) (fun _ => rfl)
      refine (S_aload_n rfl at_49_70).trans ?_
      refine (S_getR (ka_55 L _) rfl (f_55_7 L _) at_49_71).trans ?_
      refine (S_iload_n rfl at_49_74).trans ?_
      refine (S_iconst at_49_75).trans ?_
      refine (S_imul at_49_76).trans ?_
      refine (S_iload_n rfl at_49_77).trans ?_
      refine (S_iadd at_49_78).trans ?_
      refine (H_laload (ka_58 L _) at_49_79).trans ?_
      refine ite_congr rfl (fun hi => ?_) (fun _ => rfl)
      refine (S_iload_n rfl at_49_80).trans ?_
      refine (S_iload_n rfl at_49_81).trans ?_
      refine (S_invv (b := 5) (by decide) kn_51 rfl (kd_55 L _) (Nat.le_of_ble_eq_true rfl) at_49_82).trans ?_
      rfl
  · refine (S_aload_n rfl at_49_106).trans ?_
    refine (S_aload_n rfl at_49_107).trans ?_
    refine (H_get1 (ka_55 L _) rfl at_49_108).trans ?_
    refine (S_aload_n rfl at_49_111).trans ?_
    refine (S_getR (ka_55 L _) rfl (f_55_9 L _) at_49_112).trans ?_
    refine (S_iload_n rfl at_49_115).trans ?_
    refine (H_laload (ka_60 L _) at_49_116).trans ?_
    refine ite_congr rfl (fun hi => ?_) (fun _ => rfl)
    refine (S_lneg at_49_117).trans ?_
    refine (S_aload_n rfl at_49_118).trans ?_
    refine (S_getR (ka_55 L _) rfl (f_55_8 L _) at_49_119).trans ?_
    refine (S_iload_n rfl at_49_122).trans ?_
    refine (H_laload (ka_59 L _) at_49_123).trans ?_
    refine ite_congr rfl (fun hi => ?_) (fun _ => rfl)
    refine (S_iload_n rfl at_49_124).trans ?_
    refine (S_iload_n rfl at_49_125).trans ?_
    refine (S_invv (b := 5) (by decide) kn_51 rfl (kd_55 L _) (Nat.le_of_ble_eq_true rfl) at_49_126).trans ?_
    rfl
theorem T49_85_55 {C : Nat → List j_V → j_H → Option j_Z} {L : j_B} {m : j_M0} {x1 : Int} {x2 : Int} {x3 : Int} {s1 : Int} {t2 : Int} : j_fin C 49 85 [some (jR 55), some (jI x1), some (jI x2), some (jI x3), none, none] [jL t2, jI s1, jR 63] (hH L m) = if 0 ≤ s1 ∧ s1 < 5 then if 0 ≤ x3 ∧ x3 < 5 then (C 144 [jL ((j_up m 63 s1.toNat t2) 63 x3.toNat)] (hH L (j_up m 63 s1.toNat t2))).bind fun z => j_fin C 49 95 [some (jR 55), some (jI x1), some (jI x2), some (jI x3), none, none] (z.1.toList ++ []) z.2 else none else none := by
  refine (H_lastore (by omega) (ka_63 L _) at_49_85).trans ?_
  refine ite_congr rfl (fun hi => ?_) (fun _ => rfl)
  refine (S_aload_n rfl at_49_86).trans ?_
  refine (S_getR (ka_55 L _) rfl (f_55_12 L _) at_49_87).trans ?_
  refine (S_iload_n rfl at_49_90).trans ?_
  refine (H_laload (ka_63 L _) at_49_91).trans ?_
  refine ite_congr rfl (fun hi => ?_) (fun _ => rfl)
  refine (S_invs (by decide) (Nat.le_of_ble_eq_true rfl) (Nat.le_of_ble_eq_true rfl) at_49_92).trans ?_
  rfl
theorem T49_95_55 {C : Nat → List j_V → j_H → Option j_Z} {L : j_B} {m : j_M0} {x1 : Int} {x2 : Int} {x3 : Int} {s0 : Int} : j_fin C 49 95 [some (jR 55), some (jI x1), some (jI x2), some (jI x3), none, none] [jI s0] (hH L m) = if s0 = 0 then some (some (jI 0), hH L m) else j_fin C 49 30 [some (jR 55), some (jI x1), some (jI x2), some (jI (w32 (x3 + 1))), none, none] [] (hH L m) := by
  refine (S_if_ne at_49_95).trans ?_
  refine ite_congr rfl (fun _ => ?_) (fun _ => ?_)
  · refine (S_iconst at_49_98).trans ?_
    exact (S_iretz rfl at_49_99).trans (if_pos (by decide))
  · refine (S_iinc (l1 := [some (jR 55), some (jI x1), some (jI x2), some (jI (w32 (x3 + 1))), none, none]) rfl rfl at_49_100).trans ?_
    refine (S_goto at_49_103).trans ?_
    rfl
theorem T49_129_55 {C : Nat → List j_V → j_H → Option j_Z} {L : j_B} {m : j_M0} {x1 : Int} {x2 : Int} {x3 : Int} {t0 : Int} : j_fin C 49 129 [some (jR 55), some (jI x1), some (jI x2), some (jI x3), none, none] [jL t0] (hH L m) = (C 144 [jL t0] (hH L m)).bind fun z => j_fin C 49 134 [some (jR 55), some (jI x1), some (jI x2), some (jL t0), none, none] (z.1.toList ++ []) z.2 := by
  refine (S_lstore_n (l1 := [some (jR 55), some (jI x1), some (jI x2), some (jL t0), none, none]) rfl at_49_129).trans ?_
  refine (S_lload_n rfl at_49_130).trans ?_
  refine (S_invs (by decide) (Nat.le_of_ble_eq_true rfl) (Nat.le_of_ble_eq_true rfl) at_49_131).trans ?_
  rfl
theorem T49_134_55 {C : Nat → List j_V → j_H → Option j_Z} {L : j_B} {m : j_M0} {x1 : Int} {x2 : Int} {y3 : Int} {s0 : Int} : j_fin C 49 134 [some (jR 55), some (jI x1), some (jI x2), some (jL y3), none, none] [jI s0] (hH L m) = if s0 = 0 then some (some (jI 0), hH L m) else if 0 ≤ (w32 ((w32 (x1 * 5)) + x2)) ∧ (w32 ((w32 (x1 * 5)) + x2)) < 100 then if 0 ≤ (w32 (((j_up (j_up m 55 3 y3) 55 4 (w64 (-((j_up m 55 3 y3) 58 (w32 ((w32 (x1 * 5)) + x2)).toNat)))) 55 0) * 5)) ∧ 0 ≤ (0 : Int) ∧ 0 ≤ (0 : Int) ∧ (0 : Int) + (w32 (((j_up (j_up m 55 3 y3) 55 4 (w64 (-((j_up m 55 3 y3) 58 (w32 ((w32 (x1 * 5)) + x2)).toNat)))) 55 0) * 5)) ≤ 100 ∧ (0 : Int) + (w32 (((j_up (j_up m 55 3 y3) 55 4 (w64 (-((j_up m 55 3 y3) 58 (w32 ((w32 (x1 * 5)) + x2)).toNat)))) 55 0) * 5)) ≤ 100 then if 0 ≤ ((j_cpy (j_up (j_up m 55 3 y3) 55 4 (w64 (-((j_up m 55 3 y3) 58 (w32 ((w32 (x1 * 5)) + x2)).toNat)))) 61 0 58 0 (w32 (((j_up (j_up m 55 3 y3) 55 4 (w64 (-((j_up m 55 3 y3) 58 (w32 ((w32 (x1 * 5)) + x2)).toNat)))) 55 0) * 5)).toNat) 55 0) ∧ 0 ≤ (0 : Int) ∧ 0 ≤ (0 : Int) ∧ (0 : Int) + ((j_cpy (j_up (j_up m 55 3 y3) 55 4 (w64 (-((j_up m 55 3 y3) 58 (w32 ((w32 (x1 * 5)) + x2)).toNat)))) 61 0 58 0 (w32 (((j_up (j_up m 55 3 y3) 55 4 (w64 (-((j_up m 55 3 y3) 58 (w32 ((w32 (x1 * 5)) + x2)).toNat)))) 55 0) * 5)).toNat) 55 0) ≤ 20 ∧ (0 : Int) + ((j_cpy (j_up (j_up m 55 3 y3) 55 4 (w64 (-((j_up m 55 3 y3) 58 (w32 ((w32 (x1 * 5)) + x2)).toNat)))) 61 0 58 0 (w32 (((j_up (j_up m 55 3 y3) 55 4 (w64 (-((j_up m 55 3 y3) 58 (w32 ((w32 (x1 * 5)) + x2)).toNat)))) 55 0) * 5)).toNat) 55 0) ≤ 20 then if 0 ≤ ((j_cpy (j_cpy (j_up (j_up m 55 3 y3) 55 4 (w64 (-((j_up m 55 3 y3) 58 (w32 ((w32 (x1 * 5)) + x2)).toNat)))) 61 0 58 0 (w32 (((j_up (j_up m 55 3 y3) 55 4 (w64 (-((j_up m 55 3 y3) 58 (w32 ((w32 (x1 * 5)) + x2)).toNat)))) 55 0) * 5)).toNat) 62 0 59 0 ((j_cpy (j_up (j_up m 55 3 y3) 55 4 (w64 (-((j_up m 55 3 y3) 58 (w32 ((w32 (x1 * 5)) + x2)).toNat)))) 61 0 58 0 (w32 (((j_up (j_up m 55 3 y3) 55 4 (w64 (-((j_up m 55 3 y3) 58 (w32 ((w32 (x1 * 5)) + x2)).toNat)))) 55 0) * 5)).toNat) 55 0).toNat) 55 1) ∧ 0 ≤ (0 : Int) ∧ 0 ≤ (0 : Int) ∧ (0 : Int) + ((j_cpy (j_cpy (j_up (j_up m 55 3 y3) 55 4 (w64 (-((j_up m 55 3 y3) 58 (w32 ((w32 (x1 * 5)) + x2)).toNat)))) 61 0 58 0 (w32 (((j_up (j_up m 55 3 y3) 55 4 (w64 (-((j_up m 55 3 y3) 58 (w32 ((w32 (x1 * 5)) + x2)).toNat)))) 55 0) * 5)).toNat) 62 0 59 0 ((j_cpy (j_up (j_up m 55 3 y3) 55 4 (w64 (-((j_up m 55 3 y3) 58 (w32 ((w32 (x1 * 5)) + x2)).toNat)))) 61 0 58 0 (w32 (((j_up (j_up m 55 3 y3) 55 4 (w64 (-((j_up m 55 3 y3) 58 (w32 ((w32 (x1 * 5)) + x2)).toNat)))) 55 0) * 5)).toNat) 55 0).toNat) 55 1) ≤ 5 ∧ (0 : Int) + ((j_cpy (j_cpy (j_up (j_up m 55 3 y3) 55 4 (w64 (-((j_up m 55 3 y3) 58 (w32 ((w32 (x1 * 5)) + x2)).toNat)))) 61 0 58 0 (w32 (((j_up (j_up m 55 3 y3) 55 4 (w64 (-((j_up m 55 3 y3) 58 (w32 ((w32 (x1 * 5)) + x2)).toNat)))) 55 0) * 5)).toNat) 62 0 59 0 ((j_cpy (j_up (j_up m 55 3 y3) 55 4 (w64 (-((j_up m 55 3 y3) 58 (w32 ((w32 (x1 * 5)) + x2)).toNat)))) 61 0 58 0 (w32 (((j_up (j_up m 55 3 y3) 55 4 (w64 (-((j_up m 55 3 y3) 58 (w32 ((w32 (x1 * 5)) + x2)).toNat)))) 55 0) * 5)).toNat) 55 0).toNat) 55 1) ≤ 5 then if 0 ≤ x1 ∧ x1 < 20 then if 0 ≤ x2 ∧ x2 < 5 then if 0 ≤ x1 ∧ x1 < 20 then if 0 ≤ x2 ∧ x2 < 5 then some (some (jI 1), hH L (j_up (j_up (j_up (j_cpy (j_cpy (j_cpy (j_up (j_up m 55 3 y3) 55 4 (w64 (-((j_up m 55 3 y3) 58 (w32 ((w32 (x1 * 5)) + x2)).toNat)))) 61 0 58 0 (w32 (((j_up (j_up m 55 3 y3) 55 4 (w64 (-((j_up m 55 3 y3) 58 (w32 ((w32 (x1 * 5)) + x2)).toNat)))) 55 0) * 5)).toNat) 62 0 59 0 ((j_cpy (j_up (j_up m 55 3 y3) 55 4 (w64 (-((j_up m 55 3 y3) 58 (w32 ((w32 (x1 * 5)) + x2)).toNat)))) 61 0 58 0 (w32 (((j_up (j_up m 55 3 y3) 55 4 (w64 (-((j_up m 55 3 y3) 58 (w32 ((w32 (x1 * 5)) + x2)).toNat)))) 55 0) * 5)).toNat) 55 0).toNat) 63 0 60 0 ((j_cpy (j_cpy (j_up (j_up m 55 3 y3) 55 4 (w64 (-((j_up m 55 3 y3) 58 (w32 ((w32 (x1 * 5)) + x2)).toNat)))) 61 0 58 0 (w32 (((j_up (j_up m 55 3 y3) 55 4 (w64 (-((j_up m 55 3 y3) 58 (w32 ((w32 (x1 * 5)) + x2)).toNat)))) 55 0) * 5)).toNat) 62 0 59 0 ((j_cpy (j_up (j_up m 55 3 y3) 55 4 (w64 (-((j_up m 55 3 y3) 58 (w32 ((w32 (x1 * 5)) + x2)).toNat)))) 61 0 58 0 (w32 (((j_up (j_up m 55 3 y3) 55 4 (w64 (-((j_up m 55 3 y3) 58 (w32 ((w32 (x1 * 5)) + x2)).toNat)))) 55 0) * 5)).toNat) 55 0).toNat) 55 1).toNat) 56 x1.toNat ((j_cpy (j_cpy (j_cpy (j_up (j_up m 55 3 y3) 55 4 (w64 (-((j_up m 55 3 y3) 58 (w32 ((w32 (x1 * 5)) + x2)).toNat)))) 61 0 58 0 (w32 (((j_up (j_up m 55 3 y3) 55 4 (w64 (-((j_up m 55 3 y3) 58 (w32 ((w32 (x1 * 5)) + x2)).toNat)))) 55 0) * 5)).toNat) 62 0 59 0 ((j_cpy (j_up (j_up m 55 3 y3) 55 4 (w64 (-((j_up m 55 3 y3) 58 (w32 ((w32 (x1 * 5)) + x2)).toNat)))) 61 0 58 0 (w32 (((j_up (j_up m 55 3 y3) 55 4 (w64 (-((j_up m 55 3 y3) 58 (w32 ((w32 (x1 * 5)) + x2)).toNat)))) 55 0) * 5)).toNat) 55 0).toNat) 63 0 60 0 ((j_cpy (j_cpy (j_up (j_up m 55 3 y3) 55 4 (w64 (-((j_up m 55 3 y3) 58 (w32 ((w32 (x1 * 5)) + x2)).toNat)))) 61 0 58 0 (w32 (((j_up (j_up m 55 3 y3) 55 4 (w64 (-((j_up m 55 3 y3) 58 (w32 ((w32 (x1 * 5)) + x2)).toNat)))) 55 0) * 5)).toNat) 62 0 59 0 ((j_cpy (j_up (j_up m 55 3 y3) 55 4 (w64 (-((j_up m 55 3 y3) 58 (w32 ((w32 (x1 * 5)) + x2)).toNat)))) 61 0 58 0 (w32 (((j_up (j_up m 55 3 y3) 55 4 (w64 (-((j_up m 55 3 y3) 58 (w32 ((w32 (x1 * 5)) + x2)).toNat)))) 55 0) * 5)).toNat) 55 0).toNat) 55 1).toNat) 57 x2.toNat)) 57 x2.toNat ((j_cpy (j_cpy (j_cpy (j_up (j_up m 55 3 y3) 55 4 (w64 (-((j_up m 55 3 y3) 58 (w32 ((w32 (x1 * 5)) + x2)).toNat)))) 61 0 58 0 (w32 (((j_up (j_up m 55 3 y3) 55 4 (w64 (-((j_up m 55 3 y3) 58 (w32 ((w32 (x1 * 5)) + x2)).toNat)))) 55 0) * 5)).toNat) 62 0 59 0 ((j_cpy (j_up (j_up m 55 3 y3) 55 4 (w64 (-((j_up m 55 3 y3) 58 (w32 ((w32 (x1 * 5)) + x2)).toNat)))) 61 0 58 0 (w32 (((j_up (j_up m 55 3 y3) 55 4 (w64 (-((j_up m 55 3 y3) 58 (w32 ((w32 (x1 * 5)) + x2)).toNat)))) 55 0) * 5)).toNat) 55 0).toNat) 63 0 60 0 ((j_cpy (j_cpy (j_up (j_up m 55 3 y3) 55 4 (w64 (-((j_up m 55 3 y3) 58 (w32 ((w32 (x1 * 5)) + x2)).toNat)))) 61 0 58 0 (w32 (((j_up (j_up m 55 3 y3) 55 4 (w64 (-((j_up m 55 3 y3) 58 (w32 ((w32 (x1 * 5)) + x2)).toNat)))) 55 0) * 5)).toNat) 62 0 59 0 ((j_cpy (j_up (j_up m 55 3 y3) 55 4 (w64 (-((j_up m 55 3 y3) 58 (w32 ((w32 (x1 * 5)) + x2)).toNat)))) 61 0 58 0 (w32 (((j_up (j_up m 55 3 y3) 55 4 (w64 (-((j_up m 55 3 y3) 58 (w32 ((w32 (x1 * 5)) + x2)).toNat)))) 55 0) * 5)).toNat) 55 0).toNat) 55 1).toNat) 56 x1.toNat)) 55 2 (w32 (((j_up (j_up (j_cpy (j_cpy (j_cpy (j_up (j_up m 55 3 y3) 55 4 (w64 (-((j_up m 55 3 y3) 58 (w32 ((w32 (x1 * 5)) + x2)).toNat)))) 61 0 58 0 (w32 (((j_up (j_up m 55 3 y3) 55 4 (w64 (-((j_up m 55 3 y3) 58 (w32 ((w32 (x1 * 5)) + x2)).toNat)))) 55 0) * 5)).toNat) 62 0 59 0 ((j_cpy (j_up (j_up m 55 3 y3) 55 4 (w64 (-((j_up m 55 3 y3) 58 (w32 ((w32 (x1 * 5)) + x2)).toNat)))) 61 0 58 0 (w32 (((j_up (j_up m 55 3 y3) 55 4 (w64 (-((j_up m 55 3 y3) 58 (w32 ((w32 (x1 * 5)) + x2)).toNat)))) 55 0) * 5)).toNat) 55 0).toNat) 63 0 60 0 ((j_cpy (j_cpy (j_up (j_up m 55 3 y3) 55 4 (w64 (-((j_up m 55 3 y3) 58 (w32 ((w32 (x1 * 5)) + x2)).toNat)))) 61 0 58 0 (w32 (((j_up (j_up m 55 3 y3) 55 4 (w64 (-((j_up m 55 3 y3) 58 (w32 ((w32 (x1 * 5)) + x2)).toNat)))) 55 0) * 5)).toNat) 62 0 59 0 ((j_cpy (j_up (j_up m 55 3 y3) 55 4 (w64 (-((j_up m 55 3 y3) 58 (w32 ((w32 (x1 * 5)) + x2)).toNat)))) 61 0 58 0 (w32 (((j_up (j_up m 55 3 y3) 55 4 (w64 (-((j_up m 55 3 y3) 58 (w32 ((w32 (x1 * 5)) + x2)).toNat)))) 55 0) * 5)).toNat) 55 0).toNat) 55 1).toNat) 56 x1.toNat ((j_cpy (j_cpy (j_cpy (j_up (j_up m 55 3 y3) 55 4 (w64 (-((j_up m 55 3 y3) 58 (w32 ((w32 (x1 * 5)) + x2)).toNat)))) 61 0 58 0 (w32 (((j_up (j_up m 55 3 y3) 55 4 (w64 (-((j_up m 55 3 y3) 58 (w32 ((w32 (x1 * 5)) + x2)).toNat)))) 55 0) * 5)).toNat) 62 0 59 0 ((j_cpy (j_up (j_up m 55 3 y3) 55 4 (w64 (-((j_up m 55 3 y3) 58 (w32 ((w32 (x1 * 5)) + x2)).toNat)))) 61 0 58 0 (w32 (((j_up (j_up m 55 3 y3) 55 4 (w64 (-((j_up m 55 3 y3) 58 (w32 ((w32 (x1 * 5)) + x2)).toNat)))) 55 0) * 5)).toNat) 55 0).toNat) 63 0 60 0 ((j_cpy (j_cpy (j_up (j_up m 55 3 y3) 55 4 (w64 (-((j_up m 55 3 y3) 58 (w32 ((w32 (x1 * 5)) + x2)).toNat)))) 61 0 58 0 (w32 (((j_up (j_up m 55 3 y3) 55 4 (w64 (-((j_up m 55 3 y3) 58 (w32 ((w32 (x1 * 5)) + x2)).toNat)))) 55 0) * 5)).toNat) 62 0 59 0 ((j_cpy (j_up (j_up m 55 3 y3) 55 4 (w64 (-((j_up m 55 3 y3) 58 (w32 ((w32 (x1 * 5)) + x2)).toNat)))) 61 0 58 0 (w32 (((j_up (j_up m 55 3 y3) 55 4 (w64 (-((j_up m 55 3 y3) 58 (w32 ((w32 (x1 * 5)) + x2)).toNat)))) 55 0) * 5)).toNat) 55 0).toNat) 55 1).toNat) 57 x2.toNat)) 57 x2.toNat ((j_cpy (j_cpy (j_cpy (j_up (j_up m 55 3 y3) 55 4 (w64 (-((j_up m 55 3 y3) 58 (w32 ((w32 (x1 * 5)) + x2)).toNat)))) 61 0 58 0 (w32 (((j_up (j_up m 55 3 y3) 55 4 (w64 (-((j_up m 55 3 y3) 58 (w32 ((w32 (x1 * 5)) + x2)).toNat)))) 55 0) * 5)).toNat) 62 0 59 0 ((j_cpy (j_up (j_up m 55 3 y3) 55 4 (w64 (-((j_up m 55 3 y3) 58 (w32 ((w32 (x1 * 5)) + x2)).toNat)))) 61 0 58 0 (w32 (((j_up (j_up m 55 3 y3) 55 4 (w64 (-((j_up m 55 3 y3) 58 (w32 ((w32 (x1 * 5)) + x2)).toNat)))) 55 0) * 5)).toNat) 55 0).toNat) 63 0 60 0 ((j_cpy (j_cpy (j_up (j_up m 55 3 y3) 55 4 (w64 (-((j_up m 55 3 y3) 58 (w32 ((w32 (x1 * 5)) + x2)).toNat)))) 61 0 58 0 (w32 (((j_up (j_up m 55 3 y3) 55 4 (w64 (-((j_up m 55 3 y3) 58 (w32 ((w32 (x1 * 5)) + x2)).toNat)))) 55 0) * 5)).toNat) 62 0 59 0 ((j_cpy (j_up (j_up m 55 3 y3) 55 4 (w64 (-((j_up m 55 3 y3) 58 (w32 ((w32 (x1 * 5)) + x2)).toNat)))) 61 0 58 0 (w32 (((j_up (j_up m 55 3 y3) 55 4 (w64 (-((j_up m 55 3 y3) 58 (w32 ((w32 (x1 * 5)) + x2)).toNat)))) 55 0) * 5)).toNat) 55 0).toNat) 55 1).toNat) 56 x1.toNat)) 55 2) + 1)))) else none else none else none else none else none else none else none else none := by
  refine (S_if_ne at_49_134).trans ?_
  refine ite_congr rfl (fun _ => ?_) (fun _ => ?_)
  · refine (S_iconst at_49_137).trans ?_
    exact (S_iretz rfl at_49_138).trans (if_pos (by decide))
  · refine (S_aload_n rfl at_49_139).trans ?_
    refine (S_lload_n rfl at_49_140).trans ?_
    refine (H_put1 (ka_55 L _) rfl at_49_141).trans ?_
    refine (S_aload_n rfl at_49_144).trans ?_
    refine (S_aload_n rfl at_49_145).trans ?_
    refine (S_getR (ka_55 L _) rfl (f_55_7 L _) at_49_146).trans ?_
    refine (S_iload_n rfl at_49_149).trans ?_
    refine (S_iconst at_49_150).trans ?_
    refine (S_imul at_49_151).trans ?_
    refine (S_iload_n rfl at_49_152).trans ?_
    refine (S_iadd at_49_153).trans ?_
    refine (H_laload (ka_58 L _) at_49_154).trans ?_
    refine ite_congr rfl (fun hi => ?_) (fun _ => rfl)
    refine (S_lneg at_49_155).trans ?_
    refine (H_put1 (ka_55 L _) rfl at_49_156).trans ?_
    refine (S_aload_n rfl at_49_159).trans ?_
    refine (S_getR (ka_55 L _) rfl (f_55_10 L _) at_49_160).trans ?_
    refine (S_iconst at_49_163).trans ?_
    refine (S_aload_n rfl at_49_164).trans ?_
    refine (S_getR (ka_55 L _) rfl (f_55_7 L _) at_49_165).trans ?_
    refine (S_iconst at_49_168).trans ?_
    refine (S_aload_n rfl at_49_169).trans ?_
    refine (H_get0 (ka_55 L _) rfl at_49_170).trans ?_
    refine (S_iconst at_49_173).trans ?_
    refine (S_imul at_49_174).trans ?_
    refine (H_cpy rfl (by decide) (kd_61 L _) (ka_58 L _) (by omega) (Nat.le_of_ble_eq_true rfl) at_49_175).trans ?_
    refine ite_congr rfl (fun hi => ?_) (fun _ => rfl)
    refine (S_aload_n rfl at_49_178).trans ?_
    refine (S_getR (ka_55 L _) rfl (f_55_11 L _) at_49_179).trans ?_
    refine (S_iconst at_49_182).trans ?_
    refine (S_aload_n rfl at_49_183).trans ?_
    refine (S_getR (ka_55 L _) rfl (f_55_8 L _) at_49_184).trans ?_
    refine (S_iconst at_49_187).trans ?_
    refine (S_aload_n rfl at_49_188).trans ?_
    refine (H_get0 (ka_55 L _) rfl at_49_189).trans ?_
    refine (H_cpy rfl (by decide) (kd_62 L _) (ka_59 L _) (by omega) (Nat.le_of_ble_eq_true rfl) at_49_192).trans ?_
    refine ite_congr rfl (fun hi => ?_) (fun _ => rfl)
    refine (S_aload_n rfl at_49_195).trans ?_
    refine (S_getR (ka_55 L _) rfl (f_55_12 L _) at_49_196).trans ?_
    refine (S_iconst at_49_199).trans ?_
    refine (S_aload_n rfl at_49_200).trans ?_
    refine (S_getR (ka_55 L _) rfl (f_55_9 L _) at_49_201).trans ?_
    refine (S_iconst at_49_204).trans ?_
    refine (S_aload_n rfl at_49_205).trans ?_
    refine (H_get0 (ka_55 L _) rfl at_49_206).trans ?_
    refine (H_cpy rfl (by decide) (kd_63 L _) (ka_60 L _) (by omega) (Nat.le_of_ble_eq_true rfl) at_49_209).trans ?_
    refine ite_congr rfl (fun hi => ?_) (fun _ => rfl)
    refine (S_aload_n rfl at_49_212).trans ?_
    refine (S_getR (ka_55 L _) rfl (f_55_5 L _) at_49_213).trans ?_
    refine (S_iload_n rfl at_49_216).trans ?_
    refine (H_iaload (ka_56 L _) at_49_217).trans ?_
    refine ite_congr rfl (fun hi => ?_) (fun _ => rfl)
    refine (S_istore (l1 := [some (jR 55), some (jI x1), some (jI x2), some (jL y3), none, some (jI ((j_cpy (j_cpy (j_cpy (j_up (j_up m 55 3 y3) 55 4 (w64 (-((j_up m 55 3 y3) 58 (w32 ((w32 (x1 * 5)) + x2)).toNat)))) 61 0 58 0 (w32 (((j_up (j_up m 55 3 y3) 55 4 (w64 (-((j_up m 55 3 y3) 58 (w32 ((w32 (x1 * 5)) + x2)).toNat)))) 55 0) * 5)).toNat) 62 0 59 0 ((j_cpy (j_up (j_up m 55 3 y3) 55 4 (w64 (-((j_up m 55 3 y3) 58 (w32 ((w32 (x1 * 5)) + x2)).toNat)))) 61 0 58 0 (w32 (((j_up (j_up m 55 3 y3) 55 4 (w64 (-((j_up m 55 3 y3) 58 (w32 ((w32 (x1 * 5)) + x2)).toNat)))) 55 0) * 5)).toNat) 55 0).toNat) 63 0 60 0 ((j_cpy (j_cpy (j_up (j_up m 55 3 y3) 55 4 (w64 (-((j_up m 55 3 y3) 58 (w32 ((w32 (x1 * 5)) + x2)).toNat)))) 61 0 58 0 (w32 (((j_up (j_up m 55 3 y3) 55 4 (w64 (-((j_up m 55 3 y3) 58 (w32 ((w32 (x1 * 5)) + x2)).toNat)))) 55 0) * 5)).toNat) 62 0 59 0 ((j_cpy (j_up (j_up m 55 3 y3) 55 4 (w64 (-((j_up m 55 3 y3) 58 (w32 ((w32 (x1 * 5)) + x2)).toNat)))) 61 0 58 0 (w32 (((j_up (j_up m 55 3 y3) 55 4 (w64 (-((j_up m 55 3 y3) 58 (w32 ((w32 (x1 * 5)) + x2)).toNat)))) 55 0) * 5)).toNat) 55 0).toNat) 55 1).toNat) 56 x1.toNat))]) rfl at_49_218).trans ?_
    refine (S_aload_n rfl at_49_220).trans ?_
    refine (S_getR (ka_55 L _) rfl (f_55_5 L _) at_49_221).trans ?_
    refine (S_iload_n rfl at_49_224).trans ?_
    refine (S_aload_n rfl at_49_225).trans ?_
    refine (S_getR (ka_55 L _) rfl (f_55_6 L _) at_49_226).trans ?_
    refine (S_iload_n rfl at_49_229).trans ?_
    refine (H_iaload (ka_57 L _) at_49_230).trans ?_
    refine ite_congr rfl (fun hi => ?_) (fun _ => rfl)
    refine (H_iastore (by omega) (ka_56 L _) at_49_231).trans ?_
    refine ite_congr rfl (fun hi => ?_) (fun _ => rfl)
    refine (S_aload_n rfl at_49_232).trans ?_
    refine (S_getR (ka_55 L _) rfl (f_55_6 L _) at_49_233).trans ?_
    refine (S_iload_n rfl at_49_236).trans ?_
    refine (S_iload rfl at_49_237).trans ?_
    refine (H_iastore (by omega) (ka_57 L _) at_49_239).trans ?_
    refine ite_congr rfl (fun hi => ?_) (fun _ => rfl)
    refine (S_aload_n rfl at_49_240).trans ?_
    refine (S_dup rfl at_49_241).trans ?_
    refine (H_get0 (ka_55 L _) rfl at_49_242).trans ?_
    refine (S_iconst at_49_245).trans ?_
    refine (S_iadd at_49_246).trans ?_
    refine (H_put0 (ka_55 L _) rfl at_49_247).trans ?_
    refine (S_iconst at_49_250).trans ?_
    exact (S_iretz rfl at_49_251).trans (if_pos (by decide))
