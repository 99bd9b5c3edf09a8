theorem T50_0_41 {C : Nat → List j_V → j_H → Option j_Z} {L : j_B} {m : j_M0} {x1 : Int} {x2 : Int} {x3 : Int} : j_fin C 50 0 [some (jR 41), some (jI x1), some (jI x2), some (jI x3), none, none, none, none, none, none, none] [] (hH L m) = if 0 ≤ (w32 ((w32 (x1 * 5)) + x3)) ∧ (w32 ((w32 (x1 * 5)) + x3)) < 100 then j_fin C 50 15 [some (jR 41), some (jI x1), some (jI x2), some (jI x3), some (jL (m 44 (w32 ((w32 (x1 * 5)) + x3)).toNat)), none, some (jI 0), none, none, none, none] [] (hH L m) else none := by
  refine (S_aload_n rfl at_50_0).trans ?_
  refine (S_getR (ka_41 L _) rfl (f_41_7 L _) at_50_1).trans ?_
  refine (S_iload_n rfl at_50_4).trans ?_
  refine (S_iconst at_50_5).trans ?_
  refine (S_imul at_50_6).trans ?_
  refine (S_iload_n rfl at_50_7).trans ?_
  refine (S_iadd at_50_8).trans ?_
  refine (H_laload (ka_44 L _) at_50_9).trans ?_
  refine ite_congr rfl (fun hi => ?_) (fun _ => rfl)
  refine (S_lstore (l1 := [some (jR 41), some (jI x1), some (jI x2), some (jI x3), some (jL (m 44 (w32 ((w32 (x1 * 5)) + x3)).toNat)), none, none, none, none, none, none]) rfl at_50_10).trans ?_
  refine (S_iconst at_50_12).trans ?_
  refine (S_istore (l1 := [some (jR 41), some (jI x1), some (jI x2), some (jI x3), some (jL (m 44 (w32 ((w32 (x1 * 5)) + x3)).toNat)), none, some (jI 0), none, none, none, none]) rfl at_50_13).trans ?_
  rfl
theorem T50_15_41 {C : Nat → List j_V → j_H → Option j_Z} {L : j_B} {m : j_M0} {x1 : Int} {x2 : Int} {x3 : Int} {y4 : Int} {x6 : Int} {o7 : Option j_V} {o9 : Option j_V} : j_fin C 50 15 [some (jR 41), some (jI x1), some (jI x2), some (jI x3), some (jL y4), none, some (jI x6), o7, none, o9, none] [] (hH L m) = if x6 < (m 41 1) then if 0 ≤ (w32 ((w32 (x1 * 5)) + x6)) ∧ (w32 ((w32 (x1 * 5)) + x6)) < 100 then if x1 = x2 then if x6 = x3 then (C 144 [jL (w64 (-(m 41 4)))] (hH L m)).bind fun z => j_fin C 50 105 [some (jR 41), some (jI x1), some (jI x2), some (jI x3), some (jL y4), none, some (jI x6), some (jL (m 44 (w32 ((w32 (x1 * 5)) + x6)).toNat)), none, some (jL (w64 (-(m 41 4)))), none] (z.1.toList ++ []) z.2 else (C 144 [jL (w64 (-(m 44 (w32 ((w32 (x1 * 5)) + x6)).toNat)))] (hH L m)).bind fun z => j_fin C 50 105 [some (jR 41), some (jI x1), some (jI x2), some (jI x3), some (jL y4), none, some (jI x6), some (jL (m 44 (w32 ((w32 (x1 * 5)) + x6)).toNat)), none, some (jL (w64 (-(m 44 (w32 ((w32 (x1 * 5)) + x6)).toNat)))), none] (z.1.toList ++ []) z.2 else if x6 = x3 then (C 144 [jL (m 44 (w32 ((w32 (x1 * 5)) + x6)).toNat)] (hH L m)).bind fun z => j_fin C 50 105 [some (jR 41), some (jI x1), some (jI x2), some (jI x3), some (jL y4), none, some (jI x6), some (jL (m 44 (w32 ((w32 (x1 * 5)) + x6)).toNat)), none, some (jL (m 44 (w32 ((w32 (x1 * 5)) + x6)).toNat)), none] (z.1.toList ++ []) z.2 else if 0 ≤ (w32 ((w32 (x2 * 5)) + x6)) ∧ (w32 ((w32 (x2 * 5)) + x6)) < 100 then (C 51 [jR 41, jL (m 44 (w32 ((w32 (x1 * 5)) + x6)).toNat), jL y4, jL (m 44 (w32 ((w32 (x2 * 5)) + x6)).toNat), jI x2, jI x3] (hH L m)).bind fun z => j_fin C 50 98 [some (jR 41), some (jI x1), some (jI x2), some (jI x3), some (jL y4), none, some (jI x6), some (jL (m 44 (w32 ((w32 (x1 * 5)) + x6)).toNat)), none, o9, none] (z.1.toList ++ []) z.2 else none else none else if x1 = x2 then if 0 ≤ x2 ∧ x2 < 20 then j_fin C 50 169 [some (jR 41), some (jI x1), some (jI x2), some (jI x3), some (jL y4), none, some (jI x6), o7, none, o9, none] [jL (w64 (-(m 45 x2.toNat))), jI x1, jR 48] (hH L m) else none else if 0 ≤ x1 ∧ x1 < 20 then if 0 ≤ x2 ∧ x2 < 20 then (C 51 [jR 41, jL (m 45 x1.toNat), jL y4, jL (m 45 x2.toNat), jI x2, jI x3] (hH L m)).bind fun z => j_fin C 50 169 [some (jR 41), some (jI x1), some (jI x2), some (jI x3), some (jL y4), none, some (jI x6), o7, none, o9, none] (z.1.toList ++ [jI x1, jR 48]) z.2 else none else none := by
  refine (S_iload rfl at_50_15).trans ?_
  refine (S_aload_n rfl at_50_17).trans ?_
  refine (H_get0 (ka_41 L _) rfl at_50_18).trans ?_
  refine (S_icmp_ge at_50_21).trans ?_
  refine ite_congr rfl (fun _ => ?_) (fun _ => ?_)
  · refine (S_aload_n rfl at_50_24).trans ?_
    refine (S_getR (ka_41 L _) rfl (f_41_7 L _) at_50_25).trans ?_
    refine (S_iload_n rfl at_50_28).trans ?_
    refine (S_iconst at_50_29).trans ?_
    refine (S_imul at_50_30).trans ?_
    refine (S_iload rfl at_50_31).trans ?_
    refine (S_iadd at_50_33).trans ?_
    refine (H_laload (ka_44 L _) at_50_34).trans ?_
    refine ite_congr rfl (fun hi => ?_) (fun _ => rfl)
    refine (S_lstore (l1 := [some (jR 41), some (jI x1), some (jI x2), some (jI x3), some (jL y4), none, some (jI x6), some (jL (m 44 (w32 ((w32 (x1 * 5)) + x6)).toNat)), none, o9, none]) rfl at_50_35).trans ?_
    refine (S_iload_n rfl at_50_37).trans ?_
    refine (S_iload_n rfl at_50_38).trans ?_
    refine (S_icmp_ne at_50_39).trans ?_
    refine ite_congr rfl (fun _ => ?_) (fun _ => ?_)
    · refine (S_iload rfl at_50_42).trans ?_
      refine (S_iload_n rfl at_50_44).trans ?_
      refine (S_icmp_ne at_50_45).trans ?_
      refine ite_congr rfl (fun _ => ?_) (fun _ => ?_)
      · refine (S_aload_n rfl at_50_48).trans ?_
        refine (H_get1 (ka_41 L _) rfl at_50_49).trans ?_
        refine (S_lneg at_50_52).trans ?_
        refine (S_goto at_50_53).trans ?_
        refine (S_lstore (l1 := [some (jR 41), some (jI x1), some (jI x2), some (jI x3), some (jL y4), none, some (jI x6), some (jL (m 44 (w32 ((w32 (x1 * 5)) + x6)).toNat)), none, some (jL (w64 (-(m 41 4)))), none]) rfl at_50_59).trans ?_
        refine (S_goto at_50_61).trans ?_
        refine (S_lload rfl at_50_100).trans ?_
        refine (S_invs (by decide) (Nat.le_of_ble_eq_true rfl) (Nat.le_of_ble_eq_true rfl) at_50_102).trans ?_
        rfl
      · refine (S_lload rfl at_50_56).trans ?_
        refine (S_lneg at_50_58).trans ?_
        refine (S_lstore (l1 := [some (jR 41), some (jI x1), some (jI x2), some (jI x3), some (jL y4), none, some (jI x6), some (jL (m 44 (w32 ((w32 (x1 * 5)) + x6)).toNat)), none, some (jL (w64 (-(m 44 (w32 ((w32 (x1 * 5)) + x6)).toNat)))), none]) rfl at_50_59).trans ?_
        refine (S_goto at_50_61).trans ?_
        refine (S_lload rfl at_50_100).trans ?_
        refine (S_invs (by decide) (Nat.le_of_ble_eq_true rfl) (Nat.le_of_ble_eq_true rfl) at_50_102).trans ?_
        rfl
    · refine (S_iload rfl at_50_64).trans ?_
      refine (S_iload_n rfl at_50_66).trans ?_
      refine (S_icmp_ne at_50_67).trans ?_
      refine ite_congr rfl (fun _ => ?_) (fun _ => ?_)
      · refine (S_lload rfl at_50_70).trans ?_
        refine (S_lstore (l1 := [some (jR 41), some (jI x1), some (jI x2), some (jI x3), some (jL y4), none, some (jI x6), some (jL (m 44 (w32 ((w32 (x1 * 5)) + x6)).toNat)), none, some (jL (m 44 (w32 ((w32 (x1 * 5)) + x6)).toNat)), none]) rfl at_50_72).trans ?_
        refine (S_goto at_50_74).trans ?_
        refine (S_lload rfl at_50_100).trans ?_
        refine (S_invs (by decide) (Nat.le_of_ble_eq_true rfl) (Nat.le_of_ble_eq_true rfl) at_50_102).trans ?_
        rfl
      · refine (S_aload_n rfl at_50_77).trans ?_
        refine (S_lload rfl at_50_78).trans ?_
        refine (S_lload rfl at_50_80).trans ?_
        refine (S_aload_n rfl at_50_82).trans ?_
        refine (S_getR (ka_41 L _) rfl (f_41_7 L _) at_50_83).trans ?_
        refine (S_iload_n rfl at_50_86).trans ?_
        refine (S_iconst at_50_87).trans ?_
        refine (S_imul at_50_88).trans ?_
        refine (S_iload rfl at_50_89).trans ?_
        refine (S_iadd at_50_91).trans ?_
        refine (H_laload (ka_44 L _) at_50_92).trans ?_
        refine ite_congr rfl (fun hi => ?_) (fun _ => rfl)
        refine (S_iload_n rfl at_50_93).trans ?_
        refine (S_iload_n rfl at_50_94).trans ?_
        refine (S_invv (b := 5) (by decide) kn_51 rfl (kd_41 L _) (Nat.le_of_ble_eq_true rfl) at_50_95).trans ?_
        rfl
  · refine (S_aload_n rfl at_50_129).trans ?_
    refine (S_getR (ka_41 L _) rfl (f_41_11 L _) at_50_130).trans ?_
    refine (S_iload_n rfl at_50_133).trans ?_
    refine (S_iload_n rfl at_50_134).trans ?_
    refine (S_iload_n rfl at_50_135).trans ?_
    refine (S_icmp_ne at_50_136).trans ?_
    refine ite_congr rfl (fun _ => ?_) (fun _ => ?_)
    · refine (S_aload_n rfl at_50_139).trans ?_
      refine (S_getR (ka_41 L _) rfl (f_41_8 L _) at_50_140).trans ?_
      refine (S_iload_n rfl at_50_143).trans ?_
      refine (H_laload (ka_45 L _) at_50_144).trans ?_
      refine ite_congr rfl (fun hi => ?_) (fun _ => rfl)
      refine (S_lneg at_50_145).trans ?_
      refine (S_goto at_50_146).trans ?_
      rfl
    · refine (S_aload_n rfl at_50_149).trans ?_
      refine (S_aload_n rfl at_50_150).trans ?_
      refine (S_getR (ka_41 L _) rfl (f_41_8 L _) at_50_151).trans ?_
      refine (S_iload_n rfl at_50_154).trans ?_
      refine (H_laload (ka_45 L _) at_50_155).trans ?_
      refine ite_congr rfl (fun hi => ?_) (fun _ => rfl)
      refine (S_lload rfl at_50_156).trans ?_
      refine (S_aload_n rfl at_50_158).trans ?_
      refine (S_getR (ka_41 L _) rfl (f_41_8 L _) at_50_159).trans ?_
      refine (S_iload_n rfl at_50_162).trans ?_
      refine (H_laload (ka_45 L _) at_50_163).trans ?_
      refine ite_congr rfl (fun hi => ?_) (fun _ => rfl)
      refine (S_iload_n rfl at_50_164).trans ?_
      refine (S_iload_n rfl at_50_165).trans ?_
      refine (S_invv (b := 5) (by decide) kn_51 rfl (kd_41 L _) (Nat.le_of_ble_eq_true rfl) at_50_166).trans ?_
      rfl
theorem T50_98_41 {C : Nat → List j_V → j_H → Option j_Z} {L : j_B} {m : j_M0} {x1 : Int} {x2 : Int} {x3 : Int} {y4 : Int} {x6 : Int} {y7 : Int} {o9 : Option j_V} {t0 : Int} : j_fin C 50 98 [some (jR 41), some (jI x1), some (jI x2), some (jI x3), some (jL y4), none, some (jI x6), some (jL y7), none, o9, none] [jL t0] (hH L m) = (C 144 [jL t0] (hH L m)).bind fun z => j_fin C 50 105 [some (jR 41), some (jI x1), some (jI x2), some (jI x3), some (jL y4), none, some (jI x6), some (jL y7), none, some (jL t0), none] (z.1.toList ++ []) z.2 := by
  refine (S_lstore (l1 := [some (jR 41), some (jI x1), some (jI x2), some (jI x3), some (jL y4), none, some (jI x6), some (jL y7), none, some (jL t0), none]) rfl at_50_98).trans ?_
  refine (S_lload rfl at_50_100).trans ?_
  refine (S_invs (by decide) (Nat.le_of_ble_eq_true rfl) (Nat.le_of_ble_eq_true rfl) at_50_102).trans ?_
  rfl
theorem T50_105_41 {C : Nat → List j_V → j_H → Option j_Z} {L : j_B} {m : j_M0} {x1 : Int} {x2 : Int} {x3 : Int} {y4 : Int} {x6 : Int} {y7 : Int} {y9 : Int} {s0 : Int} : j_fin C 50 105 [some (jR 41), some (jI x1), some (jI x2), some (jI x3), some (jL y4), none, some (jI x6), some (jL y7), none, some (jL y9), none] [jI s0] (hH L m) = if s0 = 0 then some (some (jI 0), hH L m) else if 0 ≤ (w32 ((w32 (x1 * 5)) + x6)) ∧ (w32 ((w32 (x1 * 5)) + x6)) < 100 then j_fin C 50 15 [some (jR 41), some (jI x1), some (jI x2), some (jI x3), some (jL y4), none, some (jI (w32 (x6 + 1))), some (jL y7), none, some (jL y9), none] [] (hH L (j_up m 47 (w32 ((w32 (x1 * 5)) + x6)).toNat y9)) else none := by
  refine (S_if_ne at_50_105).trans ?_
  refine ite_congr rfl (fun _ => ?_) (fun _ => ?_)
  · refine (S_iconst at_50_108).trans ?_
    exact (S_iretz rfl at_50_109).trans (if_pos (by decide))
  · refine (S_aload_n rfl at_50_110).trans ?_
    refine (S_getR (ka_41 L _) rfl (f_41_10 L _) at_50_111).trans ?_
    refine (S_iload_n rfl at_50_114).trans ?_
    refine (S_iconst at_50_115).trans ?_
    refine (S_imul at_50_116).trans ?_
    refine (S_iload rfl at_50_117).trans ?_
    refine (S_iadd at_50_119).trans ?_
    refine (S_lload rfl at_50_120).trans ?_
    refine (H_lastore (by omega) (ka_47 L _) at_50_122).trans ?_
    refine ite_congr rfl (fun hi => ?_) (fun _ => rfl)
    refine (S_iinc (l1 := [some (jR 41), some (jI x1), some (jI x2), some (jI x3), some (jL y4), none, some (jI (w32 (x6 + 1))), some (jL y7), none, some (jL y9), none]) rfl rfl at_50_123).trans ?_
    refine (S_goto at_50_126).trans ?_
    rfl
theorem T50_169_41 {C : Nat → List j_V → j_H → Option j_Z} {L : j_B} {m : j_M0} {x1 : Int} {x2 : Int} {x3 : Int} {y4 : Int} {x6 : Int} {o7 : Option j_V} {o9 : Option j_V} {s1 : Int} {t2 : Int} : j_fin C 50 169 [some (jR 41), some (jI x1), some (jI x2), some (jI x3), some (jL y4), none, some (jI x6), o7, none, o9, none] [jL t2, jI s1, jR 48] (hH L m) = if 0 ≤ s1 ∧ s1 < 20 then if 0 ≤ x1 ∧ x1 < 20 then (C 144 [jL ((j_up m 48 s1.toNat t2) 48 x1.toNat)] (hH L (j_up m 48 s1.toNat t2))).bind fun z => j_fin C 50 179 [some (jR 41), some (jI x1), some (jI x2), some (jI x3), some (jL y4), none, some (jI x6), o7, none, o9, none] (z.1.toList ++ []) z.2 else none else none := by
  refine (H_lastore (by omega) (ka_48 L _) at_50_169).trans ?_
  refine ite_congr rfl (fun hi => ?_) (fun _ => rfl)
  refine (S_aload_n rfl at_50_170).trans ?_
  refine (S_getR (ka_41 L _) rfl (f_41_11 L _) at_50_171).trans ?_
  refine (S_iload_n rfl at_50_174).trans ?_
  refine (H_laload (ka_48 L _) at_50_175).trans ?_
  refine ite_congr rfl (fun hi => ?_) (fun _ => rfl)
  refine (S_invs (by decide) (Nat.le_of_ble_eq_true rfl) (Nat.le_of_ble_eq_true rfl) at_50_176).trans ?_
  rfl
theorem T50_179_41 {C : Nat → List j_V → j_H → Option j_Z} {L : j_B} {m : j_M0} {x1 : Int} {x2 : Int} {x3 : Int} {y4 : Int} {x6 : Int} {o7 : Option j_V} {o9 : Option j_V} {s0 : Int} : j_fin C 50 179 [some (jR 41), some (jI x1), some (jI x2), some (jI x3), some (jL y4), none, some (jI x6), o7, none, o9, none] [jI s0] (hH L m) = if s0 = 0 ∨ s0 = 1 then some (some (jI s0), hH L m) else none := by
  exact S_iretz rfl at_50_179
theorem T50_0_55 {C : Nat → List j_V → j_H → Option j_Z} {L : j_B} {m : j_M0} {x1 : Int} {x2 : Int} {x3 : Int} : j_fin C 50 0 [some (jR 55), some (jI x1), some (jI x2), some (jI x3), none, none, none, none, none, none, none] [] (hH L m) = if 0 ≤ (w32 ((w32 (x1 * 5)) + x3)) ∧ (w32 ((w32 (x1 * 5)) + x3)) < 100 then j_fin C 50 15 [some (jR 55), some (jI x1), some (jI x2), some (jI x3), some (jL (m 58 (w32 ((w32 (x1 * 5)) + x3)).toNat)), none, some (jI 0), none, none, none, none] [] (hH L m) else none := by
  refine (S_aload_n rfl at_50_0).trans ?_
  refine (S_getR (ka_55 L _) rfl (f_55_7 L _) at_50_1).trans ?_
  refine (S_iload_n rfl at_50_4).trans ?_
  refine (S_iconst at_50_5).trans ?_
  refine (S_imul at_50_6).trans ?_
  refine (S_iload_n rfl at_50_7).trans ?_
  refine (S_iadd at_50_8).trans ?_
  refine (H_laload (ka_58 L _) at_50_9).trans ?_
  refine ite_congr rfl (fun hi => ?_) (fun _ => rfl)
  refine (S_lstore (l1 := [some (jR 55), some (jI x1), some (jI x2), some (jI x3), some (jL (m 58 (w32 ((w32 (x1 * 5)) + x3)).toNat)), none, none, none, none, none, none]) rfl at_50_10).trans ?_
  refine (S_iconst at_50_12).trans ?_
  refine (S_istore (l1 := [some (jR 55), some (jI x1), some (jI x2), some (jI x3), some (jL (m 58 (w32 ((w32 (x1 * 5)) + x3)).toNat)), none, some (jI 0), none, none, none, none]) rfl at_50_13).trans ?_
  rfl
theorem T50_15_55 {C : Nat → List j_V → j_H → Option j_Z} {L : j_B} {m : j_M0} {x1 : Int} {x2 : Int} {x3 : Int} {y4 : Int} {x6 : Int} {o7 : Option j_V} {o9 : Option j_V} : j_fin C 50 15 [some (jR 55), some (jI x1), some (jI x2), some (jI x3), some (jL y4), none, some (jI x6), o7, none, o9, none] [] (hH L m) = if x6 < (m 55 1) then if 0 ≤ (w32 ((w32 (x1 * 5)) + x6)) ∧ (w32 ((w32 (x1 * 5)) + x6)) < 100 then if x1 = x2 then if x6 = x3 then (C 144 [jL (w64 (-(m 55 4)))] (hH L m)).bind fun z => j_fin C 50 105 [some (jR 55), some (jI x1), some (jI x2), some (jI x3), some (jL y4), none, some (jI x6), some (jL (m 58 (w32 ((w32 (x1 * 5)) + x6)).toNat)), none, some (jL (w64 (-(m 55 4)))), none] (z.1.toList ++ []) z.2 else (C 144 [jL (w64 (-(m 58 (w32 ((w32 (x1 * 5)) + x6)).toNat)))] (hH L m)).bind fun z => j_fin C 50 105 [some (jR 55), some (jI x1), some (jI x2), some (jI x3), some (jL y4), none, some (jI x6), some (jL (m 58 (w32 ((w32 (x1 * 5)) + x6)).toNat)), none, some (jL (w64 (-(m 58 (w32 ((w32 (x1 * 5)) + x6)).toNat)))), none] (z.1.toList ++ []) z.2 else if x6 = x3 then (C 144 [jL (m 58 (w32 ((w32 (x1 * 5)) + x6)).toNat)] (hH L m)).bind fun z => j_fin C 50 105 [some (jR 55), some (jI x1), some (jI x2), some (jI x3), some (jL y4), none, some (jI x6), some (jL (m 58 (w32 ((w32 (x1 * 5)) + x6)).toNat)), none, some (jL (m 58 (w32 ((w32 (x1 * 5)) + x6)).toNat)), none] (z.1.toList ++ []) z.2 else if 0 ≤ (w32 ((w32 (x2 * 5)) + x6)) ∧ (w32 ((w32 (x2 * 5)) + x6)) < 100 then (C 51 [jR 55, jL (m 58 (w32 ((w32 (x1 * 5)) + x6)).toNat), jL y4, jL (m 58 (w32 ((w32 (x2 * 5)) + x6)).toNat), jI x2, jI x3] (hH L m)).bind fun z => j_fin C 50 98 [some (jR 55), some (jI x1), some (jI x2), some (jI x3), some (jL y4), none, some (jI x6), some (jL (m 58 (w32 ((w32 (x1 * 5)) + x6)).toNat)), none, o9, none] (z.1.toList ++ []) z.2 else none else none else if x1 = x2 then if 0 ≤ x2 ∧ x2 < 20 then j_fin C 50 169 [some (jR 55), some (jI x1), some (jI x2), some (jI x3), some (jL y4), none, some (jI x6), o7, none, o9, none] [jL (w64 (-(m 59 x2.toNat))), jI x1, jR 62] (hH L m) else none else if 0 ≤ x1 ∧ x1 < 20 then if 0 ≤ x2 ∧ x2 < 20 then (C 51 [jR 55, jL (m 59 x1.toNat), jL y4, jL (m 59 x2.toNat), jI x2, jI x3] (hH L m)).bind fun z => j_fin C 50 169 [some (jR 55), some (jI x1), some (jI x2), some (jI x3), some (jL y4), none, some (jI x6), o7, none, o9, none] (z.1.toList ++ [jI x1, jR 62]) z.2 else none else none := by
  refine (S_iload rfl at_50_15).trans ?_
  refine (S_aload_n rfl at_50_17).trans ?_
  refine (H_get0 (ka_55 L _) rfl at_50_18).trans ?_
  refine (S_icmp_ge at_50_21).trans ?_
  refine ite_congr rfl (fun _ => ?_) (fun _ => ?_)
  · refine (S_aload_n rfl at_50_24).trans ?_
    refine (S_getR (ka_55 L _) rfl (f_55_7 L _) at_50_25).trans ?_
    refine (S_iload_n rfl at_50_28).trans ?_
    refine (S_iconst at_50_29).trans ?_
    refine (S_imul at_50_30).trans ?_
    refine (S_iload rfl at_50_31).trans ?_
    refine (S_iadd at_50_33).trans ?_
    refine (H_laload (ka_58 L _) at_50_34).trans ?_
    refine ite_congr rfl (fun hi => ?_) (fun _ => rfl)
    refine (S_lstore (l1 := [some (jR 55), some (jI x1), some (jI x2), some (jI x3), some (jL y4), none, some (jI x6), some (jL (m 58 (w32 ((w32 (x1 * 5)) + x6)).toNat)), none, o9, none]) rfl at_50_35).trans ?_
    refine (S_iload_n rfl at_50_37).trans ?_
    refine (S_iload_n rfl at_50_38).trans ?_
    refine (S_icmp_ne at_50_39).trans ?_
    refine ite_congr rfl (fun _ => ?_) (fun _ => ?_)
    · refine (S_iload rfl at_50_42).trans ?_
      refine (S_iload_n rfl at_50_44).trans ?_
      refine (S_icmp_ne at_50_45).trans ?_
      refine ite_congr rfl (fun _ => ?_) (fun _ => ?_)
      · refine (S_aload_n rfl at_50_48).trans ?_
        refine (H_get1 (ka_55 L _) rfl at_50_49).trans ?_
        refine (S_lneg at_50_52).trans ?_
        refine (S_goto at_50_53).trans ?_
        refine (S_lstore (l1 := [some (jR 55), some (jI x1), some (jI x2), some (jI x3), some (jL y4), none, some (jI x6), some (jL (m 58 (w32 ((w32 (x1 * 5)) + x6)).toNat)), none, some (jL (w64 (-(m 55 4)))), none]) rfl at_50_59).trans ?_
        refine (S_goto at_50_61).trans ?_
        refine (S_lload rfl at_50_100).trans ?_
        refine (S_invs (by decide) (Nat.le_of_ble_eq_true rfl) (Nat.le_of_ble_eq_true rfl) at_50_102).trans ?_
        rfl
      · refine (S_lload rfl at_50_56).trans ?_
        refine (S_lneg at_50_58).trans ?_
        refine (S_lstore (l1 := [some (jR 55), some (jI x1), some (jI x2), some (jI x3), some (jL y4), none, some (jI x6), some (jL (m 58 (w32 ((w32 (x1 * 5)) + x6)).toNat)), none, some (jL (w64 (-(m 58 (w32 ((w32 (x1 * 5)) + x6)).toNat)))), none]) rfl at_50_59).trans ?_
        refine (S_goto at_50_61).trans ?_
        refine (S_lload rfl at_50_100).trans ?_
        refine (S_invs (by decide) (Nat.le_of_ble_eq_true rfl) (Nat.le_of_ble_eq_true rfl) at_50_102).trans ?_
        rfl
    · refine (S_iload rfl at_50_64).trans ?_
      refine (S_iload_n rfl at_50_66).trans ?_
      refine (S_icmp_ne at_50_67).trans ?_
      refine ite_congr rfl (fun _ => ?_) (fun _ => ?_)
      · refine (S_lload rfl at_50_70).trans ?_
        refine (S_lstore (l1 := [some (jR 55), some (jI x1), some (jI x2), some (jI x3), some (jL y4), none, some (jI x6), some (jL (m 58 (w32 ((w32 (x1 * 5)) + x6)).toNat)), none, some (jL (m 58 (w32 ((w32 (x1 * 5)) + x6)).toNat)), none]) rfl at_50_72).trans ?_
        refine (S_goto at_50_74).trans ?_
        refine (S_lload rfl at_50_100).trans ?_
        refine (S_invs (by decide) (Nat.le_of_ble_eq_true rfl) (Nat.le_of_ble_eq_true rfl) at_50_102).trans ?_
        rfl
      · refine (S_aload_n rfl at_50_77).trans ?_
        refine (S_lload rfl at_50_78).trans ?_
        refine (S_lload rfl at_50_80).trans ?_
        refine (S_aload_n rfl at_50_82).trans ?_
        refine (S_getR (ka_55 L _) rfl (f_55_7 L _) at_50_83).trans ?_
        refine (S_iload_n rfl at_50_86).trans ?_
        refine (S_iconst at_50_87).trans ?_
        refine (S_imul at_50_88).trans ?_
        refine (S_iload rfl at_50_89).trans ?_
        refine (S_iadd at_50_91).trans ?_
        refine (H_laload (ka_58 L _) at_50_92).trans ?_
        refine ite_congr rfl (fun hi => ?_) (fun _ => rfl)
        refine (S_iload_n rfl at_50_93).trans ?_
        refine (S_iload_n rfl at_50_94).trans ?_
        refine (S_invv (b := 5) (by decide) kn_51 rfl (kd_55 L _) (Nat.le_of_ble_eq_true rfl) at_50_95).trans ?_
        rfl
  · refine (S_aload_n rfl at_50_129).trans ?_
    refine (S_getR (ka_55 L _) rfl (f_55_11 L _) at_50_130).trans ?_
    refine (S_iload_n rfl at_50_133).trans ?_
    refine (S_iload_n rfl at_50_134).trans ?_
    refine (S_iload_n rfl at_50_135).trans ?_
    refine (S_icmp_ne at_50_136).trans ?_
    refine ite_congr rfl (fun _ => ?_) (fun _ => ?_)
    · refine (S_aload_n rfl at_50_139).trans ?_
      refine (S_getR (ka_55 L _) rfl (f_55_8 L _) at_50_140).trans ?_
      refine (S_iload_n rfl at_50_143).trans ?_
      refine (H_laload (ka_59 L _) at_50_144).trans ?_
      refine ite_congr rfl (fun hi => ?_) (fun _ => rfl)
      refine (S_lneg at_50_145).trans ?_
      refine (S_goto at_50_146).trans ?_
      rfl
    · refine (S_aload_n rfl at_50_149).trans ?_
      refine (S_aload_n rfl at_50_150).trans ?_
      refine (S_getR (ka_55 L _) rfl (f_55_8 L _) at_50_151).trans ?_
      refine (S_iload_n rfl at_50_154).trans ?_
      refine (H_laload (ka_59 L _) at_50_155).trans ?_
      refine ite_congr rfl (fun hi => ?_) (fun _ => rfl)
      refine (S_lload rfl at_50_156).trans ?_
      refine (S_aload_n rfl at_50_158).trans ?_
      refine (S_getR (ka_55 L _) rfl (f_55_8 L _) at_50_159).trans ?_
      refine (S_iload_n rfl at_50_162).trans ?_
      refine (H_laload (ka_59 L _) at_50_163).trans ?_
      refine ite_congr rfl (fun hi => ?_) (fun _ => rfl)
      refine (S_iload_n rfl at_50_164).trans ?_
      refine (S_iload_n rfl at_50_165).trans ?_
      refine (S_invv (b := 5) (by decide) kn_51 rfl (kd_55 L _) (Nat.le_of_ble_eq_true rfl) at_50_166).trans ?_
      rfl
theorem T50_98_55 {C : Nat → List j_V → j_H → Option j_Z} {L : j_B} {m : j_M0} {x1 : Int} {x2 : Int} {x3 : Int} {y4 : Int} {x6 : Int} {y7 : Int} {o9 : Option j_V} {t0 : Int} : j_fin C 50 98 [some (jR 55), some (jI x1), some (jI x2), some (jI x3), some (jL y4), none, some (jI x6), some (jL y7), none, o9, none] [jL t0] (hH L m) = (C 144 [jL t0] (hH L m)).bind fun z => j_fin C 50 105 [some (jR 55), some (jI x1), some (jI x2), some (jI x3), some (jL y4), none, some (jI x6), some (jL y7), none, some (jL t0), none] (z.1.toList ++ []) z.2 := by
  refine (S_lstore (l1 := [some (jR 55), some (jI x1), some (jI x2), some (jI x3), some (jL y4), none, some (jI x6), some (jL y7), none, some (jL t0), none]) rfl at_50_98).trans ?_
  refine (S_lload rfl at_50_100).trans ?_
  refine (S_invs (by decide) (Nat.le_of_ble_eq_true rfl) (Nat.le_of_ble_eq_true rfl) at_50_102).trans ?_
  rfl
theorem T50_105_55 {C : Nat → List j_V → j_H → Option j_Z} {L : j_B} {m : j_M0} {x1 : Int} {x2 : Int} {x3 : Int} {y4 : Int} {x6 : Int} {y7 : Int} {y9 : Int} {s0 : Int} : j_fin C 50 105 [some (jR 55), some (jI x1), some (jI x2), some (jI x3), some (jL y4), none, some (jI x6), some (jL y7), none, some (jL y9), none] [jI s0] (hH L m) = if s0 = 0 then some (some (jI 0), hH L m) else if 0 ≤ (w32 ((w32 (x1 * 5)) + x6)) ∧ (w32 ((w32 (x1 * 5)) + x6)) < 100 then j_fin C 50 15 [some (jR 55), some (jI x1), some (jI x2), some (jI x3), some (jL y4), none, some (jI (w32 (x6 + 1))), some (jL y7), none, some (jL y9), none] [] (hH L (j_up m 61 (w32 ((w32 (x1 * 5)) + x6)).toNat y9)) else none := by
  refine (S_if_ne at_50_105).trans ?_
  refine ite_congr rfl (fun _ => ?_) (fun _ => ?_)
  · refine (S_iconst at_50_108).trans ?_
    exact (S_iretz rfl at_50_109).trans (if_pos (by decide))
  · refine (S_aload_n rfl at_50_110).trans ?_
    refine (S_getR (ka_55 L _) rfl (f_55_10 L _) at_50_111).trans ?_
    refine (S_iload_n rfl at_50_114).trans ?_
    refine (S_iconst at_50_115).trans ?_
    refine (S_imul at_50_116).trans ?_
    refine (S_iload rfl at_50_117).trans ?_
    refine (S_iadd at_50_119).trans ?_
    refine (S_lload rfl at_50_120).trans ?_
    refine (H_lastore (by omega) (ka_61 L _) at_50_122).trans ?_
    refine ite_congr rfl (fun hi => ?_) (fun _ => rfl)
    refine (S_iinc (l1 := [some (jR 55), some (jI x1), some (jI x2), some (jI x3), some (jL y4), none, some (jI (w32 (x6 + 1))), some (jL y7), none, some (jL y9), none]) rfl rfl at_50_123).trans ?_
    refine (S_goto at_50_126).trans ?_
    rfl
theorem T50_169_55 {C : Nat → List j_V → j_H → Option j_Z} {L : j_B} {m : j_M0} {x1 : Int} {x2 : Int} {x3 : Int} {y4 : Int} {x6 : Int} {o7 : Option j_V} {o9 : Option j_V} {s1 : Int} {t2 : Int} : j_fin C 50 169 [some (jR 55), some (jI x1), some (jI x2), some (jI x3), some (jL y4), none, some (jI x6), o7, none, o9, none] [jL t2, jI s1, jR 62] (hH L m) = if 0 ≤ s1 ∧ s1 < 20 then if 0 ≤ x1 ∧ x1 < 20 then (C 144 [jL ((j_up m 62 s1.toNat t2) 62 x1.toNat)] (hH L (j_up m 62 s1.toNat t2))).bind fun z => j_fin C 50 179 [some (jR 55), some (jI x1), some (jI x2), some (jI x3), some (jL y4), none, some (jI x6), o7, none, o9, none] (z.1.toList ++ []) z.2 else none else none := by
  refine (H_lastore (by omega) (ka_62 L _) at_50_169).trans ?_
  refine ite_congr rfl (fun hi => ?_) (fun _ => rfl)
  refine (S_aload_n rfl at_50_170).trans ?_
  refine (S_getR (ka_55 L _) rfl (f_55_11 L _) at_50_171).trans ?_
  refine (S_iload_n rfl at_50_174).trans ?_
  refine (H_laload (ka_62 L _) at_50_175).trans ?_
  refine ite_congr rfl (fun hi => ?_) (fun _ => rfl)
  refine (S_invs (by decide) (Nat.le_of_ble_eq_true rfl) (Nat.le_of_ble_eq_true rfl) at_50_176).trans ?_
  rfl
theorem T50_179_55 {C : Nat → List j_V → j_H → Option j_Z} {L : j_B} {m : j_M0} {x1 : Int} {x2 : Int} {x3 : Int} {y4 : Int} {x6 : Int} {o7 : Option j_V} {o9 : Option j_V} {s0 : Int} : j_fin C 50 179 [some (jR 55), some (jI x1), some (jI x2), some (jI x3), some (jL y4), none, some (jI x6), o7, none, o9, none] [jI s0] (hH L m) = if s0 = 0 ∨ s0 = 1 then some (some (jI s0), hH L m) else none := by
  exact S_iretz rfl at_50_179
theorem T51_0_41 {C : Nat → List j_V → j_H → Option j_Z} {L : j_B} {m : j_M0} {y1 : Int} {y3 : Int} {y5 : Int} {x7 : Int} {x8 : Int} : j_fin C 51 0 [some (jR 41), some (jL y1), none, some (jL y3), none, some (jL y5), none, some (jI x7), some (jI x8), none, none] [] (hH L m) = if 0 ≤ (w32 ((w32 (x7 * 5)) + x8)) ∧ (w32 ((w32 (x7 * 5)) + x8)) < 100 then if 0 < (j_cmp (m 41 4) 0) then if m 41 4 = 0 then none else some (some (jL (w64 (Int.tdiv (w64 ((w64 ((w64 (-(m 44 (w32 ((w32 (x7 * 5)) + x8)).toNat))) * y1)) + (w64 (y3 * y5)))) (m 41 4)))), hH L m) else some (some (jL 0), hH L m) else none := by
  refine (S_aload_n rfl at_51_0).trans ?_
  refine (S_getR (ka_41 L _) rfl (f_41_7 L _) at_51_1).trans ?_
  refine (S_iload rfl at_51_4).trans ?_
  refine (S_iconst at_51_6).trans ?_
  refine (S_imul at_51_7).trans ?_
  refine (S_iload rfl at_51_8).trans ?_
  refine (S_iadd at_51_10).trans ?_
  refine (H_laload (ka_44 L _) at_51_11).trans ?_
  refine ite_congr rfl (fun hi => ?_) (fun _ => rfl)
  refine (S_lneg at_51_12).trans ?_
  refine (S_lload_n rfl at_51_13).trans ?_
  refine (S_lmul at_51_14).trans ?_
  refine (S_lload_n rfl at_51_15).trans ?_
  refine (S_lload rfl at_51_16).trans ?_
  refine (S_lmul at_51_18).trans ?_
  refine (S_ladd at_51_19).trans ?_
  refine (S_lstore (l1 := [some (jR 41), some (jL y1), none, some (jL y3), none, some (jL y5), none, some (jI x7), some (jI x8), some (jL (w64 ((w64 ((w64 (-(m 44 (w32 ((w32 (x7 * 5)) + x8)).toNat))) * y1)) + (w64 (y3 * y5))))), none]) rfl at_51_20).trans ?_
  refine (S_aload_n rfl at_51_22).trans ?_
  refine (H_get1 (ka_41 L _) rfl at_51_23).trans ?_
  refine (S_lconst at_51_26).trans ?_
  refine (S_lcmp at_51_27).trans ?_
  refine (S_if_le at_51_28).trans ?_
  refine ite_congr rfl (fun _ => ?_) (fun _ => ?_)
  · refine (S_lload rfl at_51_31).trans ?_
    refine (S_aload_n rfl at_51_33).trans ?_
    refine (H_get1 (ka_41 L _) rfl at_51_34).trans ?_
    refine (S_ldiv at_51_37).trans ?_
    refine ite_congr rfl (fun _ => rfl) (fun hz => ?_)
    refine (S_goto at_51_38).trans ?_
    exact S_lret rfl at_51_42
  · refine (S_lconst at_51_41).trans ?_
    exact S_lret rfl at_51_42
theorem T51_0_55 {C : Nat → List j_V → j_H → Option j_Z} {L : j_B} {m : j_M0} {y1 : Int} {y3 : Int} {y5 : Int} {x7 : Int} {x8 : Int} : j_fin C 51 0 [some (jR 55), some (jL y1), none, some (jL y3), none, some (jL y5), none, some (jI x7), some (jI x8), none, none] [] (hH L m) = if 0 ≤ (w32 ((w32 (x7 * 5)) + x8)) ∧ (w32 ((w32 (x7 * 5)) + x8)) < 100 then if 0 < (j_cmp (m 55 4) 0) then if m 55 4 = 0 then none else some (some (jL (w64 (Int.tdiv (w64 ((w64 ((w64 (-(m 58 (w32 ((w32 (x7 * 5)) + x8)).toNat))) * y1)) + (w64 (y3 * y5)))) (m 55 4)))), hH L m) else some (some (jL 0), hH L m) else none := by
  refine (S_aload_n rfl at_51_0).trans ?_
  refine (S_getR (ka_55 L _) rfl (f_55_7 L _) at_51_1).trans ?_
  refine (S_iload rfl at_51_4).trans ?_
  refine (S_iconst at_51_6).trans ?_
  refine (S_imul at_51_7).trans ?_
  refine (S_iload rfl at_51_8).trans ?_
  refine (S_iadd at_51_10).trans ?_
  refine (H_laload (ka_58 L _) at_51_11).trans ?_
  refine ite_congr rfl (fun hi => ?_) (fun _ => rfl)
  refine (S_lneg at_51_12).trans ?_
  refine (S_lload_n rfl at_51_13).trans ?_
  refine (S_lmul at_51_14).trans ?_
  refine (S_lload_n rfl at_51_15).trans ?_
  refine (S_lload rfl at_51_16).trans ?_
  refine (S_lmul at_51_18).trans ?_
  refine (S_ladd at_51_19).trans ?_
  refine (S_lstore (l1 := [some (jR 55), some (jL y1), none, some (jL y3), none, some (jL y5), none, some (jI x7), some (jI x8), some (jL (w64 ((w64 ((w64 (-(m 58 (w32 ((w32 (x7 * 5)) + x8)).toNat))) * y1)) + (w64 (y3 * y5))))), none]) rfl at_51_20).trans ?_
  refine (S_aload_n rfl at_51_22).trans ?_
  refine (H_get1 (ka_55 L _) rfl at_51_23).trans ?_
  refine (S_lconst at_51_26).trans ?_
  refine (S_lcmp at_51_27).trans ?_
  refine (S_if_le at_51_28).trans ?_
  refine ite_congr rfl (fun _ => ?_) (fun _ => ?_)
  · refine (S_lload rfl at_51_31).trans ?_
    refine (S_aload_n rfl at_51_33).trans ?_
    refine (H_get1 (ka_55 L _) rfl at_51_34).trans ?_
    refine (S_ldiv at_51_37).trans ?_
    refine ite_congr rfl (fun _ => rfl) (fun hz => ?_)
    refine (S_goto at_51_38).trans ?_
    exact S_lret rfl at_51_42
  · refine (S_lconst at_51_41).trans ?_
    exact S_lret rfl at_51_42
theorem T52_0_41 {C : Nat → List j_V → j_H → Option j_Z} {L : j_B} {m : j_M0} {x1 : Int} : j_fin C 52 0 [some (jR 41), some (jI x1), none] [] (hH L m) = j_fin C 52 2 [some (jR 41), some (jI x1), some (jI 0)] [] (hH L m) := by
  refine (S_iconst at_52_0).trans ?_
  refine (S_istore_n (l1 := [some (jR 41), some (jI x1), some (jI 0)]) rfl at_52_1).trans ?_
  rfl
theorem T52_2_41 {C : Nat → List j_V → j_H → Option j_Z} {L : j_B} {m : j_M0} {x1 : Int} {x2 : Int} : j_fin C 52 2 [some (jR 41), some (jI x1), some (jI x2)] [] (hH L m) = if x2 < (m 41 0) then if 0 ≤ x2 ∧ x2 < 20 then if (m 42 x2.toNat) = x1 then some (some (jI x2), hH L m) else j_fin C 52 2 [some (jR 41), some (jI x1), some (jI (w32 (x2 + 1)))] [] (hH L m) else none else some (some (jI (-1)), hH L m) := by
  refine (S_iload_n rfl at_52_2).trans ?_
  refine (S_aload_n rfl at_52_3).trans ?_
  refine (H_get0 (ka_41 L _) rfl at_52_4).trans ?_
  refine (S_icmp_ge at_52_7).trans ?_
  refine ite_congr rfl (fun _ => ?_) (fun _ => ?_)
  · refine (S_aload_n rfl at_52_10).trans ?_
    refine (S_getR (ka_41 L _) rfl (f_41_5 L _) at_52_11).trans ?_
    refine (S_iload_n rfl at_52_14).trans ?_
    refine (H_iaload (ka_42 L _) at_52_15).trans ?_
    refine ite_congr rfl (fun hi => ?_) (fun _ => rfl)
    refine (S_iload_n rfl at_52_16).trans ?_
    refine (S_icmp_ne at_52_17).trans ?_
    refine ite_congr rfl (fun _ => ?_) (fun _ => ?_)
    · refine (S_iload_n rfl at_52_20).trans ?_
      exact S_ireti rfl at_52_21
    · refine (S_iinc (l1 := [some (jR 41), some (jI x1), some (jI (w32 (x2 + 1)))]) rfl rfl at_52_22).trans ?_
      refine (S_goto at_52_25).trans ?_
      rfl
  · refine (S_iconst at_52_28).trans ?_
    exact S_ireti rfl at_52_29
theorem T52_0_55 {C : Nat → List j_V → j_H → Option j_Z} {L : j_B} {m : j_M0} {x1 : Int} : j_fin C 52 0 [some (jR 55), some (jI x1), none] [] (hH L m) = j_fin C 52 2 [some (jR 55), some (jI x1), some (jI 0)] [] (hH L m) := by
  refine (S_iconst at_52_0).trans ?_
  refine (S_istore_n (l1 := [some (jR 55), some (jI x1), some (jI 0)]) rfl at_52_1).trans ?_
  rfl
theorem T52_2_55 {C : Nat → List j_V → j_H → Option j_Z} {L : j_B} {m : j_M0} {x1 : Int} {x2 : Int} : j_fin C 52 2 [some (jR 55), some (jI x1), some (jI x2)] [] (hH L m) = if x2 < (m 55 0) then if 0 ≤ x2 ∧ x2 < 20 then if (m 56 x2.toNat) = x1 then some (some (jI x2), hH L m) else j_fin C 52 2 [some (jR 55), some (jI x1), some (jI (w32 (x2 + 1)))] [] (hH L m) else none else some (some (jI (-1)), hH L m) := by
  refine (S_iload_n rfl at_52_2).trans ?_
  refine (S_aload_n rfl at_52_3).trans ?_
  refine (H_get0 (ka_55 L _) rfl at_52_4).trans ?_
  refine (S_icmp_ge at_52_7).trans ?_
  refine ite_congr rfl (fun _ => ?_) (fun _ => ?_)
  · refine (S_aload_n rfl at_52_10).trans ?_
    refine (S_getR (ka_55 L _) rfl (f_55_5 L _) at_52_11).trans ?_
    refine (S_iload_n rfl at_52_14).trans ?_
    refine (H_iaload (ka_56 L _) at_52_15).trans ?_
    refine ite_congr rfl (fun hi => ?_) (fun _ => rfl)
    refine (S_iload_n rfl at_52_16).trans ?_
    refine (S_icmp_ne at_52_17).trans ?_
    refine ite_congr rfl (fun _ => ?_) (fun _ => ?_)
    · refine (S_iload_n rfl at_52_20).trans ?_
      exact S_ireti rfl at_52_21
    · refine (S_iinc (l1 := [some (jR 55), some (jI x1), some (jI (w32 (x2 + 1)))]) rfl rfl at_52_22).trans ?_
      refine (S_goto at_52_25).trans ?_
      rfl
  · refine (S_iconst at_52_28).trans ?_
    exact S_ireti rfl at_52_29
theorem T53_0_41 {C : Nat → List j_V → j_H → Option j_Z} {L : j_B} {m : j_M0} {x1 : Int} : j_fin C 53 0 [some (jR 41), some (jI x1), none] [] (hH L m) = (C 52 [jR 41, jI x1] (hH L m)).bind fun z => j_fin C 53 5 [some (jR 41), some (jI x1), none] (z.1.toList ++ []) z.2 := by
  refine (S_aload_n rfl at_53_0).trans ?_
  refine (S_iload_n rfl at_53_1).trans ?_
  refine (S_invv (b := 1) (by decide) kn_52 rfl (kd_41 L _) (Nat.le_of_ble_eq_true rfl) at_53_2).trans ?_
  rfl
theorem T53_5_41 {C : Nat → List j_V → j_H → Option j_Z} {L : j_B} {m : j_M0} {x1 : Int} {s0 : Int} : j_fin C 53 5 [some (jR 41), some (jI x1), none] [jI s0] (hH L m) = if s0 < 0 then some (some (jL 0), hH L m) else if 0 ≤ s0 ∧ s0 < 20 then some (some (jL (m 45 s0.toNat)), hH L m) else none := by
  refine (S_istore_n (l1 := [some (jR 41), some (jI x1), some (jI s0)]) rfl at_53_5).trans ?_
  refine (S_iload_n rfl at_53_6).trans ?_
  refine (S_if_ge at_53_7).trans ?_
  refine ite_congr rfl (fun _ => ?_) (fun _ => ?_)
  · refine (S_lconst at_53_10).trans ?_
    refine (S_goto at_53_11).trans ?_
    exact S_lret rfl at_53_20
  · refine (S_aload_n rfl at_53_14).trans ?_
    refine (S_getR (ka_41 L _) rfl (f_41_8 L _) at_53_15).trans ?_
    refine (S_iload_n rfl at_53_18).trans ?_
    refine (H_laload (ka_45 L _) at_53_19).trans ?_
    refine ite_congr rfl (fun hi => ?_) (fun _ => rfl)
    exact S_lret rfl at_53_20
theorem T53_0_55 {C : Nat → List j_V → j_H → Option j_Z} {L : j_B} {m : j_M0} {x1 : Int} : j_fin C 53 0 [some (jR 55), some (jI x1), none] [] (hH L m) = (C 52 [jR 55, jI x1] (hH L m)).bind fun z => j_fin C 53 5 [some (jR 55), some (jI x1), none] (z.1.toList ++ []) z.2 := by
  refine (S_aload_n rfl at_53_0).trans ?_
  refine (S_iload_n rfl at_53_1).trans ?_
  refine (S_invv (b := 1) (by decide) kn_52 rfl (kd_55 L _) (Nat.le_of_ble_eq_true rfl) at_53_2).trans ?_
  rfl
theorem T53_5_55 {C : Nat → List j_V → j_H → Option j_Z} {L : j_B} {m : j_M0} {x1 : Int} {s0 : Int} : j_fin C 53 5 [some (jR 55), some (jI x1), none] [jI s0] (hH L m) = if s0 < 0 then some (some (jL 0), hH L m) else if 0 ≤ s0 ∧ s0 < 20 then some (some (jL (m 59 s0.toNat)), hH L m) else none := by
  refine (S_istore_n (l1 := [some (jR 55), some (jI x1), some (jI s0)]) rfl at_53_5).trans ?_
  refine (S_iload_n rfl at_53_6).trans ?_
  refine (S_if_ge at_53_7).trans ?_
  refine ite_congr rfl (fun _ => ?_) (fun _ => ?_)
  · refine (S_lconst at_53_10).trans ?_
    refine (S_goto at_53_11).trans ?_
    exact S_lret rfl at_53_20
  · refine (S_aload_n rfl at_53_14).trans ?_
    refine (S_getR (ka_55 L _) rfl (f_55_8 L _) at_53_15).trans ?_
    refine (S_iload_n rfl at_53_18).trans ?_
    refine (H_laload (ka_59 L _) at_53_19).trans ?_
    refine ite_congr rfl (fun hi => ?_) (fun _ => rfl)
    exact S_lret rfl at_53_20
theorem T54_0_55 {C : Nat → List j_V → j_H → Option j_Z} {L : j_B} {m : j_M0} {x1 : Int} : j_fin C 54 0 [some (jR 55), some (jI x1)] [] (hH L m) = (C 53 [jR 55, jI x1] (hH L m)).bind fun z => j_fin C 54 6 [some (jR 55), some (jI x1)] (z.1.toList ++ [jR 55]) z.2 := by
  refine (S_aload_n rfl at_54_0).trans ?_
  refine (S_aload_n rfl at_54_1).trans ?_
  refine (S_iload_n rfl at_54_2).trans ?_
  refine (S_invv (b := 1) (by decide) kn_53 rfl (kd_55 L _) (Nat.le_of_ble_eq_true rfl) at_54_3).trans ?_
  rfl
theorem T54_6_55 {C : Nat → List j_V → j_H → Option j_Z} {L : j_B} {m : j_M0} {x1 : Int} {t1 : Int} : j_fin C 54 6 [some (jR 55), some (jI x1)] [jL t1, jR 55] (hH L m) = (C 44 [jR 55, jL t1] (hH L m)).bind fun z => j_fin C 54 9 [some (jR 55), some (jI x1)] (z.1.toList ++ []) z.2 := by
  refine (S_invv (b := 1) (by decide) kn_44 rfl (kd_55 L _) (Nat.le_of_ble_eq_true rfl) at_54_6).trans ?_
  rfl
theorem T54_9_55 {C : Nat → List j_V → j_H → Option j_Z} {L : j_B} {m : j_M0} {x1 : Int} {t0 : Int} : j_fin C 54 9 [some (jR 55), some (jI x1)] [jL t0] (hH L m) = some (some (jL t0), hH L m) := by
  exact S_lret rfl at_54_9
theorem T56_0_41 {C : Nat → List j_V → j_H → Option j_Z} {L : j_B} {m : j_M0} : j_fin C 56 0 [some (jR 41), none] [] (hH L m) = j_fin C 56 2 [some (jR 41), some (jI 0)] [] (hH L m) := by
  refine (S_iconst at_56_0).trans ?_
  refine (S_istore_n (l1 := [some (jR 41), some (jI 0)]) rfl at_56_1).trans ?_
  rfl
theorem T56_2_41 {C : Nat → List j_V → j_H → Option j_Z} {L : j_B} {m : j_M0} {x1 : Int} : j_fin C 56 2 [some (jR 41), some (jI x1)] [] (hH L m) = if x1 < (m 41 0) then if 0 ≤ x1 ∧ x1 < 20 then if (m 42 x1.toNat) < 10 then if 0 ≤ x1 ∧ x1 < 20 then (C 43 [jR 41, jL (m 45 x1.toNat)] (hH L m)).bind fun z => j_fin C 56 31 [some (jR 41), some (jI x1)] (z.1.toList ++ []) z.2 else none else j_fin C 56 2 [some (jR 41), some (jI (w32 (x1 + 1)))] [] (hH L m) else none else some (some (jI (-1)), hH L m) := by
  refine (S_iload_n rfl at_56_2).trans ?_
  refine (S_aload_n rfl at_56_3).trans ?_
  refine (H_get0 (ka_41 L _) rfl at_56_4).trans ?_
  refine (S_icmp_ge at_56_7).trans ?_
  refine ite_congr rfl (fun _ => ?_) (fun _ => ?_)
  · refine (S_aload_n rfl at_56_10).trans ?_
    refine (S_getR (ka_41 L _) rfl (f_41_5 L _) at_56_11).trans ?_
    refine (S_iload_n rfl at_56_14).trans ?_
    refine (H_iaload (ka_42 L _) at_56_15).trans ?_
    refine ite_congr rfl (fun hi => ?_) (fun _ => rfl)
    refine (S_bipush at_56_16).trans ?_
    refine (S_icmp_ge at_56_18).trans ?_
    refine ite_congr rfl (fun _ => ?_) (fun _ => ?_)
    · refine (S_aload_n rfl at_56_21).trans ?_
      refine (S_aload_n rfl at_56_22).trans ?_
      refine (S_getR (ka_41 L _) rfl (f_41_8 L _) at_56_23).trans ?_
      refine (S_iload_n rfl at_56_26).trans ?_
      refine (H_laload (ka_45 L _) at_56_27).trans ?_
      refine ite_congr rfl (fun hi => ?_) (fun _ => rfl)
      refine (S_invv (b := 1) (by decide) kn_43 rfl (kd_41 L _) (Nat.le_of_ble_eq_true rfl) at_56_28).trans ?_
      rfl
    · refine (S_iinc (l1 := [some (jR 41), some (jI (w32 (x1 + 1)))]) rfl rfl at_56_38).trans ?_
      refine (S_goto at_56_41).trans ?_
      rfl
  · refine (S_iconst at_56_44).trans ?_
    exact S_ireti rfl at_56_45
theorem T56_31_41 {C : Nat → List j_V → j_H → Option j_Z} {L : j_B} {m : j_M0} {x1 : Int} {t0 : Int} : j_fin C 56 31 [some (jR 41), some (jI x1)] [jL t0] (hH L m) = if (j_cmp t0 0) = 0 then j_fin C 56 2 [some (jR 41), some (jI (w32 (x1 + 1)))] [] (hH L m) else some (some (jI x1), hH L m) := by
  refine (S_lconst at_56_31).trans ?_
  refine (S_lcmp at_56_32).trans ?_
  refine (S_if_eq at_56_33).trans ?_
  refine ite_congr rfl (fun _ => ?_) (fun _ => ?_)
  · refine (S_iinc (l1 := [some (jR 41), some (jI (w32 (x1 + 1)))]) rfl rfl at_56_38).trans ?_
    refine (S_goto at_56_41).trans ?_
    rfl
  · refine (S_iload_n rfl at_56_36).trans ?_
    exact S_ireti rfl at_56_37
theorem T56_0_55 {C : Nat → List j_V → j_H → Option j_Z} {L : j_B} {m : j_M0} : j_fin C 56 0 [some (jR 55), none] [] (hH L m) = j_fin C 56 2 [some (jR 55), some (jI 0)] [] (hH L m) := by
  refine (S_iconst at_56_0).trans ?_
  refine (S_istore_n (l1 := [some (jR 55), some (jI 0)]) rfl at_56_1).trans ?_
  rfl
theorem T56_2_55 {C : Nat → List j_V → j_H → Option j_Z} {L : j_B} {m : j_M0} {x1 : Int} : j_fin C 56 2 [some (jR 55), some (jI x1)] [] (hH L m) = if x1 < (m 55 0) then if 0 ≤ x1 ∧ x1 < 20 then if (m 56 x1.toNat) < 10 then if 0 ≤ x1 ∧ x1 < 20 then (C 43 [jR 55, jL (m 59 x1.toNat)] (hH L m)).bind fun z => j_fin C 56 31 [some (jR 55), some (jI x1)] (z.1.toList ++ []) z.2 else none else j_fin C 56 2 [some (jR 55), some (jI (w32 (x1 + 1)))] [] (hH L m) else none else some (some (jI (-1)), hH L m) := by
  refine (S_iload_n rfl at_56_2).trans ?_
  refine (S_aload_n rfl at_56_3).trans ?_
  refine (H_get0 (ka_55 L _) rfl at_56_4).trans ?_
  refine (S_icmp_ge at_56_7).trans ?_
  refine ite_congr rfl (fun _ => ?_) (fun _ => ?_)
  · refine (S_aload_n rfl at_56_10).trans ?_
    refine (S_getR (ka_55 L _) rfl (f_55_5 L _) at_56_11).trans ?_
    refine (S_iload_n rfl at_56_14).trans ?_
    refine (H_iaload (ka_56 L _) at_56_15).trans ?_
    refine ite_congr rfl (fun hi => ?_) (fun _ => rfl)
    refine (S_bipush at_56_16).trans ?_
    refine (S_icmp_ge at_56_18).trans ?_
    refine ite_congr rfl (fun _ => ?_) (fun _ => ?_)
    · refine (S_aload_n rfl at_56_21).trans ?_
      refine (S_aload_n rfl at_56_22).trans ?_
      refine (S_getR (ka_55 L _) rfl (f_55_8 L _) at_56_23).trans ?_
      refine (S_iload_n rfl at_56_26).trans ?_
      refine (H_laload (ka_59 L _) at_56_27).trans ?_
      refine ite_congr rfl (fun hi => ?_) (fun _ => rfl)
      refine (S_invv (b := 1) (by decide) kn_43 rfl (kd_55 L _) (Nat.le_of_ble_eq_true rfl) at_56_28).trans ?_
      rfl
    · refine (S_iinc (l1 := [some (jR 55), some (jI (w32 (x1 + 1)))]) rfl rfl at_56_38).trans ?_
      refine (S_goto at_56_41).trans ?_
      rfl
  · refine (S_iconst at_56_44).trans ?_
    exact S_ireti rfl at_56_45
theorem T56_31_55 {C : Nat → List j_V → j_H → Option j_Z} {L : j_B} {m : j_M0} {x1 : Int} {t0 : Int} : j_fin C 56 31 [some (jR 55), some (jI x1)] [jL t0] (hH L m) = if (j_cmp t0 0) = 0 then j_fin C 56 2 [some (jR 55), some (jI (w32 (x1 + 1)))] [] (hH L m) else some (some (jI x1), hH L m) := by
  refine (S_lconst at_56_31).trans ?_
  refine (S_lcmp at_56_32).trans ?_
  refine (S_if_eq at_56_33).trans ?_
  refine ite_congr rfl (fun _ => ?_) (fun _ => ?_)
  · refine (S_iinc (l1 := [some (jR 55), some (jI (w32 (x1 + 1)))]) rfl rfl at_56_38).trans ?_
    refine (S_goto at_56_41).trans ?_
    rfl
  · refine (S_iload_n rfl at_56_36).trans ?_
    exact S_ireti rfl at_56_37
theorem T61_0 {C : Nat → List j_V → j_H → Option j_Z} {L : j_B} {m : j_M0} {x1 : Int} {x2 : Int} {x3 : Int} : j_fin C 61 0 [some (jR 98), some (jI x1), some (jI x2), some (jI x3)] [] (hH L m) = if 0 ≤ x1 ∧ x1 < 6 then if 0 ≤ x1 ∧ x1 < 6 then if 0 ≤ x1 ∧ x1 < 6 then (C 269 [jR (102 + x1.toNat), jL 0] (hH L (j_up (j_up m 99 x1.toNat x2) 100 x1.toNat x3))).bind fun z => j_fin C 61 24 [some (jR 98), some (jI x1), some (jI x2), some (jI x3)] (z.1.toList ++ []) z.2 else none else none else none := by
  refine (S_aload_n rfl at_61_0).trans ?_
  refine (S_getR (ka_98 L _) rfl (f_98_0 L _) at_61_1).trans ?_
  refine (S_iload_n rfl at_61_4).trans ?_
  refine (S_iload_n rfl at_61_5).trans ?_
  refine (H_iastore (by omega) (ka_99 L _) at_61_6).trans ?_
  refine ite_congr rfl (fun hi => ?_) (fun _ => rfl)
  refine (S_aload_n rfl at_61_7).trans ?_
  refine (S_getR (ka_98 L _) rfl (f_98_1 L _) at_61_8).trans ?_
  refine (S_iload_n rfl at_61_11).trans ?_
  refine (S_iload_n rfl at_61_12).trans ?_
  refine (H_iastore (by omega) (ka_100 L _) at_61_13).trans ?_
  refine ite_congr rfl (fun hi => ?_) (fun _ => rfl)
  refine (S_aload_n rfl at_61_14).trans ?_
  refine (S_getR (ka_98 L _) rfl (f_98_2 L _) at_61_15).trans ?_
  refine (S_iload_n rfl at_61_18).trans ?_
  refine (H_tapes at_61_19).trans ?_
  refine ite_congr rfl (fun hi => ?_) (fun _ => rfl)
  refine (S_lconst at_61_20).trans ?_
  refine (S_invs (by decide) (Nat.le_of_ble_eq_true rfl) (Nat.le_of_ble_eq_true rfl) at_61_21).trans ?_
  rfl
theorem T61_24 {C : Nat → List j_V → j_H → Option j_Z} {L : j_B} {m : j_M0} {x1 : Int} {x2 : Int} {x3 : Int} : j_fin C 61 24 [some (jR 98), some (jI x1), some (jI x2), some (jI x3)] [] (hH L m) = some (none, hH L m) := by
  exact S_ret rfl at_61_24
theorem T62_0 {C : Nat → List j_V → j_H → Option j_Z} {L : j_B} {m : j_M0} {x1 : Int} {y2 : Int} : j_fin C 62 0 [some (jR 98), some (jI x1), some (jL y2), none] [] (hH L m) = if x1 = 0 then some (some (jL (w8 (w32 y2))), hH L m) else if x1 = 1 then some (some (jL (w16 (w32 y2))), hH L m) else if x1 = 2 then some (some (jL (w32 y2)), hH L m) else if x1 = 3 then some (some (jL y2), hH L m) else if x1 = 4 then if (j_cmp y2 0) = 0 then some (some (jL 0), hH L m) else some (some (jL 1), hH L m) else some (some (jL y2), hH L m) := by
  refine (S_iload_n rfl at_62_0).trans ?_
  refine (tsw_62_1 _).trans ?_
  refine ite_congr rfl (fun _ => ?_) (fun _ => ?_)
  · refine (S_lload_n rfl at_62_36).trans ?_
    refine (S_l2i at_62_37).trans ?_
    refine (S_i2b at_62_38).trans ?_
    refine (S_i2l at_62_39).trans ?_
    exact S_lret rfl at_62_40
  refine ite_congr rfl (fun _ => ?_) (fun _ => ?_)
  · refine (S_lload_n rfl at_62_41).trans ?_
    refine (S_l2i at_62_42).trans ?_
    refine (S_i2s at_62_43).trans ?_
    refine (S_i2l at_62_44).trans ?_
    exact S_lret rfl at_62_45
  refine ite_congr rfl (fun _ => ?_) (fun _ => ?_)
  · refine (S_lload_n rfl at_62_46).trans ?_
    refine (S_l2i at_62_47).trans ?_
    refine (S_i2l at_62_48).trans ?_
    exact S_lret rfl at_62_49
  refine ite_congr rfl (fun _ => ?_) (fun _ => ?_)
  · refine (S_lload_n rfl at_62_62).trans ?_
    exact S_lret rfl at_62_63
  refine ite_congr rfl (fun _ => ?_) (fun _ => ?_)
  · refine (S_lload_n rfl at_62_50).trans ?_
    refine (S_lconst at_62_51).trans ?_
    refine (S_lcmp at_62_52).trans ?_
    refine (S_if_eq at_62_53).trans ?_
    refine ite_congr rfl (fun _ => ?_) (fun _ => ?_)
    · refine (S_lconst at_62_60).trans ?_
      exact S_lret rfl at_62_61
    · refine (S_lconst at_62_56).trans ?_
      refine (S_goto at_62_57).trans ?_
      exact S_lret rfl at_62_61
  refine (S_lload_n rfl at_62_62).trans ?_
  exact S_lret rfl at_62_63
theorem T65_0 {C : Nat → List j_V → j_H → Option j_Z} {L : j_B} {m : j_M0} {x1 : Int} : j_fin C 65 0 [some (jR 93), some (jI x1), none] [] (hH L m) = j_fin C 65 17 [some (jR 93), some (jI x1), some (jI 0)] [] (hH L (j_up (j_up (j_up m 93 4 x1) 93 3 0) 93 1 0)) := by
  refine (S_aload_n rfl at_65_0).trans ?_
  refine (S_iload_n rfl at_65_1).trans ?_
  refine (H_put0 (ka_93 L _) rfl at_65_2).trans ?_
  refine (S_aload_n rfl at_65_5).trans ?_
  refine (S_iconst at_65_6).trans ?_
  refine (H_put0 (ka_93 L _) rfl at_65_7).trans ?_
  refine (S_aload_n rfl at_65_10).trans ?_
  refine (S_iconst at_65_11).trans ?_
  refine (H_put0 (ka_93 L _) rfl at_65_12).trans ?_
  refine (S_iconst at_65_15).trans ?_
  refine (S_istore_n (l1 := [some (jR 93), some (jI x1), some (jI 0)]) rfl at_65_16).trans ?_
  rfl
theorem T65_17 {C : Nat → List j_V → j_H → Option j_Z} {L : j_B} {m : j_M0} {x1 : Int} {x2 : Int} : j_fin C 65 17 [some (jR 93), some (jI x1), some (jI x2)] [] (hH L m) = if x2 < 4 then (C 70 [jR 93] (hH L m)).bind fun z => j_fin C 65 26 [some (jR 93), some (jI x1), some (jI x2)] (z.1.toList ++ []) z.2 else some (some (jI (m 93 3)), hH L m) := by
  refine (S_iload_n rfl at_65_17).trans ?_
  refine (S_iconst at_65_18).trans ?_
  refine (S_icmp_ge at_65_19).trans ?_
  refine ite_congr rfl (fun _ => ?_) (fun _ => ?_)
  · refine (S_aload_n rfl at_65_22).trans ?_
    refine (S_invv (b := 0) (by decide) kn_70 rfl (kd_93 L _) (Nat.le_of_ble_eq_true rfl) at_65_23).trans ?_
    rfl
  · refine (S_aload_n rfl at_65_85).trans ?_
    refine (H_get0 (ka_93 L _) rfl at_65_86).trans ?_
    exact S_ireti rfl at_65_89
theorem T65_26 {C : Nat → List j_V → j_H → Option j_Z} {L : j_B} {m : j_M0} {x1 : Int} {x2 : Int} {s0 : Int} : j_fin C 65 26 [some (jR 93), some (jI x1), some (jI x2)] [jI s0] (hH L m) = if s0 = 0 then some (some (jI (m 93 3)), hH L m) else if ((j_up m 93 1 (w32 ((m 93 1) + 1))) 93 3) < ((j_up m 93 1 (w32 ((m 93 1) + 1))) 93 0) then if ((j_up m 93 1 (w32 ((m 93 1) + 1))) 93 1) = 4 then some (some (jI ((j_up m 93 1 (w32 ((m 93 1) + 1))) 93 3)), hH L (j_up m 93 1 (w32 ((m 93 1) + 1)))) else (C 68 [jR 93, jI 59] (hH L (j_up m 93 1 (w32 ((m 93 1) + 1))))).bind fun z => j_fin C 65 71 [some (jR 93), some (jI x1), some (jI x2)] (z.1.toList ++ []) z.2 else some (some (jI (-1)), hH L (j_up m 93 1 (w32 ((m 93 1) + 1)))) := by
  refine (S_if_ne at_65_26).trans ?_
  refine ite_congr rfl (fun _ => ?_) (fun _ => ?_)
  · refine (S_aload_n rfl at_65_29).trans ?_
    refine (H_get0 (ka_93 L _) rfl at_65_30).trans ?_
    exact S_ireti rfl at_65_33
  · refine (S_aload_n rfl at_65_34).trans ?_
    refine (S_dup rfl at_65_35).trans ?_
    refine (H_get0 (ka_93 L _) rfl at_65_36).trans ?_
    refine (S_iconst at_65_39).trans ?_
    refine (S_iadd at_65_40).trans ?_
    refine (H_put0 (ka_93 L _) rfl at_65_41).trans ?_
    refine (S_aload_n rfl at_65_44).trans ?_
    refine (H_get0 (ka_93 L _) rfl at_65_45).trans ?_
    refine (S_aload_n rfl at_65_48).trans ?_
    refine (H_get0 (ka_93 L _) rfl at_65_49).trans ?_
    refine (S_icmp_lt at_65_52).trans ?_
    refine ite_congr rfl (fun _ => ?_) (fun _ => ?_)
    · refine (S_aload_n rfl at_65_57).trans ?_
      refine (H_get0 (ka_93 L _) rfl at_65_58).trans ?_
      refine (S_iconst at_65_61).trans ?_
      refine (S_icmp_eq at_65_62).trans ?_
      refine ite_congr rfl (fun _ => ?_) (fun _ => ?_)
      · refine (S_aload_n rfl at_65_74).trans ?_
        refine (H_get0 (ka_93 L _) rfl at_65_75).trans ?_
        exact S_ireti rfl at_65_78
      · refine (S_aload_n rfl at_65_65).trans ?_
        refine (S_bipush at_65_66).trans ?_
        refine (S_invv (b := 1) (by decide) kn_68 rfl (kd_93 L _) (Nat.le_of_ble_eq_true rfl) at_65_68).trans ?_
        rfl
    · refine (S_iconst at_65_55).trans ?_
      exact S_ireti rfl at_65_56
theorem T65_71 {C : Nat → List j_V → j_H → Option j_Z} {L : j_B} {m : j_M0} {x1 : Int} {x2 : Int} {s0 : Int} : j_fin C 65 71 [some (jR 93), some (jI x1), some (jI x2)] [jI s0] (hH L m) = if s0 = 0 then some (some (jI (m 93 3)), hH L m) else j_fin C 65 17 [some (jR 93), some (jI x1), some (jI (w32 (x2 + 1)))] [] (hH L m) := by
  refine (S_if_ne at_65_71).trans ?_
  refine ite_congr rfl (fun _ => ?_) (fun _ => ?_)
  · refine (S_aload_n rfl at_65_74).trans ?_
    refine (H_get0 (ka_93 L _) rfl at_65_75).trans ?_
    exact S_ireti rfl at_65_78
  · refine (S_iinc (l1 := [some (jR 93), some (jI x1), some (jI (w32 (x2 + 1)))]) rfl rfl at_65_79).trans ?_
    refine (S_goto at_65_82).trans ?_
    rfl
theorem T66_0 {C : Nat → List j_V → j_H → Option j_Z} {L : j_B} {m : j_M0} : j_fin C 66 0 [some (jR 93), some (jR 4), none, none] [] (hH L m) = j_fin C 66 2 [some (jR 93), some (jR 4), some (jI 0), none] [] (hH L m) := by
  refine (S_iconst at_66_0).trans ?_
  refine (S_istore_n (l1 := [some (jR 93), some (jR 4), some (jI 0), none]) rfl at_66_1).trans ?_
  rfl
theorem T66_2 {C : Nat → List j_V → j_H → Option j_Z} {L : j_B} {m : j_M0} {x2 : Int} {o3 : Option j_V} : j_fin C 66 2 [some (jR 93), some (jR 4), some (jI x2), o3] [] (hH L m) = if x2 < (m 93 1) then if 0 ≤ x2 ∧ x2 < 4 then if 0 ≤ x2 ∧ x2 < 4 then (C 10 [jR 4, jI (m 95 x2.toNat), jI (m 96 x2.toNat)] (hH L m)).bind fun z => j_fin C 66 26 [some (jR 93), some (jR 4), some (jI x2), o3] (z.1.toList ++ []) z.2 else none else none else some (none, hH L m) := by
  refine (S_iload_n rfl at_66_2).trans ?_
  refine (S_aload_n rfl at_66_3).trans ?_
  refine (H_get0 (ka_93 L _) rfl at_66_4).trans ?_
  refine (S_icmp_ge at_66_7).trans ?_
  refine ite_congr rfl (fun _ => ?_) (fun _ => ?_)
  · refine (S_aload_n rfl at_66_10).trans ?_
    refine (S_aload_n rfl at_66_11).trans ?_
    refine (S_getR (ka_93 L _) rfl (f_93_5 L _) at_66_12).trans ?_
    refine (S_iload_n rfl at_66_15).trans ?_
    refine (H_iaload (ka_95 L _) at_66_16).trans ?_
    refine ite_congr rfl (fun hi => ?_) (fun _ => rfl)
    refine (S_aload_n rfl at_66_17).trans ?_
    refine (S_getR (ka_93 L _) rfl (f_93_6 L _) at_66_18).trans ?_
    refine (S_iload_n rfl at_66_21).trans ?_
    refine (H_iaload (ka_96 L _) at_66_22).trans ?_
    refine ite_congr rfl (fun hi => ?_) (fun _ => rfl)
    refine (S_invv (b := 2) (by decide) kn_10 rfl (kd_4 L _) (Nat.le_of_ble_eq_true rfl) at_66_23).trans ?_
    rfl
  · exact S_ret rfl at_66_69
theorem T66_26 {C : Nat → List j_V → j_H → Option j_Z} {L : j_B} {m : j_M0} {x2 : Int} {o3 : Option j_V} : j_fin C 66 26 [some (jR 93), some (jR 4), some (jI x2), o3] [] (hH L m) = j_fin C 66 28 [some (jR 93), some (jR 4), some (jI x2), some (jI 0)] [] (hH L m) := by
  refine (S_iconst at_66_26).trans ?_
  refine (S_istore_n (l1 := [some (jR 93), some (jR 4), some (jI x2), some (jI 0)]) rfl at_66_27).trans ?_
  rfl
theorem T66_28 {C : Nat → List j_V → j_H → Option j_Z} {L : j_B} {m : j_M0} {x2 : Int} {x3 : Int} : j_fin C 66 28 [some (jR 93), some (jR 4), some (jI x2), some (jI x3)] [] (hH L m) = if x3 < (m 4 0) then if 0 ≤ (w32 ((w32 (x2 * 5)) + x3)) ∧ (w32 ((w32 (x2 * 5)) + x3)) < 20 then (C 12 [jR 4, jI (w32 ((m 4 1) - 1)), jI x3, jI (m 97 (w32 ((w32 (x2 * 5)) + x3)).toNat)] (hH L m)).bind fun z => j_fin C 66 57 [some (jR 93), some (jR 4), some (jI x2), some (jI x3)] (z.1.toList ++ []) z.2 else none else j_fin C 66 2 [some (jR 93), some (jR 4), some (jI (w32 (x2 + 1))), some (jI x3)] [] (hH L m) := by
  refine (S_iload_n rfl at_66_28).trans ?_
  refine (S_aload_n rfl at_66_29).trans ?_
  refine (H_get0 (ka_4 L _) rfl at_66_30).trans ?_
  refine (S_icmp_ge at_66_33).trans ?_
  refine ite_congr rfl (fun _ => ?_) (fun _ => ?_)
  · refine (S_aload_n rfl at_66_36).trans ?_
    refine (S_aload_n rfl at_66_37).trans ?_
    refine (H_get0 (ka_4 L _) rfl at_66_38).trans ?_
    refine (S_iconst at_66_41).trans ?_
    refine (S_isub at_66_42).trans ?_
    refine (S_iload_n rfl at_66_43).trans ?_
    refine (S_aload_n rfl at_66_44).trans ?_
    refine (S_getR (ka_93 L _) rfl (f_93_7 L _) at_66_45).trans ?_
    refine (S_iload_n rfl at_66_48).trans ?_
    refine (S_iconst at_66_49).trans ?_
    refine (S_imul at_66_50).trans ?_
    refine (S_iload_n rfl at_66_51).trans ?_
    refine (S_iadd at_66_52).trans ?_
    refine (H_iaload (ka_97 L _) at_66_53).trans ?_
    refine ite_congr rfl (fun hi => ?_) (fun _ => rfl)
    refine (S_invv (b := 3) (by decide) kn_12 rfl (kd_4 L _) (Nat.le_of_ble_eq_true rfl) at_66_54).trans ?_
    rfl
  · refine (S_iinc (l1 := [some (jR 93), some (jR 4), some (jI (w32 (x2 + 1))), some (jI x3)]) rfl rfl at_66_63).trans ?_
    refine (S_goto at_66_66).trans ?_
    rfl
theorem T66_57 {C : Nat → List j_V → j_H → Option j_Z} {L : j_B} {m : j_M0} {x2 : Int} {x3 : Int} : j_fin C 66 57 [some (jR 93), some (jR 4), some (jI x2), some (jI x3)] [] (hH L m) = j_fin C 66 28 [some (jR 93), some (jR 4), some (jI x2), some (jI (w32 (x3 + 1)))] [] (hH L m) := by
  refine (S_iinc (l1 := [some (jR 93), some (jR 4), some (jI x2), some (jI (w32 (x3 + 1)))]) rfl rfl at_66_57).trans ?_
  refine (S_goto at_66_60).trans ?_
  rfl
theorem T67_0 {C : Nat → List j_V → j_H → Option j_Z} {L : j_B} {m : j_M0} : j_fin C 67 0 [some (jR 93)] [] (hH L m) = if (m 93 3) < (m 93 0) then if 0 ≤ (m 93 3) ∧ (m 93 3) < 80 then some (some (jI (m 94 (m 93 3).toNat)), hH L m) else none else some (some (jI (-1)), hH L m) := by
  refine (S_aload_n rfl at_67_0).trans ?_
  refine (H_get0 (ka_93 L _) rfl at_67_1).trans ?_
  refine (S_aload_n rfl at_67_4).trans ?_
  refine (H_get0 (ka_93 L _) rfl at_67_5).trans ?_
  refine (S_icmp_ge at_67_8).trans ?_
  refine ite_congr rfl (fun _ => ?_) (fun _ => ?_)
  · refine (S_aload_n rfl at_67_11).trans ?_
    refine (S_getR (ka_93 L _) rfl (f_93_2 L _) at_67_12).trans ?_
    refine (S_aload_n rfl at_67_15).trans ?_
    refine (H_get0 (ka_93 L _) rfl at_67_16).trans ?_
    refine (H_baload34 (kd_94 L _) at_67_19).trans ?_
    refine ite_congr rfl (fun hi => ?_) (fun _ => rfl)
    refine (S_goto at_67_20).trans ?_
    exact S_ireti rfl at_67_24
  · refine (S_iconst at_67_23).trans ?_
    exact S_ireti rfl at_67_24
theorem T68_0 {C : Nat → List j_V → j_H → Option j_Z} {L : j_B} {m : j_M0} {x1 : Int} : j_fin C 68 0 [some (jR 93), some (jI x1)] [] (hH L m) = (C 67 [jR 93] (hH L m)).bind fun z => j_fin C 68 4 [some (jR 93), some (jI x1)] (z.1.toList ++ []) z.2 := by
  refine (S_aload_n rfl at_68_0).trans ?_
  refine (S_invv (b := 0) (by decide) kn_67 rfl (kd_93 L _) (Nat.le_of_ble_eq_true rfl) at_68_1).trans ?_
  rfl
theorem T68_4 {C : Nat → List j_V → j_H → Option j_Z} {L : j_B} {m : j_M0} {x1 : Int} {s0 : Int} : j_fin C 68 4 [some (jR 93), some (jI x1)] [jI s0] (hH L m) = if s0 = x1 then some (some (jI 1), hH L (j_up m 93 3 (w32 ((m 93 3) + 1)))) else some (some (jI 0), hH L m) := by
  refine (S_iload_n rfl at_68_4).trans ?_
  refine (S_icmp_eq at_68_5).trans ?_
  refine ite_congr rfl (fun _ => ?_) (fun _ => ?_)
  · refine (S_aload_n rfl at_68_10).trans ?_
    refine (S_dup rfl at_68_11).trans ?_
    refine (H_get0 (ka_93 L _) rfl at_68_12).trans ?_
    refine (S_iconst at_68_15).trans ?_
    refine (S_iadd at_68_16).trans ?_
    refine (H_put0 (ka_93 L _) rfl at_68_17).trans ?_
    refine (S_iconst at_68_20).trans ?_
    exact (S_iretz rfl at_68_21).trans (if_pos (by decide))
  · refine (S_iconst at_68_8).trans ?_
    exact (S_iretz rfl at_68_9).trans (if_pos (by decide))
theorem T69_0 {C : Nat → List j_V → j_H → Option j_Z} {L : j_B} {m : j_M0} : j_fin C 69 0 [some (jR 93)] [] (hH L m) = (C 67 [jR 93] (hH L m)).bind fun z => j_fin C 69 4 [some (jR 93)] (z.1.toList ++ []) z.2 := by
  refine (S_aload_n rfl at_69_0).trans ?_
  refine (S_invv (b := 0) (by decide) kn_67 rfl (kd_93 L _) (Nat.le_of_ble_eq_true rfl) at_69_1).trans ?_
  rfl
theorem T69_4 {C : Nat → List j_V → j_H → Option j_Z} {L : j_B} {m : j_M0} {s0 : Int} : j_fin C 69 4 [some (jR 93)] [jI s0] (hH L m) = if s0 < 48 then some (some (jI 0), hH L m) else (C 67 [jR 93] (hH L m)).bind fun z => j_fin C 69 13 [some (jR 93)] (z.1.toList ++ []) z.2 := by
  refine (S_bipush at_69_4).trans ?_
  refine (S_icmp_lt at_69_6).trans ?_
  refine ite_congr rfl (fun _ => ?_) (fun _ => ?_)
  · refine (S_iconst at_69_22).trans ?_
    exact (S_iretz rfl at_69_23).trans (if_pos (by decide))
  · refine (S_aload_n rfl at_69_9).trans ?_
    refine (S_invv (b := 0) (by decide) kn_67 rfl (kd_93 L _) (Nat.le_of_ble_eq_true rfl) at_69_10).trans ?_
    rfl
theorem T69_13 {C : Nat → List j_V → j_H → Option j_Z} {L : j_B} {m : j_M0} {s0 : Int} : j_fin C 69 13 [some (jR 93)] [jI s0] (hH L m) = if 57 < s0 then some (some (jI 0), hH L m) else some (some (jI 1), hH L m) := by
  refine (S_bipush at_69_13).trans ?_
  refine (S_icmp_gt at_69_15).trans ?_
  refine ite_congr rfl (fun _ => ?_) (fun _ => ?_)
  · refine (S_iconst at_69_22).trans ?_
    exact (S_iretz rfl at_69_23).trans (if_pos (by decide))
  · refine (S_iconst at_69_18).trans ?_
    refine (S_goto at_69_19).trans ?_
    exact (S_iretz rfl at_69_23).trans (if_pos (by decide))
theorem T70_0 {C : Nat → List j_V → j_H → Option j_Z} {L : j_B} {m : j_M0} : j_fin C 70 0 [some (jR 93), none, none] [] (hH L m) = j_fin C 70 2 [some (jR 93), some (jI 0), none] [] (hH L m) := by
  refine (S_iconst at_70_0).trans ?_
  refine (S_istore_n (l1 := [some (jR 93), some (jI 0), none]) rfl at_70_1).trans ?_
  rfl
theorem T70_2 {C : Nat → List j_V → j_H → Option j_Z} {L : j_B} {m : j_M0} {x1 : Int} : j_fin C 70 2 [some (jR 93), some (jI x1), none] [] (hH L m) = if x1 < 5 then if 0 ≤ (w32 ((w32 ((m 93 1) * 5)) + x1)) ∧ (w32 ((w32 ((m 93 1) * 5)) + x1)) < 20 then j_fin C 70 2 [some (jR 93), some (jI (w32 (x1 + 1))), none] [] (hH L (j_up m 97 (w32 ((w32 ((m 93 1) * 5)) + x1)).toNat 0)) else none else (C 68 [jR 93, jI 45] (hH L m)).bind fun z => j_fin C 70 34 [some (jR 93), some (jI x1), none] (z.1.toList ++ [jR 93]) z.2 := by
  refine (S_iload_n rfl at_70_2).trans ?_
  refine (S_iconst at_70_3).trans ?_
  refine (S_icmp_ge at_70_4).trans ?_
  refine ite_congr rfl (fun _ => ?_) (fun _ => ?_)
  · refine (S_aload_n rfl at_70_7).trans ?_
    refine (S_getR (ka_93 L _) rfl (f_93_7 L _) at_70_8).trans ?_
    refine (S_aload_n rfl at_70_11).trans ?_
    refine (H_get0 (ka_93 L _) rfl at_70_12).trans ?_
    refine (S_iconst at_70_15).trans ?_
    refine (S_imul at_70_16).trans ?_
    refine (S_iload_n rfl at_70_17).trans ?_
    refine (S_iadd at_70_18).trans ?_
    refine (S_iconst at_70_19).trans ?_
    refine (H_iastore (by omega) (ka_97 L _) at_70_20).trans ?_
    refine ite_congr rfl (fun hi => ?_) (fun _ => rfl)
    refine (S_iinc (l1 := [some (jR 93), some (jI (w32 (x1 + 1))), none]) rfl rfl at_70_21).trans ?_
    refine (S_goto at_70_24).trans ?_
    rfl
  · refine (S_aload_n rfl at_70_27).trans ?_
    refine (S_aload_n rfl at_70_28).trans ?_
    refine (S_bipush at_70_29).trans ?_
    refine (S_invv (b := 1) (by decide) kn_68 rfl (kd_93 L _) (Nat.le_of_ble_eq_true rfl) at_70_31).trans ?_
    rfl
theorem T70_34 {C : Nat → List j_V → j_H → Option j_Z} {L : j_B} {m : j_M0} {x1 : Int} {s1 : Int} : j_fin C 70 34 [some (jR 93), some (jI x1), none] [jI s1, jR 93] (hH L m) = (C 71 [jR 93, jI s1] (hH L m)).bind fun z => j_fin C 70 37 [some (jR 93), some (jI x1), none] (z.1.toList ++ []) z.2 := by
  refine (S_invv (b := 1) (by decide) kn_71 rfl (kd_93 L _) (Nat.le_of_ble_eq_true rfl) at_70_34).trans ?_
  rfl
theorem T70_37 {C : Nat → List j_V → j_H → Option j_Z} {L : j_B} {m : j_M0} {x1 : Int} {s0 : Int} : j_fin C 70 37 [some (jR 93), some (jI x1), none] [jI s0] (hH L m) = if s0 = 0 then some (some (jI 0), hH L m) else j_fin C 70 44 [some (jR 93), some (jI 0), none] [] (hH L m) := by
  refine (S_if_ne at_70_37).trans ?_
  refine ite_congr rfl (fun _ => ?_) (fun _ => ?_)
  · refine (S_iconst at_70_40).trans ?_
    exact (S_iretz rfl at_70_41).trans (if_pos (by decide))
  · refine (S_iconst at_70_42).trans ?_
    refine (S_istore_n (l1 := [some (jR 93), some (jI 0), none]) rfl at_70_43).trans ?_
    rfl
theorem T70_44 {C : Nat → List j_V → j_H → Option j_Z} {L : j_B} {m : j_M0} {x1 : Int} {o2 : Option j_V} : j_fin C 70 44 [some (jR 93), some (jI x1), o2] [] (hH L m) = if x1 < 80 then (C 67 [jR 93] (hH L m)).bind fun z => j_fin C 70 54 [some (jR 93), some (jI x1), o2] (z.1.toList ++ []) z.2 else (C 67 [jR 93] (hH L m)).bind fun z => j_fin C 70 113 [some (jR 93), some (jI x1), o2] (z.1.toList ++ []) z.2 := by
  refine (S_iload_n rfl at_70_44).trans ?_
  refine (S_bipush at_70_45).trans ?_
  refine (S_icmp_ge at_70_47).trans ?_
  refine ite_congr rfl (fun _ => ?_) (fun _ => ?_)
  · refine (S_aload_n rfl at_70_50).trans ?_
    refine (S_invv (b := 0) (by decide) kn_67 rfl (kd_93 L _) (Nat.le_of_ble_eq_true rfl) at_70_51).trans ?_
    rfl
  · refine (S_aload_n rfl at_70_109).trans ?_
    refine (S_invv (b := 0) (by decide) kn_67 rfl (kd_93 L _) (Nat.le_of_ble_eq_true rfl) at_70_110).trans ?_
    rfl
theorem T70_54 {C : Nat → List j_V → j_H → Option j_Z} {L : j_B} {m : j_M0} {x1 : Int} {o2 : Option j_V} {s0 : Int} : j_fin C 70 54 [some (jR 93), some (jI x1), o2] [jI s0] (hH L m) = if s0 = 43 then (C 67 [jR 93] (hH L m)).bind fun z => j_fin C 70 72 [some (jR 93), some (jI x1), o2] (z.1.toList ++ []) z.2 else (C 67 [jR 93] (hH L m)).bind fun z => j_fin C 70 63 [some (jR 93), some (jI x1), o2] (z.1.toList ++ []) z.2 := by
  refine (S_bipush at_70_54).trans ?_
  refine (S_icmp_eq at_70_56).trans ?_
  refine ite_congr rfl (fun _ => ?_) (fun _ => ?_)
  · refine (S_aload_n rfl at_70_68).trans ?_
    refine (S_invv (b := 0) (by decide) kn_67 rfl (kd_93 L _) (Nat.le_of_ble_eq_true rfl) at_70_69).trans ?_
    rfl
  · refine (S_aload_n rfl at_70_59).trans ?_
    refine (S_invv (b := 0) (by decide) kn_67 rfl (kd_93 L _) (Nat.le_of_ble_eq_true rfl) at_70_60).trans ?_
    rfl
theorem T70_63 {C : Nat → List j_V → j_H → Option j_Z} {L : j_B} {m : j_M0} {x1 : Int} {o2 : Option j_V} {s0 : Int} : j_fin C 70 63 [some (jR 93), some (jI x1), o2] [jI s0] (hH L m) = if s0 = 45 then (C 67 [jR 93] (hH L m)).bind fun z => j_fin C 70 72 [some (jR 93), some (jI x1), o2] (z.1.toList ++ []) z.2 else (C 67 [jR 93] (hH L m)).bind fun z => j_fin C 70 113 [some (jR 93), some (jI x1), o2] (z.1.toList ++ []) z.2 := by
  refine (S_bipush at_70_63).trans ?_
  refine (S_icmp_ne at_70_65).trans ?_
  refine ite_congr rfl (fun _ => ?_) (fun _ => ?_)
  · refine (S_aload_n rfl at_70_68).trans ?_
    refine (S_invv (b := 0) (by decide) kn_67 rfl (kd_93 L _) (Nat.le_of_ble_eq_true rfl) at_70_69).trans ?_
    rfl
  · refine (S_aload_n rfl at_70_109).trans ?_
    refine (S_invv (b := 0) (by decide) kn_67 rfl (kd_93 L _) (Nat.le_of_ble_eq_true rfl) at_70_110).trans ?_
    rfl
theorem T70_72 {C : Nat → List j_V → j_H → Option j_Z} {L : j_B} {m : j_M0} {x1 : Int} {o2 : Option j_V} {s0 : Int} : j_fin C 70 72 [some (jR 93), some (jI x1), o2] [jI s0] (hH L m) = if s0 = 45 then (C 71 [jR 93, jI 1] (hH L (j_up m 93 3 (w32 ((m 93 3) + 1))))).bind fun z => j_fin C 70 98 [some (jR 93), some (jI x1), some (jI 1)] (z.1.toList ++ []) z.2 else (C 71 [jR 93, jI 0] (hH L (j_up m 93 3 (w32 ((m 93 3) + 1))))).bind fun z => j_fin C 70 98 [some (jR 93), some (jI x1), some (jI 0)] (z.1.toList ++ []) z.2 := by
  refine (S_bipush at_70_72).trans ?_
  refine (S_icmp_ne at_70_74).trans ?_
  refine ite_congr rfl (fun _ => ?_) (fun _ => ?_)
  · refine (S_iconst at_70_77).trans ?_
    refine (S_goto at_70_78).trans ?_
    refine (S_istore_n (l1 := [some (jR 93), some (jI x1), some (jI 1)]) rfl at_70_82).trans ?_
    refine (S_aload_n rfl at_70_83).trans ?_
    refine (S_dup rfl at_70_84).trans ?_
    refine (H_get0 (ka_93 L _) rfl at_70_85).trans ?_
    refine (S_iconst at_70_88).trans ?_
    refine (S_iadd at_70_89).trans ?_
    refine (H_put0 (ka_93 L _) rfl at_70_90).trans ?_
    refine (S_aload_n rfl at_70_93).trans ?_
    refine (S_iload_n rfl at_70_94).trans ?_
    refine (S_invv (b := 1) (by decide) kn_71 rfl (kd_93 L _) (Nat.le_of_ble_eq_true rfl) at_70_95).trans ?_
    rfl
  · refine (S_iconst at_70_81).trans ?_
    refine (S_istore_n (l1 := [some (jR 93), some (jI x1), some (jI 0)]) rfl at_70_82).trans ?_
    refine (S_aload_n rfl at_70_83).trans ?_
    refine (S_dup rfl at_70_84).trans ?_
    refine (H_get0 (ka_93 L _) rfl at_70_85).trans ?_
    refine (S_iconst at_70_88).trans ?_
    refine (S_iadd at_70_89).trans ?_
    refine (H_put0 (ka_93 L _) rfl at_70_90).trans ?_
    refine (S_aload_n rfl at_70_93).trans ?_
    refine (S_iload_n rfl at_70_94).trans ?_
    refine (S_invv (b := 1) (by decide) kn_71 rfl (kd_93 L _) (Nat.le_of_ble_eq_true rfl) at_70_95).trans ?_
    rfl
theorem T70_98 {C : Nat → List j_V → j_H → Option j_Z} {L : j_B} {m : j_M0} {x1 : Int} {x2 : Int} {s0 : Int} : j_fin C 70 98 [some (jR 93), some (jI x1), some (jI x2)] [jI s0] (hH L m) = if s0 = 0 then some (some (jI 0), hH L m) else j_fin C 70 44 [some (jR 93), some (jI (w32 (x1 + 1))), some (jI x2)] [] (hH L m) := by
  refine (S_if_ne at_70_98).trans ?_
  refine ite_congr rfl (fun _ => ?_) (fun _ => ?_)
  · refine (S_iconst at_70_101).trans ?_
    exact (S_iretz rfl at_70_102).trans (if_pos (by decide))
  · refine (S_iinc (l1 := [some (jR 93), some (jI (w32 (x1 + 1))), some (jI x2)]) rfl rfl at_70_103).trans ?_
    refine (S_goto at_70_106).trans ?_
    rfl
theorem T70_113 {C : Nat → List j_V → j_H → Option j_Z} {L : j_B} {m : j_M0} {x1 : Int} {o2 : Option j_V} {s0 : Int} : j_fin C 70 113 [some (jR 93), some (jI x1), o2] [jI s0] (hH L m) = if s0 = 62 then (C 67 [jR 93] (hH L m)).bind fun z => j_fin C 70 141 [some (jR 93), some (jI x1), o2] (z.1.toList ++ [jI (m 93 1), jR 95]) z.2 else (C 67 [jR 93] (hH L m)).bind fun z => j_fin C 70 122 [some (jR 93), some (jI x1), o2] (z.1.toList ++ []) z.2 := by
  refine (S_bipush at_70_113).trans ?_
  refine (S_icmp_eq at_70_115).trans ?_
  refine ite_congr rfl (fun _ => ?_) (fun _ => ?_)
  · refine (S_aload_n rfl at_70_129).trans ?_
    refine (S_getR (ka_93 L _) rfl (f_93_5 L _) at_70_130).trans ?_
    refine (S_aload_n rfl at_70_133).trans ?_
    refine (H_get0 (ka_93 L _) rfl at_70_134).trans ?_
    refine (S_aload_n rfl at_70_137).trans ?_
    refine (S_invv (b := 0) (by decide) kn_67 rfl (kd_93 L _) (Nat.le_of_ble_eq_true rfl) at_70_138).trans ?_
    rfl
  · refine (S_aload_n rfl at_70_118).trans ?_
    refine (S_invv (b := 0) (by decide) kn_67 rfl (kd_93 L _) (Nat.le_of_ble_eq_true rfl) at_70_119).trans ?_
    rfl
theorem T70_122 {C : Nat → List j_V → j_H → Option j_Z} {L : j_B} {m : j_M0} {x1 : Int} {o2 : Option j_V} {s0 : Int} : j_fin C 70 122 [some (jR 93), some (jI x1), o2] [jI s0] (hH L m) = if s0 = 60 then (C 67 [jR 93] (hH L m)).bind fun z => j_fin C 70 141 [some (jR 93), some (jI x1), o2] (z.1.toList ++ [jI (m 93 1), jR 95]) z.2 else some (some (jI 0), hH L m) := by
  refine (S_bipush at_70_122).trans ?_
  refine (S_icmp_eq at_70_124).trans ?_
  refine ite_congr rfl (fun _ => ?_) (fun _ => ?_)
  · refine (S_aload_n rfl at_70_129).trans ?_
    refine (S_getR (ka_93 L _) rfl (f_93_5 L _) at_70_130).trans ?_
    refine (S_aload_n rfl at_70_133).trans ?_
    refine (H_get0 (ka_93 L _) rfl at_70_134).trans ?_
    refine (S_aload_n rfl at_70_137).trans ?_
    refine (S_invv (b := 0) (by decide) kn_67 rfl (kd_93 L _) (Nat.le_of_ble_eq_true rfl) at_70_138).trans ?_
    rfl
  · refine (S_iconst at_70_127).trans ?_
    exact (S_iretz rfl at_70_128).trans (if_pos (by decide))
theorem T70_141 {C : Nat → List j_V → j_H → Option j_Z} {L : j_B} {m : j_M0} {x1 : Int} {o2 : Option j_V} {s1 : Int} {s2 : Int} : j_fin C 70 141 [some (jR 93), some (jI x1), o2] [jI s2, jI s1, jR 95] (hH L m) = if s2 = 62 then if 0 ≤ s1 ∧ s1 < 4 then (C 68 [jR 93, jI 45] (hH L (j_up (j_up m 95 s1.toNat 0) 93 3 (w32 (((j_up m 95 s1.toNat 0) 93 3) + 1))))).bind fun z => j_fin C 70 169 [some (jR 93), some (jI x1), o2] (z.1.toList ++ [jR 93]) z.2 else none else if 0 ≤ s1 ∧ s1 < 4 then (C 68 [jR 93, jI 45] (hH L (j_up (j_up m 95 s1.toNat 1) 93 3 (w32 (((j_up m 95 s1.toNat 1) 93 3) + 1))))).bind fun z => j_fin C 70 169 [some (jR 93), some (jI x1), o2] (z.1.toList ++ [jR 93]) z.2 else none := by
  refine (S_bipush at_70_141).trans ?_
  refine (S_icmp_ne at_70_143).trans ?_
  refine ite_congr rfl (fun _ => ?_) (fun _ => ?_)
  · refine (S_iconst at_70_146).trans ?_
    refine (S_goto at_70_147).trans ?_
    refine (H_iastore (by omega) (ka_95 L _) at_70_151).trans ?_
    refine ite_congr rfl (fun hi => ?_) (fun _ => rfl)
    refine (S_aload_n rfl at_70_152).trans ?_
    refine (S_dup rfl at_70_153).trans ?_
    refine (H_get0 (ka_93 L _) rfl at_70_154).trans ?_
    refine (S_iconst at_70_157).trans ?_
    refine (S_iadd at_70_158).trans ?_
    refine (H_put0 (ka_93 L _) rfl at_70_159).trans ?_
    refine (S_aload_n rfl at_70_162).trans ?_
    refine (S_aload_n rfl at_70_163).trans ?_
    refine (S_bipush at_70_164).trans ?_
    refine (S_invv (b := 1) (by decide) kn_68 rfl (kd_93 L _) (Nat.le_of_ble_eq_true rfl) at_70_166).trans ?_
    rfl
  · refine (S_iconst at_70_150).trans ?_
    refine (H_iastore (by omega) (ka_95 L _) at_70_151).trans ?_
    refine ite_congr rfl (fun hi => ?_) (fun _ => rfl)
    refine (S_aload_n rfl at_70_152).trans ?_
    refine (S_dup rfl at_70_153).trans ?_
    refine (H_get0 (ka_93 L _) rfl at_70_154).trans ?_
    refine (S_iconst at_70_157).trans ?_
    refine (S_iadd at_70_158).trans ?_
    refine (H_put0 (ka_93 L _) rfl at_70_159).trans ?_
    refine (S_aload_n rfl at_70_162).trans ?_
    refine (S_aload_n rfl at_70_163).trans ?_
    refine (S_bipush at_70_164).trans ?_
    refine (S_invv (b := 1) (by decide) kn_68 rfl (kd_93 L _) (Nat.le_of_ble_eq_true rfl) at_70_166).trans ?_
    rfl
theorem T70_169 {C : Nat → List j_V → j_H → Option j_Z} {L : j_B} {m : j_M0} {x1 : Int} {o2 : Option j_V} {s1 : Int} : j_fin C 70 169 [some (jR 93), some (jI x1), o2] [jI s1, jR 93] (hH L m) = (C 72 [jR 93, jI s1] (hH L m)).bind fun z => j_fin C 70 172 [some (jR 93), some (jI x1), o2] (z.1.toList ++ []) z.2 := by
  refine (S_invv (b := 1) (by decide) kn_72 rfl (kd_93 L _) (Nat.le_of_ble_eq_true rfl) at_70_169).trans ?_
  rfl
theorem T70_172 {C : Nat → List j_V → j_H → Option j_Z} {L : j_B} {m : j_M0} {x1 : Int} {o2 : Option j_V} {s0 : Int} : j_fin C 70 172 [some (jR 93), some (jI x1), o2] [jI s0] (hH L m) = if s0 = 0 ∨ s0 = 1 then some (some (jI s0), hH L m) else none := by
  exact S_iretz rfl at_70_172
theorem T71_0 {C : Nat → List j_V → j_H → Option j_Z} {L : j_B} {m : j_M0} {x1 : Int} : j_fin C 71 0 [some (jR 93), some (jI x1), none, none, none] [] (hH L m) = (C 69 [jR 93] (hH L m)).bind fun z => j_fin C 71 6 [some (jR 93), some (jI x1), some (jI 1), none, none] (z.1.toList ++ []) z.2 := by
  refine (S_iconst at_71_0).trans ?_
  refine (S_istore_n (l1 := [some (jR 93), some (jI x1), some (jI 1), none, none]) rfl at_71_1).trans ?_
  refine (S_aload_n rfl at_71_2).trans ?_
  refine (S_invv (b := 0) (by decide) kn_69 rfl (kd_93 L _) (Nat.le_of_ble_eq_true rfl) at_71_3).trans ?_
  rfl
theorem T71_6 {C : Nat → List j_V → j_H → Option j_Z} {L : j_B} {m : j_M0} {x1 : Int} {x2 : Int} {s0 : Int} : j_fin C 71 6 [some (jR 93), some (jI x1), some (jI x2), none, none] [jI s0] (hH L m) = if s0 = 0 then (C 67 [jR 93] (hH L m)).bind fun z => j_fin C 71 31 [some (jR 93), some (jI x1), some (jI x2), none, none] (z.1.toList ++ []) z.2 else (C 67 [jR 93] (hH L m)).bind fun z => j_fin C 71 13 [some (jR 93), some (jI x1), some (jI x2), none, none] (z.1.toList ++ []) z.2 := by
  refine (S_if_eq at_71_6).trans ?_
  refine ite_congr rfl (fun _ => ?_) (fun _ => ?_)
  · refine (S_aload_n rfl at_71_27).trans ?_
    refine (S_invv (b := 0) (by decide) kn_67 rfl (kd_93 L _) (Nat.le_of_ble_eq_true rfl) at_71_28).trans ?_
    rfl
  · refine (S_aload_n rfl at_71_9).trans ?_
    refine (S_invv (b := 0) (by decide) kn_67 rfl (kd_93 L _) (Nat.le_of_ble_eq_true rfl) at_71_10).trans ?_
    rfl
theorem T71_13 {C : Nat → List j_V → j_H → Option j_Z} {L : j_B} {m : j_M0} {x1 : Int} {x2 : Int} {s0 : Int} : j_fin C 71 13 [some (jR 93), some (jI x1), some (jI x2), none, none] [jI s0] (hH L m) = (C 67 [jR 93] (hH L (j_up m 93 3 (w32 ((m 93 3) + 1))))).bind fun z => j_fin C 71 31 [some (jR 93), some (jI x1), some (jI (w32 (s0 - 48))), none, none] (z.1.toList ++ []) z.2 := by
  refine (S_bipush at_71_13).trans ?_
  refine (S_isub at_71_15).trans ?_
  refine (S_istore_n (l1 := [some (jR 93), some (jI x1), some (jI (w32 (s0 - 48))), none, none]) rfl at_71_16).trans ?_
  refine (S_aload_n rfl at_71_17).trans ?_
  refine (S_dup rfl at_71_18).trans ?_
  refine (H_get0 (ka_93 L _) rfl at_71_19).trans ?_
  refine (S_iconst at_71_22).trans ?_
  refine (S_iadd at_71_23).trans ?_
  refine (H_put0 (ka_93 L _) rfl at_71_24).trans ?_
  refine (S_aload_n rfl at_71_27).trans ?_
  refine (S_invv (b := 0) (by decide) kn_67 rfl (kd_93 L _) (Nat.le_of_ble_eq_true rfl) at_71_28).trans ?_
  rfl
theorem T71_31 {C : Nat → List j_V → j_H → Option j_Z} {L : j_B} {m : j_M0} {x1 : Int} {x2 : Int} {s0 : Int} : j_fin C 71 31 [some (jR 93), some (jI x1), some (jI x2), none, none] [jI s0] (hH L m) = if (w32 (s0 - 97)) < 0 then some (some (jI 0), hH L m) else if (w32 (s0 - 97)) < (m 93 4) then if 0 ≤ (w32 ((w32 ((m 93 1) * 5)) + (w32 (s0 - 97)))) ∧ (w32 ((w32 ((m 93 1) * 5)) + (w32 (s0 - 97)))) < 20 then if x1 = 0 then (C 140 [jI (w32 ((m 97 (w32 ((w32 ((m 93 1) * 5)) + (w32 (s0 - 97)))).toNat) + x2))] (hH L m)).bind fun z => j_fin C 71 80 [some (jR 93), some (jI x1), some (jI x2), some (jI (w32 (s0 - 97))), some (jI (w32 ((m 97 (w32 ((w32 ((m 93 1) * 5)) + (w32 (s0 - 97)))).toNat) + x2)))] (z.1.toList ++ []) z.2 else (C 140 [jI (w32 ((m 97 (w32 ((w32 ((m 93 1) * 5)) + (w32 (s0 - 97)))).toNat) + (w32 (-x2))))] (hH L m)).bind fun z => j_fin C 71 80 [some (jR 93), some (jI x1), some (jI x2), some (jI (w32 (s0 - 97))), some (jI (w32 ((m 97 (w32 ((w32 ((m 93 1) * 5)) + (w32 (s0 - 97)))).toNat) + (w32 (-x2)))))] (z.1.toList ++ []) z.2 else none else some (some (jI 0), hH L m) := by
  refine (S_bipush at_71_31).trans ?_
  refine (S_isub at_71_33).trans ?_
  refine (S_istore_n (l1 := [some (jR 93), some (jI x1), some (jI x2), some (jI (w32 (s0 - 97))), none]) rfl at_71_34).trans ?_
  refine (S_iload_n rfl at_71_35).trans ?_
  refine (S_if_lt at_71_36).trans ?_
  refine ite_congr rfl (fun _ => ?_) (fun _ => ?_)
  · refine (S_iconst at_71_47).trans ?_
    exact (S_iretz rfl at_71_48).trans (if_pos (by decide))
  · refine (S_iload_n rfl at_71_39).trans ?_
    refine (S_aload_n rfl at_71_40).trans ?_
    refine (H_get0 (ka_93 L _) rfl at_71_41).trans ?_
    refine (S_icmp_lt at_71_44).trans ?_
    refine ite_congr rfl (fun _ => ?_) (fun _ => ?_)
    · refine (S_aload_n rfl at_71_49).trans ?_
      refine (S_getR (ka_93 L _) rfl (f_93_7 L _) at_71_50).trans ?_
      refine (S_aload_n rfl at_71_53).trans ?_
      refine (H_get0 (ka_93 L _) rfl at_71_54).trans ?_
      refine (S_iconst at_71_57).trans ?_
      refine (S_imul at_71_58).trans ?_
      refine (S_iload_n rfl at_71_59).trans ?_
      refine (S_iadd at_71_60).trans ?_
      refine (H_iaload (ka_97 L _) at_71_61).trans ?_
      refine ite_congr rfl (fun hi => ?_) (fun _ => rfl)
      refine (S_iload_n rfl at_71_62).trans ?_
      refine (S_if_eq at_71_63).trans ?_
      refine ite_congr rfl (fun _ => ?_) (fun _ => ?_)
      · refine (S_iload_n rfl at_71_71).trans ?_
        refine (S_iadd at_71_72).trans ?_
        refine (S_istore (l1 := [some (jR 93), some (jI x1), some (jI x2), some (jI (w32 (s0 - 97))), some (jI (w32 ((m 97 (w32 ((w32 ((m 93 1) * 5)) + (w32 (s0 - 97)))).toNat) + x2)))]) rfl at_71_73).trans ?_
        refine (S_iload rfl at_71_75).trans ?_
        refine (S_invs (by decide) (Nat.le_of_ble_eq_true rfl) (Nat.le_of_ble_eq_true rfl) at_71_77).trans ?_
        rfl
      · refine (S_iload_n rfl at_71_66).trans ?_
        refine (S_ineg at_71_67).trans ?_
        refine (S_goto at_71_68).trans ?_
        refine (S_iadd at_71_72).trans ?_
        refine (S_istore (l1 := [some (jR 93), some (jI x1), some (jI x2), some (jI (w32 (s0 - 97))), some (jI (w32 ((m 97 (w32 ((w32 ((m 93 1) * 5)) + (w32 (s0 - 97)))).toNat) + (w32 (-x2)))))]) rfl at_71_73).trans ?_
        refine (S_iload rfl at_71_75).trans ?_
        refine (S_invs (by decide) (Nat.le_of_ble_eq_true rfl) (Nat.le_of_ble_eq_true rfl) at_71_77).trans ?_
        rfl
    · refine (S_iconst at_71_47).trans ?_
      exact (S_iretz rfl at_71_48).trans (if_pos (by decide))
theorem T71_80 {C : Nat → List j_V → j_H → Option j_Z} {L : j_B} {m : j_M0} {x1 : Int} {x2 : Int} {x3 : Int} {x4 : Int} {s0 : Int} : j_fin C 71 80 [some (jR 93), some (jI x1), some (jI x2), some (jI x3), some (jI x4)] [jI s0] (hH L m) = if s0 = 0 then some (some (jI 0), hH L m) else if 0 ≤ (w32 ((w32 ((m 93 1) * 5)) + x3)) ∧ (w32 ((w32 ((m 93 1) * 5)) + x3)) < 20 then some (some (jI 1), hH L (j_up (j_up m 97 (w32 ((w32 ((m 93 1) * 5)) + x3)).toNat x4) 93 3 (w32 (((j_up m 97 (w32 ((w32 ((m 93 1) * 5)) + x3)).toNat x4) 93 3) + 1)))) else none := by
  refine (S_if_ne at_71_80).trans ?_
  refine ite_congr rfl (fun _ => ?_) (fun _ => ?_)
  · refine (S_iconst at_71_83).trans ?_
    exact (S_iretz rfl at_71_84).trans (if_pos (by decide))
  · refine (S_aload_n rfl at_71_85).trans ?_
    refine (S_getR (ka_93 L _) rfl (f_93_7 L _) at_71_86).trans ?_
    refine (S_aload_n rfl at_71_89).trans ?_
    refine (H_get0 (ka_93 L _) rfl at_71_90).trans ?_
    refine (S_iconst at_71_93).trans ?_
    refine (S_imul at_71_94).trans ?_
    refine (S_iload_n rfl at_71_95).trans ?_
    refine (S_iadd at_71_96).trans ?_
    refine (S_iload rfl at_71_97).trans ?_
    refine (H_iastore (by omega) (ka_97 L _) at_71_99).trans ?_
    refine ite_congr rfl (fun hi => ?_) (fun _ => rfl)
    refine (S_aload_n rfl at_71_100).trans ?_
    refine (S_dup rfl at_71_101).trans ?_
    refine (H_get0 (ka_93 L _) rfl at_71_102).trans ?_
    refine (S_iconst at_71_105).trans ?_
    refine (S_iadd at_71_106).trans ?_
    refine (H_put0 (ka_93 L _) rfl at_71_107).trans ?_
    refine (S_iconst at_71_110).trans ?_
    exact (S_iretz rfl at_71_111).trans (if_pos (by decide))
theorem T72_0 {C : Nat → List j_V → j_H → Option j_Z} {L : j_B} {m : j_M0} {x1 : Int} : j_fin C 72 0 [some (jR 93), some (jI x1), none, none] [] (hH L m) = j_fin C 72 4 [some (jR 93), some (jI x1), some (jI 0), some (jI 0)] [] (hH L m) := by
  refine (S_iconst at_72_0).trans ?_
  refine (S_istore_n (l1 := [some (jR 93), some (jI x1), some (jI 0), none]) rfl at_72_1).trans ?_
  refine (S_iconst at_72_2).trans ?_
  refine (S_istore_n (l1 := [some (jR 93), some (jI x1), some (jI 0), some (jI 0)]) rfl at_72_3).trans ?_
  rfl
theorem T72_4 {C : Nat → List j_V → j_H → Option j_Z} {L : j_B} {m : j_M0} {x1 : Int} {x2 : Int} {x3 : Int} : j_fin C 72 4 [some (jR 93), some (jI x1), some (jI x2), some (jI x3)] [] (hH L m) = if x3 < 3 then (C 69 [jR 93] (hH L m)).bind fun z => j_fin C 72 13 [some (jR 93), some (jI x1), some (jI x2), some (jI x3)] (z.1.toList ++ []) z.2 else if x1 = 0 then if 0 ≤ (m 93 1) ∧ (m 93 1) < 4 then if 0 < x3 then some (some (jI 1), hH L (j_up m 96 (m 93 1).toNat x2)) else some (some (jI 0), hH L (j_up m 96 (m 93 1).toNat x2)) else none else if 0 ≤ (m 93 1) ∧ (m 93 1) < 4 then if 0 < x3 then some (some (jI 1), hH L (j_up m 96 (m 93 1).toNat (w32 (-x2)))) else some (some (jI 0), hH L (j_up m 96 (m 93 1).toNat (w32 (-x2)))) else none := by
  refine (S_iload_n rfl at_72_4).trans ?_
  refine (S_iconst at_72_5).trans ?_
  refine (S_icmp_ge at_72_6).trans ?_
  refine ite_congr rfl (fun _ => ?_) (fun _ => ?_)
  · refine (S_aload_n rfl at_72_9).trans ?_
    refine (S_invv (b := 0) (by decide) kn_69 rfl (kd_93 L _) (Nat.le_of_ble_eq_true rfl) at_72_10).trans ?_
    rfl
  · refine (S_aload_n rfl at_72_58).trans ?_
    refine (S_getR (ka_93 L _) rfl (f_93_6 L _) at_72_59).trans ?_
    refine (S_aload_n rfl at_72_62).trans ?_
    refine (H_get0 (ka_93 L _) rfl at_72_63).trans ?_
    refine (S_iload_n rfl at_72_66).trans ?_
    refine (S_if_eq at_72_67).trans ?_
    refine ite_congr rfl (fun _ => ?_) (fun _ => ?_)
    · refine (S_iload_n rfl at_72_75).trans ?_
      refine (H_iastore (by omega) (ka_96 L _) at_72_76).trans ?_
      refine ite_congr rfl (fun hi => ?_) (fun _ => rfl)
      refine (S_iload_n rfl at_72_77).trans ?_
      refine (S_if_le at_72_78).trans ?_
      refine ite_congr rfl (fun _ => ?_) (fun _ => ?_)
      · refine (S_iconst at_72_81).trans ?_
        refine (S_goto at_72_82).trans ?_
        exact (S_iretz rfl at_72_86).trans (if_pos (by decide))
      · refine (S_iconst at_72_85).trans ?_
        exact (S_iretz rfl at_72_86).trans (if_pos (by decide))
    · refine (S_iload_n rfl at_72_70).trans ?_
      refine (S_ineg at_72_71).trans ?_
      refine (S_goto at_72_72).trans ?_
      refine (H_iastore (by omega) (ka_96 L _) at_72_76).trans ?_
      refine ite_congr rfl (fun hi => ?_) (fun _ => rfl)
      refine (S_iload_n rfl at_72_77).trans ?_
      refine (S_if_le at_72_78).trans ?_
      refine ite_congr rfl (fun _ => ?_) (fun _ => ?_)
      · refine (S_iconst at_72_81).trans ?_
        refine (S_goto at_72_82).trans ?_
        exact (S_iretz rfl at_72_86).trans (if_pos (by decide))
      · refine (S_iconst at_72_85).trans ?_
        exact (S_iretz rfl at_72_86).trans (if_pos (by decide))
theorem T72_13 {C : Nat → List j_V → j_H → Option j_Z} {L : j_B} {m : j_M0} {x1 : Int} {x2 : Int} {x3 : Int} {s0 : Int} : j_fin C 72 13 [some (jR 93), some (jI x1), some (jI x2), some (jI x3)] [jI s0] (hH L m) = if s0 = 0 then if x1 = 0 then if 0 ≤ (m 93 1) ∧ (m 93 1) < 4 then if 0 < x3 then some (some (jI 1), hH L (j_up m 96 (m 93 1).toNat x2)) else some (some (jI 0), hH L (j_up m 96 (m 93 1).toNat x2)) else none else if 0 ≤ (m 93 1) ∧ (m 93 1) < 4 then if 0 < x3 then some (some (jI 1), hH L (j_up m 96 (m 93 1).toNat (w32 (-x2)))) else some (some (jI 0), hH L (j_up m 96 (m 93 1).toNat (w32 (-x2)))) else none else (C 67 [jR 93] (hH L m)).bind fun z => j_fin C 72 24 [some (jR 93), some (jI x1), some (jI x2), some (jI x3)] (z.1.toList ++ [jI (w32 (x2 * 10))]) z.2 := by
  refine (S_if_eq at_72_13).trans ?_
  refine ite_congr rfl (fun _ => ?_) (fun _ => ?_)
  · refine (S_aload_n rfl at_72_58).trans ?_
    refine (S_getR (ka_93 L _) rfl (f_93_6 L _) at_72_59).trans ?_
    refine (S_aload_n rfl at_72_62).trans ?_
    refine (H_get0 (ka_93 L _) rfl at_72_63).trans ?_
    refine (S_iload_n rfl at_72_66).trans ?_
    refine (S_if_eq at_72_67).trans ?_
    refine ite_congr rfl (fun _ => ?_) (fun _ => ?_)
    · refine (S_iload_n rfl at_72_75).trans ?_
      refine (H_iastore (by omega) (ka_96 L _) at_72_76).trans ?_
      refine ite_congr rfl (fun hi => ?_) (fun _ => rfl)
      refine (S_iload_n rfl at_72_77).trans ?_
      refine (S_if_le at_72_78).trans ?_
      refine ite_congr rfl (fun _ => ?_) (fun _ => ?_)
      · refine (S_iconst at_72_81).trans ?_
        refine (S_goto at_72_82).trans ?_
        exact (S_iretz rfl at_72_86).trans (if_pos (by decide))
      · refine (S_iconst at_72_85).trans ?_
        exact (S_iretz rfl at_72_86).trans (if_pos (by decide))
    · refine (S_iload_n rfl at_72_70).trans ?_
      refine (S_ineg at_72_71).trans ?_
      refine (S_goto at_72_72).trans ?_
      refine (H_iastore (by omega) (ka_96 L _) at_72_76).trans ?_
      refine ite_congr rfl (fun hi => ?_) (fun _ => rfl)
      refine (S_iload_n rfl at_72_77).trans ?_
      refine (S_if_le at_72_78).trans ?_
      refine ite_congr rfl (fun _ => ?_) (fun _ => ?_)
      · refine (S_iconst at_72_81).trans ?_
        refine (S_goto at_72_82).trans ?_
        exact (S_iretz rfl at_72_86).trans (if_pos (by decide))
      · refine (S_iconst at_72_85).trans ?_
        exact (S_iretz rfl at_72_86).trans (if_pos (by decide))
  · refine (S_iload_n rfl at_72_16).trans ?_
    refine (S_bipush at_72_17).trans ?_
    refine (S_imul at_72_19).trans ?_
    refine (S_aload_n rfl at_72_20).trans ?_
    refine (S_invv (b := 0) (by decide) kn_67 rfl (kd_93 L _) (Nat.le_of_ble_eq_true rfl) at_72_21).trans ?_
    rfl
theorem T72_24 {C : Nat → List j_V → j_H → Option j_Z} {L : j_B} {m : j_M0} {x1 : Int} {x2 : Int} {x3 : Int} {s0 : Int} {s1 : Int} : j_fin C 72 24 [some (jR 93), some (jI x1), some (jI x2), some (jI x3)] [jI s1, jI s0] (hH L m) = if x1 = 0 then j_fin C 72 4 [some (jR 93), some (jI x1), some (jI (w32 ((w32 (s0 + s1)) - 48))), some (jI (w32 (x3 + 1)))] [] (hH L (j_up m 93 3 (w32 ((m 93 3) + 1)))) else if (w32 (-(w32 ((w32 (s0 + s1)) - 48)))) < (-99) then some (some (jI 0), hH L m) else j_fin C 72 4 [some (jR 93), some (jI x1), some (jI (w32 ((w32 (s0 + s1)) - 48))), some (jI (w32 (x3 + 1)))] [] (hH L (j_up m 93 3 (w32 ((m 93 3) + 1)))) := by
  refine (S_iadd at_72_24).trans ?_
  refine (S_bipush at_72_25).trans ?_
  refine (S_isub at_72_27).trans ?_
  refine (S_istore_n (l1 := [some (jR 93), some (jI x1), some (jI (w32 ((w32 (s0 + s1)) - 48))), some (jI x3)]) rfl at_72_28).trans ?_
  refine (S_iload_n rfl at_72_29).trans ?_
  refine (S_if_eq at_72_30).trans ?_
  refine ite_congr rfl (fun _ => ?_) (fun _ => ?_)
  · refine (S_aload_n rfl at_72_42).trans ?_
    refine (S_dup rfl at_72_43).trans ?_
    refine (H_get0 (ka_93 L _) rfl at_72_44).trans ?_
    refine (S_iconst at_72_47).trans ?_
    refine (S_iadd at_72_48).trans ?_
    refine (H_put0 (ka_93 L _) rfl at_72_49).trans ?_
    refine (S_iinc (l1 := [some (jR 93), some (jI x1), some (jI (w32 ((w32 (s0 + s1)) - 48))), some (jI (w32 (x3 + 1)))]) rfl rfl at_72_52).trans ?_
    refine (S_goto at_72_55).trans ?_
    rfl
  · refine (S_iload_n rfl at_72_33).trans ?_
    refine (S_ineg at_72_34).trans ?_
    refine (S_bipush at_72_35).trans ?_
    refine (S_icmp_ge at_72_37).trans ?_
    refine ite_congr rfl (fun _ => ?_) (fun _ => ?_)
    · refine (S_iconst at_72_40).trans ?_
      exact (S_iretz rfl at_72_41).trans (if_pos (by decide))
    · refine (S_aload_n rfl at_72_42).trans ?_
      refine (S_dup rfl at_72_43).trans ?_
      refine (H_get0 (ka_93 L _) rfl at_72_44).trans ?_
      refine (S_iconst at_72_47).trans ?_
      refine (S_iadd at_72_48).trans ?_
      refine (H_put0 (ka_93 L _) rfl at_72_49).trans ?_
      refine (S_iinc (l1 := [some (jR 93), some (jI x1), some (jI (w32 ((w32 (s0 + s1)) - 48))), some (jI (w32 (x3 + 1)))]) rfl rfl at_72_52).trans ?_
      refine (S_goto at_72_55).trans ?_
      rfl
theorem T88_0 {C : Nat → List j_V → j_H → Option j_Z} {L : j_B} {m : j_M0} {x1 : Int} : j_fin C 88 0 [some (jR 2), some (jI x1), none] [] (hH L m) = if x1 < 1 then some (some (jI (-2)), hH L m) else if 5 < x1 then some (some (jI (-2)), hH L m) else (C 33 [jR 3, jI x1] (hH L m)).bind fun z => j_fin C 88 32 [some (jR 2), some (jI x1), some (jI (m 4 0))] (z.1.toList ++ []) z.2 := by
  refine (S_iload_n rfl at_88_0).trans ?_
  refine (S_iconst at_88_1).trans ?_
  refine (S_icmp_lt at_88_2).trans ?_
  refine ite_congr rfl (fun _ => ?_) (fun _ => ?_)
  · refine (S_bipush at_88_10).trans ?_
    exact S_ireti rfl at_88_12
  · refine (S_iload_n rfl at_88_5).trans ?_
    refine (S_iconst at_88_6).trans ?_
    refine (S_icmp_le at_88_7).trans ?_
    refine ite_congr rfl (fun _ => ?_) (fun _ => ?_)
    · refine (S_bipush at_88_10).trans ?_
      exact S_ireti rfl at_88_12
    · refine (S_aload_n rfl at_88_13).trans ?_
      refine (S_getR (ka_2 L _) rfl (f_2_0 L _) at_88_14).trans ?_
      refine (S_getR (ka_3 L _) rfl (f_3_0 L _) at_88_17).trans ?_
      refine (H_get0 (ka_4 L _) rfl at_88_20).trans ?_
      refine (S_istore_n (l1 := [some (jR 2), some (jI x1), some (jI (m 4 0))]) rfl at_88_23).trans ?_
      refine (S_aload_n rfl at_88_24).trans ?_
      refine (S_getR (ka_2 L _) rfl (f_2_0 L _) at_88_25).trans ?_
      refine (S_iload_n rfl at_88_28).trans ?_
      refine (S_invv (b := 1) (by decide) kn_33 rfl (kd_3 L _) (Nat.le_of_ble_eq_true rfl) at_88_29).trans ?_
      rfl
theorem T88_32 {C : Nat → List j_V → j_H → Option j_Z} {L : j_B} {m : j_M0} {x1 : Int} {x2 : Int} : j_fin C 88 32 [some (jR 2), some (jI x1), some (jI x2)] [] (hH L m) = some (some (jI x2), hH L (j_up m 2 11 0)) := by
  refine (S_aload_n rfl at_88_32).trans ?_
  refine (S_iconst at_88_33).trans ?_
  refine (H_put2 (ka_2 L _) rfl at_88_34).trans ?_
  refine (if_pos (by decide)).trans ?_
  refine (S_iload_n rfl at_88_37).trans ?_
  exact S_ireti rfl at_88_38
theorem T89_0 {C : Nat → List j_V → j_H → Option j_Z} {L : j_B} {m : j_M0} {x1 : Int} {x2 : Int} : j_fin C 89 0 [some (jR 2), some (jI x1), some (jI x2), none] [] (hH L m) = (C 135 [jR 2, jI x1] (hH L m)).bind fun z => j_fin C 89 5 [some (jR 2), some (jI x1), some (jI x2), none] (z.1.toList ++ []) z.2 := by
  refine (S_aload_n rfl at_89_0).trans ?_
  refine (S_iload_n rfl at_89_1).trans ?_
  refine (S_invv (b := 1) (by decide) kn_135 rfl (kd_2 L _) (Nat.le_of_ble_eq_true rfl) at_89_2).trans ?_
  rfl
theorem T89_5 {C : Nat → List j_V → j_H → Option j_Z} {L : j_B} {m : j_M0} {x1 : Int} {x2 : Int} {s0 : Int} : j_fin C 89 5 [some (jR 2), some (jI x1), some (jI x2), none] [jI s0] (hH L m) = if s0 = 0 then some (some (jI (-1)), hH L m) else if x2 < 0 then some (some (jI (-2)), hH L m) else if 99 < x2 then some (some (jI (-2)), hH L m) else if 0 ≤ x1 ∧ x1 < 5 then if 0 ≤ x1 ∧ x1 < 5 then (C 22 [jR 9] (hH L (j_up m 5 x1.toNat x2))).bind fun z => j_fin C 89 59 [some (jR 2), some (jI x1), some (jI x2), some (jI (m 5 x1.toNat))] (z.1.toList ++ []) z.2 else none else none := by
  refine (S_if_ne at_89_5).trans ?_
  refine ite_congr rfl (fun _ => ?_) (fun _ => ?_)
  · refine (S_iconst at_89_8).trans ?_
    exact S_ireti rfl at_89_9
  · refine (S_iload_n rfl at_89_10).trans ?_
    refine (S_if_lt at_89_11).trans ?_
    refine ite_congr rfl (fun _ => ?_) (fun _ => ?_)
    · refine (S_bipush at_89_20).trans ?_
      exact S_ireti rfl at_89_22
    · refine (S_iload_n rfl at_89_14).trans ?_
      refine (S_bipush at_89_15).trans ?_
      refine (S_icmp_le at_89_17).trans ?_
      refine ite_congr rfl (fun _ => ?_) (fun _ => ?_)
      · refine (S_bipush at_89_20).trans ?_
        exact S_ireti rfl at_89_22
      · refine (S_aload_n rfl at_89_23).trans ?_
        refine (S_getR (ka_2 L _) rfl (f_2_0 L _) at_89_24).trans ?_
        refine (S_getR (ka_3 L _) rfl (f_3_0 L _) at_89_27).trans ?_
        refine (S_getR (ka_4 L _) rfl (f_4_2 L _) at_89_30).trans ?_
        refine (S_iload_n rfl at_89_33).trans ?_
        refine (H_iaload (ka_5 L _) at_89_34).trans ?_
        refine ite_congr rfl (fun hi => ?_) (fun _ => rfl)
        refine (S_istore_n (l1 := [some (jR 2), some (jI x1), some (jI x2), some (jI (m 5 x1.toNat))]) rfl at_89_35).trans ?_
        refine (S_aload_n rfl at_89_36).trans ?_
        refine (S_getR (ka_2 L _) rfl (f_2_0 L _) at_89_37).trans ?_
        refine (S_getR (ka_3 L _) rfl (f_3_0 L _) at_89_40).trans ?_
        refine (S_getR (ka_4 L _) rfl (f_4_2 L _) at_89_43).trans ?_
        refine (S_iload_n rfl at_89_46).trans ?_
        refine (S_iload_n rfl at_89_47).trans ?_
        refine (H_iastore (by omega) (ka_5 L _) at_89_48).trans ?_
        refine ite_congr rfl (fun hi => ?_) (fun _ => rfl)
        refine (S_aload_n rfl at_89_49).trans ?_
        refine (S_getR (ka_2 L _) rfl (f_2_0 L _) at_89_50).trans ?_
        refine (S_getR (ka_3 L _) rfl (f_3_1 L _) at_89_53).trans ?_
        refine (S_invv (b := 0) (by decide) kn_22 rfl (kd_9 L _) (Nat.le_of_ble_eq_true rfl) at_89_56).trans ?_
        rfl
theorem T89_59 {C : Nat → List j_V → j_H → Option j_Z} {L : j_B} {m : j_M0} {x1 : Int} {x2 : Int} {x3 : Int} : j_fin C 89 59 [some (jR 2), some (jI x1), some (jI x2), some (jI x3)] [] (hH L m) = some (some (jI x3), hH L (j_up m 2 11 0)) := by
  refine (S_aload_n rfl at_89_59).trans ?_
  refine (S_iconst at_89_60).trans ?_
  refine (H_put2 (ka_2 L _) rfl at_89_61).trans ?_
  refine (if_pos (by decide)).trans ?_
  refine (S_iload_n rfl at_89_64).trans ?_
  exact S_ireti rfl at_89_65
theorem T91_0 {C : Nat → List j_V → j_H → Option j_Z} {L : j_B} {m : j_M0} {x1 : Int} {x2 : Int} {x3 : Int} : j_fin C 91 0 [some (jR 2), some (jI x1), some (jI x2), some (jI x3), none] [] (hH L m) = (C 136 [jR 2, jI x1] (hH L m)).bind fun z => j_fin C 91 5 [some (jR 2), some (jI x1), some (jI x2), some (jI x3), none] (z.1.toList ++ []) z.2 := by
  refine (S_aload_n rfl at_91_0).trans ?_
  refine (S_iload_n rfl at_91_1).trans ?_
  refine (S_invv (b := 1) (by decide) kn_136 rfl (kd_2 L _) (Nat.le_of_ble_eq_true rfl) at_91_2).trans ?_
  rfl
theorem T91_5 {C : Nat → List j_V → j_H → Option j_Z} {L : j_B} {m : j_M0} {x1 : Int} {x2 : Int} {x3 : Int} {s0 : Int} : j_fin C 91 5 [some (jR 2), some (jI x1), some (jI x2), some (jI x3), none] [jI s0] (hH L m) = if s0 = 0 then some (some (jI (-1)), hH L m) else (C 135 [jR 2, jI x2] (hH L m)).bind fun z => j_fin C 91 13 [some (jR 2), some (jI x1), some (jI x2), some (jI x3), none] (z.1.toList ++ []) z.2 := by
  refine (S_if_eq at_91_5).trans ?_
  refine ite_congr rfl (fun _ => ?_) (fun _ => ?_)
  · refine (S_iconst at_91_16).trans ?_
    exact S_ireti rfl at_91_17
  · refine (S_aload_n rfl at_91_8).trans ?_
    refine (S_iload_n rfl at_91_9).trans ?_
    refine (S_invv (b := 1) (by decide) kn_135 rfl (kd_2 L _) (Nat.le_of_ble_eq_true rfl) at_91_10).trans ?_
    rfl
theorem T91_13 {C : Nat → List j_V → j_H → Option j_Z} {L : j_B} {m : j_M0} {x1 : Int} {x2 : Int} {x3 : Int} {s0 : Int} : j_fin C 91 13 [some (jR 2), some (jI x1), some (jI x2), some (jI x3), none] [jI s0] (hH L m) = if s0 = 0 then some (some (jI (-1)), hH L m) else (C 140 [jI x3] (hH L m)).bind fun z => j_fin C 91 22 [some (jR 2), some (jI x1), some (jI x2), some (jI x3), none] (z.1.toList ++ []) z.2 := by
  refine (S_if_ne at_91_13).trans ?_
  refine ite_congr rfl (fun _ => ?_) (fun _ => ?_)
  · refine (S_iconst at_91_16).trans ?_
    exact S_ireti rfl at_91_17
  · refine (S_iload_n rfl at_91_18).trans ?_
    refine (S_invs (by decide) (Nat.le_of_ble_eq_true rfl) (Nat.le_of_ble_eq_true rfl) at_91_19).trans ?_
    rfl
theorem T91_22 {C : Nat → List j_V → j_H → Option j_Z} {L : j_B} {m : j_M0} {x1 : Int} {x2 : Int} {x3 : Int} {s0 : Int} : j_fin C 91 22 [some (jR 2), some (jI x1), some (jI x2), some (jI x3), none] [jI s0] (hH L m) = if s0 = 0 then some (some (jI (-2)), hH L m) else (C 11 [jR 4, jI x1, jI x2] (hH L m)).bind fun z => j_fin C 91 40 [some (jR 2), some (jI x1), some (jI x2), some (jI x3), none] (z.1.toList ++ []) z.2 := by
  refine (S_if_ne at_91_22).trans ?_
  refine ite_congr rfl (fun _ => ?_) (fun _ => ?_)
  · refine (S_bipush at_91_25).trans ?_
    exact S_ireti rfl at_91_27
  · refine (S_aload_n rfl at_91_28).trans ?_
    refine (S_getR (ka_2 L _) rfl (f_2_0 L _) at_91_29).trans ?_
    refine (S_getR (ka_3 L _) rfl (f_3_0 L _) at_91_32).trans ?_
    refine (S_iload_n rfl at_91_35).trans ?_
    refine (S_iload_n rfl at_91_36).trans ?_
    refine (S_invv (b := 2) (by decide) kn_11 rfl (kd_4 L _) (Nat.le_of_ble_eq_true rfl) at_91_37).trans ?_
    rfl
theorem T91_40 {C : Nat → List j_V → j_H → Option j_Z} {L : j_B} {m : j_M0} {x1 : Int} {x2 : Int} {x3 : Int} {s0 : Int} : j_fin C 91 40 [some (jR 2), some (jI x1), some (jI x2), some (jI x3), none] [jI s0] (hH L m) = (C 12 [jR 4, jI x1, jI x2, jI x3] (hH L m)).bind fun z => j_fin C 91 55 [some (jR 2), some (jI x1), some (jI x2), some (jI x3), some (jI s0)] (z.1.toList ++ []) z.2 := by
  refine (S_istore (l1 := [some (jR 2), some (jI x1), some (jI x2), some (jI x3), some (jI s0)]) rfl at_91_40).trans ?_
  refine (S_aload_n rfl at_91_42).trans ?_
  refine (S_getR (ka_2 L _) rfl (f_2_0 L _) at_91_43).trans ?_
  refine (S_getR (ka_3 L _) rfl (f_3_0 L _) at_91_46).trans ?_
  refine (S_iload_n rfl at_91_49).trans ?_
  refine (S_iload_n rfl at_91_50).trans ?_
  refine (S_iload_n rfl at_91_51).trans ?_
  refine (S_invv (b := 3) (by decide) kn_12 rfl (kd_4 L _) (Nat.le_of_ble_eq_true rfl) at_91_52).trans ?_
  rfl
theorem T91_55 {C : Nat → List j_V → j_H → Option j_Z} {L : j_B} {m : j_M0} {x1 : Int} {x2 : Int} {x3 : Int} {x4 : Int} : j_fin C 91 55 [some (jR 2), some (jI x1), some (jI x2), some (jI x3), some (jI x4)] [] (hH L m) = some (some (jI (w32 (x4 + 100))), hH L (j_up m 2 11 0)) := by
  refine (S_aload_n rfl at_91_55).trans ?_
  refine (S_iconst at_91_56).trans ?_
  refine (H_put2 (ka_2 L _) rfl at_91_57).trans ?_
  refine (if_pos (by decide)).trans ?_
  refine (S_iload rfl at_91_60).trans ?_
  refine (S_bipush at_91_62).trans ?_
  refine (S_iadd at_91_64).trans ?_
  exact S_ireti rfl at_91_65
theorem T92_0 {C : Nat → List j_V → j_H → Option j_Z} {L : j_B} {m : j_M0} {x1 : Int} {x2 : Int} : j_fin C 92 0 [some (jR 2), some (jI x1), some (jI x2), none] [] (hH L m) = (C 136 [jR 2, jI x1] (hH L m)).bind fun z => j_fin C 92 5 [some (jR 2), some (jI x1), some (jI x2), none] (z.1.toList ++ []) z.2 := by
  refine (S_aload_n rfl at_92_0).trans ?_
  refine (S_iload_n rfl at_92_1).trans ?_
  refine (S_invv (b := 1) (by decide) kn_136 rfl (kd_2 L _) (Nat.le_of_ble_eq_true rfl) at_92_2).trans ?_
  rfl
theorem T92_5 {C : Nat → List j_V → j_H → Option j_Z} {L : j_B} {m : j_M0} {x1 : Int} {x2 : Int} {s0 : Int} : j_fin C 92 5 [some (jR 2), some (jI x1), some (jI x2), none] [jI s0] (hH L m) = if s0 = 0 then some (some (jI (-1)), hH L m) else (C 139 [jI x2] (hH L m)).bind fun z => j_fin C 92 14 [some (jR 2), some (jI x1), some (jI x2), none] (z.1.toList ++ []) z.2 := by
  refine (S_if_ne at_92_5).trans ?_
  refine ite_congr rfl (fun _ => ?_) (fun _ => ?_)
  · refine (S_iconst at_92_8).trans ?_
    exact S_ireti rfl at_92_9
  · refine (S_iload_n rfl at_92_10).trans ?_
    refine (S_invs (by decide) (Nat.le_of_ble_eq_true rfl) (Nat.le_of_ble_eq_true rfl) at_92_11).trans ?_
    rfl
theorem T92_14 {C : Nat → List j_V → j_H → Option j_Z} {L : j_B} {m : j_M0} {x1 : Int} {x2 : Int} {s0 : Int} : j_fin C 92 14 [some (jR 2), some (jI x1), some (jI x2), none] [jI s0] (hH L m) = if s0 = 0 then some (some (jI (-2)), hH L m) else if 0 ≤ x1 ∧ x1 < 8 then if 0 ≤ x1 ∧ x1 < 8 then some (some (jI (w32 ((m 7 x1.toNat) + 1000))), hH L (j_up (j_up m 7 x1.toNat x2) 2 11 0)) else none else none := by
  refine (S_if_ne at_92_14).trans ?_
  refine ite_congr rfl (fun _ => ?_) (fun _ => ?_)
  · refine (S_bipush at_92_17).trans ?_
    exact S_ireti rfl at_92_19
  · refine (S_aload_n rfl at_92_20).trans ?_
    refine (S_getR (ka_2 L _) rfl (f_2_0 L _) at_92_21).trans ?_
    refine (S_getR (ka_3 L _) rfl (f_3_0 L _) at_92_24).trans ?_
    refine (S_getR (ka_4 L _) rfl (f_4_4 L _) at_92_27).trans ?_
    refine (S_iload_n rfl at_92_30).trans ?_
    refine (H_iaload (ka_7 L _) at_92_31).trans ?_
    refine ite_congr rfl (fun hi => ?_) (fun _ => rfl)
    refine (S_istore_n (l1 := [some (jR 2), some (jI x1), some (jI x2), some (jI (m 7 x1.toNat))]) rfl at_92_32).trans ?_
    refine (S_aload_n rfl at_92_33).trans ?_
    refine (S_getR (ka_2 L _) rfl (f_2_0 L _) at_92_34).trans ?_
    refine (S_getR (ka_3 L _) rfl (f_3_0 L _) at_92_37).trans ?_
    refine (S_getR (ka_4 L _) rfl (f_4_4 L _) at_92_40).trans ?_
    refine (S_iload_n rfl at_92_43).trans ?_
    refine (S_iload_n rfl at_92_44).trans ?_
    refine (H_iastore (by omega) (ka_7 L _) at_92_45).trans ?_
    refine ite_congr rfl (fun hi => ?_) (fun _ => rfl)
    refine (S_aload_n rfl at_92_46).trans ?_
    refine (S_iconst at_92_47).trans ?_
    refine (H_put2 (ka_2 L _) rfl at_92_48).trans ?_
    refine (if_pos (by decide)).trans ?_
    refine (S_iload_n rfl at_92_51).trans ?_
    refine (S_sipush at_92_52).trans ?_
    refine (S_iadd at_92_55).trans ?_
    exact S_ireti rfl at_92_56
theorem T93_0 {C : Nat → List j_V → j_H → Option j_Z} {L : j_B} {m : j_M0} : j_fin C 93 0 [some (jR 2)] [] (hH L m) = if 0 < (m 4 1) then if 0 ≤ ((j_up m 4 1 (w32 ((m 4 1) - 1))) 4 1) ∧ ((j_up m 4 1 (w32 ((m 4 1) - 1))) 4 1) < 8 then some (some (jI ((j_up (j_up (j_up m 4 1 (w32 ((m 4 1) - 1))) 13 ((j_up m 4 1 (w32 ((m 4 1) - 1))) 4 1).toNat 0) 2 11 0) 4 1)), hH L (j_up (j_up (j_up m 4 1 (w32 ((m 4 1) - 1))) 13 ((j_up m 4 1 (w32 ((m 4 1) - 1))) 4 1).toNat 0) 2 11 0)) else none else some (some (jI (-3)), hH L m) := by
  refine (S_aload_n rfl at_93_0).trans ?_
  refine (S_getR (ka_2 L _) rfl (f_2_0 L _) at_93_1).trans ?_
  refine (S_getR (ka_3 L _) rfl (f_3_0 L _) at_93_4).trans ?_
  refine (H_get0 (ka_4 L _) rfl at_93_7).trans ?_
  refine (S_if_gt at_93_10).trans ?_
  refine ite_congr rfl (fun _ => ?_) (fun _ => ?_)
  · refine (S_aload_n rfl at_93_16).trans ?_
    refine (S_getR (ka_2 L _) rfl (f_2_0 L _) at_93_17).trans ?_
    refine (S_getR (ka_3 L _) rfl (f_3_0 L _) at_93_20).trans ?_
    refine (S_dup rfl at_93_23).trans ?_
    refine (H_get0 (ka_4 L _) rfl at_93_24).trans ?_
    refine (S_iconst at_93_27).trans ?_
    refine (S_isub at_93_28).trans ?_
    refine (H_put0 (ka_4 L _) rfl at_93_29).trans ?_
    refine (S_aload_n rfl at_93_32).trans ?_
    refine (S_getR (ka_2 L _) rfl (f_2_0 L _) at_93_33).trans ?_
    refine (S_getR (ka_3 L _) rfl (f_3_2 L _) at_93_36).trans ?_
    refine (S_aload_n rfl at_93_39).trans ?_
    refine (S_getR (ka_2 L _) rfl (f_2_0 L _) at_93_40).trans ?_
    refine (S_getR (ka_3 L _) rfl (f_3_0 L _) at_93_43).trans ?_
    refine (H_get0 (ka_4 L _) rfl at_93_46).trans ?_
    refine (S_iconst at_93_49).trans ?_
    refine (H_iastore (by omega) (ka_13 L _) at_93_50).trans ?_
    refine ite_congr rfl (fun hi => ?_) (fun _ => rfl)
    refine (S_aload_n rfl at_93_51).trans ?_
    refine (S_iconst at_93_52).trans ?_
    refine (H_put2 (ka_2 L _) rfl at_93_53).trans ?_
    refine (if_pos (by decide)).trans ?_
    refine (S_aload_n rfl at_93_56).trans ?_
    refine (S_getR (ka_2 L _) rfl (f_2_0 L _) at_93_57).trans ?_
    refine (S_getR (ka_3 L _) rfl (f_3_0 L _) at_93_60).trans ?_
    refine (H_get0 (ka_4 L _) rfl at_93_63).trans ?_
    exact S_ireti rfl at_93_66
  · refine (S_bipush at_93_13).trans ?_
    exact S_ireti rfl at_93_15
theorem T94_0 {C : Nat → List j_V → j_H → Option j_Z} {L : j_B} {m : j_M0} {x1 : Int} : j_fin C 94 0 [some (jR 2), some (jI x1)] [] (hH L m) = if x1 < 0 then some (some (jI (-2)), hH L m) else if 127 < x1 then some (some (jI (-2)), hH L m) else if (m 93 0) < 80 then if 0 ≤ (m 93 0) ∧ (m 93 0) < 80 then some (some (jI ((j_up (j_up m 94 (m 93 0).toNat (w8 (w8 x1))) 93 0 (w32 (((j_up m 94 (m 93 0).toNat (w8 (w8 x1))) 93 0) + 1))) 93 0)), hH L (j_up (j_up m 94 (m 93 0).toNat (w8 (w8 x1))) 93 0 (w32 (((j_up m 94 (m 93 0).toNat (w8 (w8 x1))) 93 0) + 1)))) else none else some (some (jI (-4)), hH L m) := by
  refine (S_iload_n rfl at_94_0).trans ?_
  refine (S_if_lt at_94_1).trans ?_
  refine ite_congr rfl (fun _ => ?_) (fun _ => ?_)
  · refine (S_bipush at_94_10).trans ?_
    exact S_ireti rfl at_94_12
  · refine (S_iload_n rfl at_94_4).trans ?_
    refine (S_bipush at_94_5).trans ?_
    refine (S_icmp_le at_94_7).trans ?_
    refine ite_congr rfl (fun _ => ?_) (fun _ => ?_)
    · refine (S_bipush at_94_10).trans ?_
      exact S_ireti rfl at_94_12
    · refine (S_aload_n rfl at_94_13).trans ?_
      refine (S_getR (ka_2 L _) rfl (f_2_8 L _) at_94_14).trans ?_
      refine (H_get0 (ka_93 L _) rfl at_94_17).trans ?_
      refine (S_bipush at_94_20).trans ?_
      refine (S_icmp_lt at_94_22).trans ?_
      refine ite_congr rfl (fun _ => ?_) (fun _ => ?_)
      · refine (S_aload_n rfl at_94_28).trans ?_
        refine (S_getR (ka_2 L _) rfl (f_2_8 L _) at_94_29).trans ?_
        refine (S_getR (ka_93 L _) rfl (f_93_2 L _) at_94_32).trans ?_
        refine (S_aload_n rfl at_94_35).trans ?_
        refine (S_getR (ka_2 L _) rfl (f_2_8 L _) at_94_36).trans ?_
        refine (H_get0 (ka_93 L _) rfl at_94_39).trans ?_
        refine (S_iload_n rfl at_94_42).trans ?_
        refine (S_i2b at_94_43).trans ?_
        refine (H_bastore34 (by omega) (ka_94 L _) at_94_44).trans ?_
        refine ite_congr rfl (fun hi => ?_) (fun _ => rfl)
        refine (S_aload_n rfl at_94_45).trans ?_
        refine (S_getR (ka_2 L _) rfl (f_2_8 L _) at_94_46).trans ?_
        refine (S_dup rfl at_94_49).trans ?_
        refine (H_get0 (ka_93 L _) rfl at_94_50).trans ?_
        refine (S_iconst at_94_53).trans ?_
        refine (S_iadd at_94_54).trans ?_
        refine (H_put0 (ka_93 L _) rfl at_94_55).trans ?_
        refine (S_aload_n rfl at_94_58).trans ?_
        refine (S_getR (ka_2 L _) rfl (f_2_8 L _) at_94_59).trans ?_
        refine (H_get0 (ka_93 L _) rfl at_94_62).trans ?_
        exact S_ireti rfl at_94_65
      · refine (S_bipush at_94_25).trans ?_
        exact S_ireti rfl at_94_27
theorem T95_0 {C : Nat → List j_V → j_H → Option j_Z} {L : j_B} {m : j_M0} : j_fin C 95 0 [some (jR 2), none] [] (hH L m) = (C 65 [jR 93, jI (m 4 0)] (hH L m)).bind fun z => j_fin C 95 17 [some (jR 2), none] (z.1.toList ++ []) z.2 := by
  refine (S_aload_n rfl at_95_0).trans ?_
  refine (S_getR (ka_2 L _) rfl (f_2_8 L _) at_95_1).trans ?_
  refine (S_aload_n rfl at_95_4).trans ?_
  refine (S_getR (ka_2 L _) rfl (f_2_0 L _) at_95_5).trans ?_
  refine (S_getR (ka_3 L _) rfl (f_3_0 L _) at_95_8).trans ?_
  refine (H_get0 (ka_4 L _) rfl at_95_11).trans ?_
  refine (S_invv (b := 1) (by decide) kn_65 rfl (kd_93 L _) (Nat.le_of_ble_eq_true rfl) at_95_14).trans ?_
  rfl
theorem T95_17 {C : Nat → List j_V → j_H → Option j_Z} {L : j_B} {m : j_M0} {s0 : Int} : j_fin C 95 17 [some (jR 2), none] [jI s0] (hH L m) = if s0 < 0 then if 8 < (w32 (((j_up m 93 0 0) 4 1) + ((j_up m 93 0 0) 93 1))) then some (some (jI (-4)), hH L (j_up m 93 0 0)) else (C 66 [jR 93, jR 4] (hH L (j_up m 93 0 0))).bind fun z => j_fin C 95 75 [some (jR 2), some (jI s0)] (z.1.toList ++ []) z.2 else some (some (jI (w32 ((-10) - s0))), hH L (j_up m 93 0 0)) := by
  refine (S_istore_n (l1 := [some (jR 2), some (jI s0)]) rfl at_95_17).trans ?_
  refine (S_aload_n rfl at_95_18).trans ?_
  refine (S_getR (ka_2 L _) rfl (f_2_8 L _) at_95_19).trans ?_
  refine (S_iconst at_95_22).trans ?_
  refine (H_put0 (ka_93 L _) rfl at_95_23).trans ?_
  refine (S_iload_n rfl at_95_26).trans ?_
  refine (S_if_lt at_95_27).trans ?_
  refine ite_congr rfl (fun _ => ?_) (fun _ => ?_)
  · refine (S_aload_n rfl at_95_35).trans ?_
    refine (S_getR (ka_2 L _) rfl (f_2_0 L _) at_95_36).trans ?_
    refine (S_getR (ka_3 L _) rfl (f_3_0 L _) at_95_39).trans ?_
    refine (H_get0 (ka_4 L _) rfl at_95_42).trans ?_
    refine (S_aload_n rfl at_95_45).trans ?_
    refine (S_getR (ka_2 L _) rfl (f_2_8 L _) at_95_46).trans ?_
    refine (H_get0 (ka_93 L _) rfl at_95_49).trans ?_
    refine (S_iadd at_95_52).trans ?_
    refine (S_bipush at_95_53).trans ?_
    refine (S_icmp_le at_95_55).trans ?_
    refine ite_congr rfl (fun _ => ?_) (fun _ => ?_)
    · refine (S_bipush at_95_58).trans ?_
      exact S_ireti rfl at_95_60
    · refine (S_aload_n rfl at_95_61).trans ?_
      refine (S_getR (ka_2 L _) rfl (f_2_8 L _) at_95_62).trans ?_
      refine (S_aload_n rfl at_95_65).trans ?_
      refine (S_getR (ka_2 L _) rfl (f_2_0 L _) at_95_66).trans ?_
      refine (S_getR (ka_3 L _) rfl (f_3_0 L _) at_95_69).trans ?_
      refine (S_invv (b := 1) (by decide) kn_66 rfl (kd_93 L _) (Nat.le_of_ble_eq_true rfl) at_95_72).trans ?_
      rfl
  · refine (S_bipush at_95_30).trans ?_
    refine (S_iload_n rfl at_95_32).trans ?_
    refine (S_isub at_95_33).trans ?_
    exact S_ireti rfl at_95_34
theorem T95_75 {C : Nat → List j_V → j_H → Option j_Z} {L : j_B} {m : j_M0} {x1 : Int} : j_fin C 95 75 [some (jR 2), some (jI x1)] [] (hH L m) = some (some (jI ((j_up m 2 11 0) 93 1)), hH L (j_up m 2 11 0)) := by
  refine (S_aload_n rfl at_95_75).trans ?_
  refine (S_iconst at_95_76).trans ?_
  refine (H_put2 (ka_2 L _) rfl at_95_77).trans ?_
  refine (if_pos (by decide)).trans ?_
  refine (S_aload_n rfl at_95_80).trans ?_
  refine (S_getR (ka_2 L _) rfl (f_2_8 L _) at_95_81).trans ?_
  refine (H_get0 (ka_93 L _) rfl at_95_84).trans ?_
  exact S_ireti rfl at_95_87
theorem T96_0 {C : Nat → List j_V → j_H → Option j_Z} {L : j_B} {m : j_M0} {x1 : Int} {x2 : Int} : j_fin C 96 0 [some (jR 2), some (jI x1), some (jI x2)] [] (hH L m) = (C 136 [jR 2, jI x1] (hH L m)).bind fun z => j_fin C 96 5 [some (jR 2), some (jI x1), some (jI x2)] (z.1.toList ++ []) z.2 := by
  refine (S_aload_n rfl at_96_0).trans ?_
  refine (S_iload_n rfl at_96_1).trans ?_
  refine (S_invv (b := 1) (by decide) kn_136 rfl (kd_2 L _) (Nat.le_of_ble_eq_true rfl) at_96_2).trans ?_
  rfl
theorem T96_5 {C : Nat → List j_V → j_H → Option j_Z} {L : j_B} {m : j_M0} {x1 : Int} {x2 : Int} {s0 : Int} : j_fin C 96 5 [some (jR 2), some (jI x1), some (jI x2)] [jI s0] (hH L m) = if s0 = 0 then some (some (jI (-1)), hH L m) else if x2 < 0 then some (some (jI (-1)), hH L m) else if (w32 ((m 4 0) + 1)) < x2 then some (some (jI (-1)), hH L m) else if x2 = 0 then if 0 ≤ x1 ∧ x1 < 8 then some (some (jI (w32 ((m 6 x1.toNat) + 1000))), hH L m) else none else if x2 = 1 then if 0 ≤ x1 ∧ x1 < 8 then some (some (jI (w32 ((m 7 x1.toNat) + 1000))), hH L m) else none else (C 11 [jR 4, jI x1, jI (w32 (x2 - 2))] (hH L m)).bind fun z => j_fin C 96 87 [some (jR 2), some (jI x1), some (jI x2)] (z.1.toList ++ []) z.2 := by
  refine (S_if_eq at_96_5).trans ?_
  refine ite_congr rfl (fun _ => ?_) (fun _ => ?_)
  · refine (S_iconst at_96_28).trans ?_
    exact S_ireti rfl at_96_29
  · refine (S_iload_n rfl at_96_8).trans ?_
    refine (S_if_lt at_96_9).trans ?_
    refine ite_congr rfl (fun _ => ?_) (fun _ => ?_)
    · refine (S_iconst at_96_28).trans ?_
      exact S_ireti rfl at_96_29
    · refine (S_iload_n rfl at_96_12).trans ?_
      refine (S_aload_n rfl at_96_13).trans ?_
      refine (S_getR (ka_2 L _) rfl (f_2_0 L _) at_96_14).trans ?_
      refine (S_getR (ka_3 L _) rfl (f_3_0 L _) at_96_17).trans ?_
      refine (H_get0 (ka_4 L _) rfl at_96_20).trans ?_
      refine (S_iconst at_96_23).trans ?_
      refine (S_iadd at_96_24).trans ?_
      refine (S_icmp_le at_96_25).trans ?_
      refine ite_congr rfl (fun _ => ?_) (fun _ => ?_)
      · refine (S_iconst at_96_28).trans ?_
        exact S_ireti rfl at_96_29
      · refine (S_iload_n rfl at_96_30).trans ?_
        refine (S_if_ne at_96_31).trans ?_
        refine ite_congr rfl (fun _ => ?_) (fun _ => ?_)
        · refine (S_aload_n rfl at_96_34).trans ?_
          refine (S_getR (ka_2 L _) rfl (f_2_0 L _) at_96_35).trans ?_
          refine (S_getR (ka_3 L _) rfl (f_3_0 L _) at_96_38).trans ?_
          refine (S_getR (ka_4 L _) rfl (f_4_3 L _) at_96_41).trans ?_
          refine (S_iload_n rfl at_96_44).trans ?_
          refine (H_iaload (ka_6 L _) at_96_45).trans ?_
          refine ite_congr rfl (fun hi => ?_) (fun _ => rfl)
          refine (S_sipush at_96_46).trans ?_
          refine (S_iadd at_96_49).trans ?_
          exact S_ireti rfl at_96_50
        · refine (S_iload_n rfl at_96_51).trans ?_
          refine (S_iconst at_96_52).trans ?_
          refine (S_icmp_ne at_96_53).trans ?_
          refine ite_congr rfl (fun _ => ?_) (fun _ => ?_)
          · refine (S_aload_n rfl at_96_56).trans ?_
            refine (S_getR (ka_2 L _) rfl (f_2_0 L _) at_96_57).trans ?_
            refine (S_getR (ka_3 L _) rfl (f_3_0 L _) at_96_60).trans ?_
            refine (S_getR (ka_4 L _) rfl (f_4_4 L _) at_96_63).trans ?_
            refine (S_iload_n rfl at_96_66).trans ?_
            refine (H_iaload (ka_7 L _) at_96_67).trans ?_
            refine ite_congr rfl (fun hi => ?_) (fun _ => rfl)
            refine (S_sipush at_96_68).trans ?_
            refine (S_iadd at_96_71).trans ?_
            exact S_ireti rfl at_96_72
          · refine (S_aload_n rfl at_96_73).trans ?_
            refine (S_getR (ka_2 L _) rfl (f_2_0 L _) at_96_74).trans ?_
            refine (S_getR (ka_3 L _) rfl (f_3_0 L _) at_96_77).trans ?_
            refine (S_iload_n rfl at_96_80).trans ?_
            refine (S_iload_n rfl at_96_81).trans ?_
            refine (S_iconst at_96_82).trans ?_
            refine (S_isub at_96_83).trans ?_
            refine (S_invv (b := 2) (by decide) kn_11 rfl (kd_4 L _) (Nat.le_of_ble_eq_true rfl) at_96_84).trans ?_
            rfl
theorem T96_87 {C : Nat → List j_V → j_H → Option j_Z} {L : j_B} {m : j_M0} {x1 : Int} {x2 : Int} {s0 : Int} : j_fin C 96 87 [some (jR 2), some (jI x1), some (jI x2)] [jI s0] (hH L m) = some (some (jI (w32 (s0 + 1000))), hH L m) := by
  refine (S_sipush at_96_87).trans ?_
  refine (S_iadd at_96_90).trans ?_
  exact S_ireti rfl at_96_91
theorem T97_0 {C : Nat → List j_V → j_H → Option j_Z} {L : j_B} {m : j_M0} {x1 : Int} : j_fin C 97 0 [some (jR 2), some (jI x1)] [] (hH L m) = if x1 < 0 then some (some (jI (-2)), hH L m) else if 12 < x1 then some (some (jI (-2)), hH L m) else (C 29 [jR 40, jR 4, jI x1] (hH L (j_up m 2 11 1))).bind fun z => j_fin C 97 33 [some (jR 2), some (jI x1)] (z.1.toList ++ []) z.2 := by
  refine (S_iload_n rfl at_97_0).trans ?_
  refine (S_if_lt at_97_1).trans ?_
  refine ite_congr rfl (fun _ => ?_) (fun _ => ?_)
  · refine (S_bipush at_97_10).trans ?_
    exact S_ireti rfl at_97_12
  · refine (S_iload_n rfl at_97_4).trans ?_
    refine (S_bipush at_97_5).trans ?_
    refine (S_icmp_le at_97_7).trans ?_
    refine ite_congr rfl (fun _ => ?_) (fun _ => ?_)
    · refine (S_bipush at_97_10).trans ?_
      exact S_ireti rfl at_97_12
    · refine (S_aload_n rfl at_97_13).trans ?_
      refine (S_iconst at_97_14).trans ?_
      refine (H_put2 (ka_2 L _) rfl at_97_15).trans ?_
      refine (if_pos (by decide)).trans ?_
      refine (S_aload_n rfl at_97_18).trans ?_
      refine (S_getR (ka_2 L _) rfl (f_2_3 L _) at_97_19).trans ?_
      refine (S_aload_n rfl at_97_22).trans ?_
      refine (S_getR (ka_2 L _) rfl (f_2_0 L _) at_97_23).trans ?_
      refine (S_getR (ka_3 L _) rfl (f_3_0 L _) at_97_26).trans ?_
      refine (S_iload_n rfl at_97_29).trans ?_
      refine (S_invv (b := 2) (by decide) kn_29 rfl (kd_40 L _) (Nat.le_of_ble_eq_true rfl) at_97_30).trans ?_
      rfl
theorem T97_33 {C : Nat → List j_V → j_H → Option j_Z} {L : j_B} {m : j_M0} {x1 : Int} {s0 : Int} : j_fin C 97 33 [some (jR 2), some (jI x1)] [jI s0] (hH L m) = some (some (jI s0), hH L m) := by
  exact S_ireti rfl at_97_33
theorem T99_0 {C : Nat → List j_V → j_H → Option j_Z} {L : j_B} {m : j_M0} {x1 : Int} {x2 : Int} : j_fin C 99 0 [some (jR 2), some (jI x1), some (jI x2)] [] (hH L m) = if (m 2 11) = 0 then some (some (jL (-9223372036854775808)), hH L m) else (C 135 [jR 2, jI x1] (hH L m)).bind fun z => j_fin C 99 12 [some (jR 2), some (jI x1), some (jI x2)] (z.1.toList ++ []) z.2 := by
  refine (S_aload_n rfl at_99_0).trans ?_
  refine (H_get2 (ka_2 L _) rfl at_99_1).trans ?_
  refine (S_if_eq at_99_4).trans ?_
  refine ite_congr rfl (fun _ => ?_) (fun _ => ?_)
  · refine (S_ldc2_w at_99_22).trans ?_
    exact S_lret rfl at_99_25
  · refine (S_aload_n rfl at_99_7).trans ?_
    refine (S_iload_n rfl at_99_8).trans ?_
    refine (S_invv (b := 1) (by decide) kn_135 rfl (kd_2 L _) (Nat.le_of_ble_eq_true rfl) at_99_9).trans ?_
    rfl
theorem T99_12 {C : Nat → List j_V → j_H → Option j_Z} {L : j_B} {m : j_M0} {x1 : Int} {x2 : Int} {s0 : Int} : j_fin C 99 12 [some (jR 2), some (jI x1), some (jI x2)] [jI s0] (hH L m) = if s0 = 0 then some (some (jL (-9223372036854775808)), hH L m) else (C 141 [jI x2] (hH L m)).bind fun z => j_fin C 99 19 [some (jR 2), some (jI x1), some (jI x2)] (z.1.toList ++ []) z.2 := by
  refine (S_if_eq at_99_12).trans ?_
  refine ite_congr rfl (fun _ => ?_) (fun _ => ?_)
  · refine (S_ldc2_w at_99_22).trans ?_
    exact S_lret rfl at_99_25
  · refine (S_iload_n rfl at_99_15).trans ?_
    refine (S_invs (by decide) (Nat.le_of_ble_eq_true rfl) (Nat.le_of_ble_eq_true rfl) at_99_16).trans ?_
    rfl
theorem T99_19 {C : Nat → List j_V → j_H → Option j_Z} {L : j_B} {m : j_M0} {x1 : Int} {x2 : Int} {s0 : Int} : j_fin C 99 19 [some (jR 2), some (jI x1), some (jI x2)] [jI s0] (hH L m) = if s0 = 0 then some (some (jL (-9223372036854775808)), hH L m) else (C 53 [jR 41, jI x1] (hH L m)).bind fun z => j_fin C 99 37 [some (jR 2), some (jI x1), some (jI x2)] (z.1.toList ++ []) z.2 := by
  refine (S_if_ne at_99_19).trans ?_
  refine ite_congr rfl (fun _ => ?_) (fun _ => ?_)
  · refine (S_ldc2_w at_99_22).trans ?_
    exact S_lret rfl at_99_25
  · refine (S_aload_n rfl at_99_26).trans ?_
    refine (S_getR (ka_2 L _) rfl (f_2_3 L _) at_99_27).trans ?_
    refine (S_getR (ka_40 L _) rfl (f_40_0 L _) at_99_30).trans ?_
    refine (S_iload_n rfl at_99_33).trans ?_
    refine (S_invv (b := 1) (by decide) kn_53 rfl (kd_41 L _) (Nat.le_of_ble_eq_true rfl) at_99_34).trans ?_
    rfl
theorem T99_37 {C : Nat → List j_V → j_H → Option j_Z} {L : j_B} {m : j_M0} {x1 : Int} {x2 : Int} {t0 : Int} : j_fin C 99 37 [some (jR 2), some (jI x1), some (jI x2)] [jL t0] (hH L m) = (C 146 [jL t0, jL (m 41 4), jI x2] (hH L m)).bind fun z => j_fin C 99 51 [some (jR 2), some (jI x1), some (jI x2)] (z.1.toList ++ []) z.2 := by
  refine (S_aload_n rfl at_99_37).trans ?_
  refine (S_getR (ka_2 L _) rfl (f_2_3 L _) at_99_38).trans ?_
  refine (S_getR (ka_40 L _) rfl (f_40_0 L _) at_99_41).trans ?_
  refine (H_get1 (ka_41 L _) rfl at_99_44).trans ?_
  refine (S_iload_n rfl at_99_47).trans ?_
  refine (S_invs (by decide) (Nat.le_of_ble_eq_true rfl) (Nat.le_of_ble_eq_true rfl) at_99_48).trans ?_
  rfl
theorem T99_51 {C : Nat → List j_V → j_H → Option j_Z} {L : j_B} {m : j_M0} {x1 : Int} {x2 : Int} {t0 : Int} : j_fin C 99 51 [some (jR 2), some (jI x1), some (jI x2)] [jL t0] (hH L m) = some (some (jL t0), hH L m) := by
  exact S_lret rfl at_99_51
theorem T115_0 {C : Nat → List j_V → j_H → Option j_Z} {L : j_B} {m : j_M0} {x1 : Int} {x2 : Int} : j_fin C 115 0 [some (jR 2), some (jI x1), some (jI x2)] [] (hH L m) = (C 136 [jR 2, jI x1] (hH L m)).bind fun z => j_fin C 115 5 [some (jR 2), some (jI x1), some (jI x2)] (z.1.toList ++ []) z.2 := by
  refine (S_aload_n rfl at_115_0).trans ?_
  refine (S_iload_n rfl at_115_1).trans ?_
  refine (S_invv (b := 1) (by decide) kn_136 rfl (kd_2 L _) (Nat.le_of_ble_eq_true rfl) at_115_2).trans ?_
  rfl
theorem T115_5 {C : Nat → List j_V → j_H → Option j_Z} {L : j_B} {m : j_M0} {x1 : Int} {x2 : Int} {s0 : Int} : j_fin C 115 5 [some (jR 2), some (jI x1), some (jI x2)] [jI s0] (hH L m) = if s0 = 0 then some (some (jI (-1)), hH L m) else (C 139 [jI x2] (hH L m)).bind fun z => j_fin C 115 14 [some (jR 2), some (jI x1), some (jI x2)] (z.1.toList ++ []) z.2 := by
  refine (S_if_ne at_115_5).trans ?_
  refine ite_congr rfl (fun _ => ?_) (fun _ => ?_)
  · refine (S_iconst at_115_8).trans ?_
    exact S_ireti rfl at_115_9
  · refine (S_iload_n rfl at_115_10).trans ?_
    refine (S_invs (by decide) (Nat.le_of_ble_eq_true rfl) (Nat.le_of_ble_eq_true rfl) at_115_11).trans ?_
    rfl
theorem T115_14 {C : Nat → List j_V → j_H → Option j_Z} {L : j_B} {m : j_M0} {x1 : Int} {x2 : Int} {s0 : Int} : j_fin C 115 14 [some (jR 2), some (jI x1), some (jI x2)] [jI s0] (hH L m) = if s0 = 0 then some (some (jI (-2)), hH L m) else (C 8 [jR 35, jR 4] (hH L m)).bind fun z => j_fin C 115 34 [some (jR 2), some (jI x1), some (jI x2)] (z.1.toList ++ []) z.2 := by
  refine (S_if_ne at_115_14).trans ?_
  refine ite_congr rfl (fun _ => ?_) (fun _ => ?_)
  · refine (S_bipush at_115_17).trans ?_
    exact S_ireti rfl at_115_19
  · refine (S_aload_n rfl at_115_20).trans ?_
    refine (S_getR (ka_2 L _) rfl (f_2_2 L _) at_115_21).trans ?_
    refine (S_aload_n rfl at_115_24).trans ?_
    refine (S_getR (ka_2 L _) rfl (f_2_0 L _) at_115_25).trans ?_
    refine (S_getR (ka_3 L _) rfl (f_3_0 L _) at_115_28).trans ?_
    refine (S_invv (b := 1) (by decide) kn_8 rfl (kd_35 L _) (Nat.le_of_ble_eq_true rfl) at_115_31).trans ?_
    rfl
theorem T115_34 {C : Nat → List j_V → j_H → Option j_Z} {L : j_B} {m : j_M0} {x1 : Int} {x2 : Int} : j_fin C 115 34 [some (jR 2), some (jI x1), some (jI x2)] [] (hH L m) = if 0 ≤ x1 ∧ x1 < 8 then (C 30 [jR 54, jR 35] (hH L (j_up m 38 x1.toNat x2))).bind fun z => j_fin C 115 55 [some (jR 2), some (jI x1), some (jI x2)] (z.1.toList ++ []) z.2 else none := by
  refine (S_aload_n rfl at_115_34).trans ?_
  refine (S_getR (ka_2 L _) rfl (f_2_2 L _) at_115_35).trans ?_
  refine (S_getR (ka_35 L _) rfl (f_35_4 L _) at_115_38).trans ?_
  refine (S_iload_n rfl at_115_41).trans ?_
  refine (S_iload_n rfl at_115_42).trans ?_
  refine (H_iastore (by omega) (ka_38 L _) at_115_43).trans ?_
  refine ite_congr rfl (fun hi => ?_) (fun _ => rfl)
  refine (S_aload_n rfl at_115_44).trans ?_
  refine (S_getR (ka_2 L _) rfl (f_2_4 L _) at_115_45).trans ?_
  refine (S_aload_n rfl at_115_48).trans ?_
  refine (S_getR (ka_2 L _) rfl (f_2_2 L _) at_115_49).trans ?_
  refine (S_invv (b := 1) (by decide) kn_30 rfl (kd_54 L _) (Nat.le_of_ble_eq_true rfl) at_115_52).trans ?_
  rfl
theorem T115_55 {C : Nat → List j_V → j_H → Option j_Z} {L : j_B} {m : j_M0} {x1 : Int} {x2 : Int} {s0 : Int} : j_fin C 115 55 [some (jR 2), some (jI x1), some (jI x2)] [jI s0] (hH L m) = some (some (jI s0), hH L m) := by
  exact S_ireti rfl at_115_55
theorem T116_0 {C : Nat → List j_V → j_H → Option j_Z} {L : j_B} {m : j_M0} {x1 : Int} {x2 : Int} : j_fin C 116 0 [some (jR 2), some (jI x1), some (jI x2)] [] (hH L m) = if x1 = (-1) then some (some (jI 0), hH L (j_up m 3 5 0)) else (C 135 [jR 2, jI x1] (hH L m)).bind fun z => j_fin C 116 20 [some (jR 2), some (jI x1), some (jI x2)] (z.1.toList ++ []) z.2 := by
  refine (S_iload_n rfl at_116_0).trans ?_
  refine (S_iconst at_116_1).trans ?_
  refine (S_icmp_ne at_116_2).trans ?_
  refine ite_congr rfl (fun _ => ?_) (fun _ => ?_)
  · refine (S_aload_n rfl at_116_5).trans ?_
    refine (S_getR (ka_2 L _) rfl (f_2_0 L _) at_116_6).trans ?_
    refine (S_iconst at_116_9).trans ?_
    refine (H_put0 (ka_3 L _) rfl at_116_10).trans ?_
    refine (S_iconst at_116_13).trans ?_
    exact S_ireti rfl at_116_14
  · refine (S_aload_n rfl at_116_15).trans ?_
    refine (S_iload_n rfl at_116_16).trans ?_
    refine (S_invv (b := 1) (by decide) kn_135 rfl (kd_2 L _) (Nat.le_of_ble_eq_true rfl) at_116_17).trans ?_
    rfl
theorem T116_20 {C : Nat → List j_V → j_H → Option j_Z} {L : j_B} {m : j_M0} {x1 : Int} {x2 : Int} {s0 : Int} : j_fin C 116 20 [some (jR 2), some (jI x1), some (jI x2)] [jI s0] (hH L m) = if s0 = 0 then some (some (jI (-1)), hH L m) else if x2 < 0 then some (some (jI (-2)), hH L m) else if 999 < x2 then some (some (jI (-2)), hH L m) else if (m 3 5) < 5 then (C 34 [jR 3, jI x1, jI x2] (hH L m)).bind fun z => j_fin C 116 62 [some (jR 2), some (jI x1), some (jI x2)] (z.1.toList ++ []) z.2 else some (some (jI (-4)), hH L m) := by
  refine (S_if_ne at_116_20).trans ?_
  refine ite_congr rfl (fun _ => ?_) (fun _ => ?_)
  · refine (S_iconst at_116_23).trans ?_
    exact S_ireti rfl at_116_24
  · refine (S_iload_n rfl at_116_25).trans ?_
    refine (S_if_lt at_116_26).trans ?_
    refine ite_congr rfl (fun _ => ?_) (fun _ => ?_)
    · refine (S_bipush at_116_36).trans ?_
      exact S_ireti rfl at_116_38
    · refine (S_iload_n rfl at_116_29).trans ?_
      refine (S_sipush at_116_30).trans ?_
      refine (S_icmp_le at_116_33).trans ?_
      refine ite_congr rfl (fun _ => ?_) (fun _ => ?_)
      · refine (S_bipush at_116_36).trans ?_
        exact S_ireti rfl at_116_38
      · refine (S_aload_n rfl at_116_39).trans ?_
        refine (S_getR (ka_2 L _) rfl (f_2_0 L _) at_116_40).trans ?_
        refine (H_get0 (ka_3 L _) rfl at_116_43).trans ?_
        refine (S_iconst at_116_46).trans ?_
        refine (S_icmp_lt at_116_47).trans ?_
        refine ite_congr rfl (fun _ => ?_) (fun _ => ?_)
        · refine (S_aload_n rfl at_116_53).trans ?_
          refine (S_getR (ka_2 L _) rfl (f_2_0 L _) at_116_54).trans ?_
          refine (S_iload_n rfl at_116_57).trans ?_
          refine (S_iload_n rfl at_116_58).trans ?_
          refine (S_invv (b := 2) (by decide) kn_34 rfl (kd_3 L _) (Nat.le_of_ble_eq_true rfl) at_116_59).trans ?_
          rfl
        · refine (S_bipush at_116_50).trans ?_
          exact S_ireti rfl at_116_52
theorem T116_62 {C : Nat → List j_V → j_H → Option j_Z} {L : j_B} {m : j_M0} {x1 : Int} {x2 : Int} : j_fin C 116 62 [some (jR 2), some (jI x1), some (jI x2)] [] (hH L m) = some (some (jI (m 3 5)), hH L m) := by
  refine (S_aload_n rfl at_116_62).trans ?_
  refine (S_getR (ka_2 L _) rfl (f_2_0 L _) at_116_63).trans ?_
  refine (H_get0 (ka_3 L _) rfl at_116_66).trans ?_
  exact S_ireti rfl at_116_69
theorem T117_0 {C : Nat → List j_V → j_H → Option j_Z} {L : j_B} {m : j_M0} {x1 : Int} {x2 : Int} : j_fin C 117 0 [some (jR 2), some (jI x1), some (jI x2), none, none, none] [] (hH L m) = (C 136 [jR 2, jI x1] (hH L m)).bind fun z => j_fin C 117 5 [some (jR 2), some (jI x1), some (jI x2), none, none, none] (z.1.toList ++ []) z.2 := by
  refine (S_aload_n rfl at_117_0).trans ?_
  refine (S_iload_n rfl at_117_1).trans ?_
  refine (S_invv (b := 1) (by decide) kn_136 rfl (kd_2 L _) (Nat.le_of_ble_eq_true rfl) at_117_2).trans ?_
  rfl
theorem T117_5 {C : Nat → List j_V → j_H → Option j_Z} {L : j_B} {m : j_M0} {x1 : Int} {x2 : Int} {s0 : Int} : j_fin C 117 5 [some (jR 2), some (jI x1), some (jI x2), none, none, none] [jI s0] (hH L m) = if s0 = 0 then some (some (jI (-1)), hH L m) else if x2 < 0 then some (some (jI (-1)), hH L m) else if 1 < x2 then some (some (jI (-1)), hH L m) else (C 8 [jR 35, jR 4] (hH L m)).bind fun z => j_fin C 117 39 [some (jR 2), some (jI x1), some (jI x2), some (jI 0), some (jI (-5)), none] (z.1.toList ++ []) z.2 := by
  refine (S_if_eq at_117_5).trans ?_
  refine ite_congr rfl (fun _ => ?_) (fun _ => ?_)
  · refine (S_iconst at_117_17).trans ?_
    exact S_ireti rfl at_117_18
  · refine (S_iload_n rfl at_117_8).trans ?_
    refine (S_if_lt at_117_9).trans ?_
    refine ite_congr rfl (fun _ => ?_) (fun _ => ?_)
    · refine (S_iconst at_117_17).trans ?_
      exact S_ireti rfl at_117_18
    · refine (S_iload_n rfl at_117_12).trans ?_
      refine (S_iconst at_117_13).trans ?_
      refine (S_icmp_le at_117_14).trans ?_
      refine ite_congr rfl (fun _ => ?_) (fun _ => ?_)
      · refine (S_iconst at_117_17).trans ?_
        exact S_ireti rfl at_117_18
      · refine (S_iconst at_117_19).trans ?_
        refine (S_istore_n (l1 := [some (jR 2), some (jI x1), some (jI x2), some (jI 0), none, none]) rfl at_117_20).trans ?_
        refine (S_bipush at_117_21).trans ?_
        refine (S_istore (l1 := [some (jR 2), some (jI x1), some (jI x2), some (jI 0), some (jI (-5)), none]) rfl at_117_23).trans ?_
        refine (S_aload_n rfl at_117_25).trans ?_
        refine (S_getR (ka_2 L _) rfl (f_2_2 L _) at_117_26).trans ?_
        refine (S_aload_n rfl at_117_29).trans ?_
        refine (S_getR (ka_2 L _) rfl (f_2_0 L _) at_117_30).trans ?_
        refine (S_getR (ka_3 L _) rfl (f_3_0 L _) at_117_33).trans ?_
        refine (S_invv (b := 1) (by decide) kn_8 rfl (kd_35 L _) (Nat.le_of_ble_eq_true rfl) at_117_36).trans ?_
        rfl
theorem T117_39 {C : Nat → List j_V → j_H → Option j_Z} {L : j_B} {m : j_M0} {x1 : Int} {x2 : Int} {x3 : Int} {x4 : Int} : j_fin C 117 39 [some (jR 2), some (jI x1), some (jI x2), some (jI x3), some (jI x4), none] [] (hH L m) = j_fin C 117 42 [some (jR 2), some (jI x1), some (jI x2), some (jI x3), some (jI x4), some (jI 0)] [] (hH L m) := by
  refine (S_iconst at_117_39).trans ?_
  refine (S_istore (l1 := [some (jR 2), some (jI x1), some (jI x2), some (jI x3), some (jI x4), some (jI 0)]) rfl at_117_40).trans ?_
  rfl
theorem T117_42 {C : Nat → List j_V → j_H → Option j_Z} {L : j_B} {m : j_M0} {x1 : Int} {x2 : Int} {x3 : Int} {x4 : Int} {x5 : Int} : j_fin C 117 42 [some (jR 2), some (jI x1), some (jI x2), some (jI x3), some (jI x4), some (jI x5)] [] (hH L m) = if 45 < x5 then if x2 = 0 then some (some (jI x3), hH L m) else some (some (jI x4), hH L m) else if 0 ≤ x1 ∧ x1 < 8 then (C 145 [jR 2] (hH L (j_up m 38 x1.toNat x5))).bind fun z => j_fin C 117 64 [some (jR 2), some (jI x1), some (jI x2), some (jI x3), some (jI x4), some (jI x5)] (z.1.toList ++ []) z.2 else none := by
  refine (S_iload rfl at_117_42).trans ?_
  refine (S_bipush at_117_44).trans ?_
  refine (S_icmp_gt at_117_46).trans ?_
  refine ite_congr rfl (fun _ => ?_) (fun _ => ?_)
  · refine (S_iload_n rfl at_117_87).trans ?_
    refine (S_if_ne at_117_88).trans ?_
    refine ite_congr rfl (fun _ => ?_) (fun _ => ?_)
    · refine (S_iload_n rfl at_117_91).trans ?_
      refine (S_goto at_117_92).trans ?_
      exact S_ireti rfl at_117_97
    · refine (S_iload rfl at_117_95).trans ?_
      exact S_ireti rfl at_117_97
  · refine (S_aload_n rfl at_117_49).trans ?_
    refine (S_getR (ka_2 L _) rfl (f_2_2 L _) at_117_50).trans ?_
    refine (S_getR (ka_35 L _) rfl (f_35_4 L _) at_117_53).trans ?_
    refine (S_iload_n rfl at_117_56).trans ?_
    refine (S_iload rfl at_117_57).trans ?_
    refine (H_iastore (by omega) (ka_38 L _) at_117_59).trans ?_
    refine ite_congr rfl (fun hi => ?_) (fun _ => rfl)
    refine (S_aload_n rfl at_117_60).trans ?_
    refine (S_invv (b := 0) (by decide) kn_145 rfl (kd_2 L _) (Nat.le_of_ble_eq_true rfl) at_117_61).trans ?_
    rfl
theorem T117_64 {C : Nat → List j_V → j_H → Option j_Z} {L : j_B} {m : j_M0} {x1 : Int} {x2 : Int} {x3 : Int} {x4 : Int} {x5 : Int} {s0 : Int} : j_fin C 117 64 [some (jR 2), some (jI x1), some (jI x2), some (jI x3), some (jI x4), some (jI x5)] [jI s0] (hH L m) = if s0 = 0 then j_fin C 117 42 [some (jR 2), some (jI x1), some (jI x2), some (jI x3), some (jI x4), some (jI (w32 (x5 + 5)))] [] (hH L m) else if x3 = 0 then j_fin C 117 42 [some (jR 2), some (jI x1), some (jI x2), some (jI (w32 (x3 + 1))), some (jI x5), some (jI (w32 (x5 + 5)))] [] (hH L m) else j_fin C 117 42 [some (jR 2), some (jI x1), some (jI x2), some (jI (w32 (x3 + 1))), some (jI x4), some (jI (w32 (x5 + 5)))] [] (hH L m) := by
  refine (S_if_ne at_117_64).trans ?_
  refine ite_congr rfl (fun _ => ?_) (fun _ => ?_)
  · refine (S_goto at_117_67).trans ?_
    refine (S_iinc (l1 := [some (jR 2), some (jI x1), some (jI x2), some (jI x3), some (jI x4), some (jI (w32 (x5 + 5)))]) rfl rfl at_117_81).trans ?_
    refine (S_goto at_117_84).trans ?_
    rfl
  · refine (S_iload_n rfl at_117_70).trans ?_
    refine (S_if_ne at_117_71).trans ?_
    refine ite_congr rfl (fun _ => ?_) (fun _ => ?_)
    · refine (S_iload rfl at_117_74).trans ?_
      refine (S_istore (l1 := [some (jR 2), some (jI x1), some (jI x2), some (jI x3), some (jI x5), some (jI x5)]) rfl at_117_76).trans ?_
      refine (S_iinc (l1 := [some (jR 2), some (jI x1), some (jI x2), some (jI (w32 (x3 + 1))), some (jI x5), some (jI x5)]) rfl rfl at_117_78).trans ?_
      refine (S_iinc (l1 := [some (jR 2), some (jI x1), some (jI x2), some (jI (w32 (x3 + 1))), some (jI x5), some (jI (w32 (x5 + 5)))]) rfl rfl at_117_81).trans ?_
      refine (S_goto at_117_84).trans ?_
      rfl
    · refine (S_iinc (l1 := [some (jR 2), some (jI x1), some (jI x2), some (jI (w32 (x3 + 1))), some (jI x4), some (jI x5)]) rfl rfl at_117_78).trans ?_
      refine (S_iinc (l1 := [some (jR 2), some (jI x1), some (jI x2), some (jI (w32 (x3 + 1))), some (jI x4), some (jI (w32 (x5 + 5)))]) rfl rfl at_117_81).trans ?_
      refine (S_goto at_117_84).trans ?_
      rfl
theorem T119_0 {C : Nat → List j_V → j_H → Option j_Z} {L : j_B} {m : j_M0} {x1 : Int} : j_fin C 119 0 [some (jR 2), some (jI x1), none, none] [] (hH L m) = (C 141 [jI x1] (hH L m)).bind fun z => j_fin C 119 4 [some (jR 2), some (jI x1), none, none] (z.1.toList ++ []) z.2 := by
  refine (S_iload_n rfl at_119_0).trans ?_
  refine (S_invs (by decide) (Nat.le_of_ble_eq_true rfl) (Nat.le_of_ble_eq_true rfl) at_119_1).trans ?_
  rfl
theorem T119_4 {C : Nat → List j_V → j_H → Option j_Z} {L : j_B} {m : j_M0} {x1 : Int} {s0 : Int} : j_fin C 119 4 [some (jR 2), some (jI x1), none, none] [jI s0] (hH L m) = if s0 = 0 then some (some (jL (-9223372036854775808)), hH L m) else j_fin C 119 15 [some (jR 2), some (jI x1), some (jI 0), some (jI 0)] [] (hH L m) := by
  refine (S_if_ne at_119_4).trans ?_
  refine ite_congr rfl (fun _ => ?_) (fun _ => ?_)
  · refine (S_ldc2_w at_119_7).trans ?_
    exact S_lret rfl at_119_10
  · refine (S_iconst at_119_11).trans ?_
    refine (S_istore_n (l1 := [some (jR 2), some (jI x1), some (jI 0), none]) rfl at_119_12).trans ?_
    refine (S_iconst at_119_13).trans ?_
    refine (S_istore_n (l1 := [some (jR 2), some (jI x1), some (jI 0), some (jI 0)]) rfl at_119_14).trans ?_
    rfl
theorem T119_15 {C : Nat → List j_V → j_H → Option j_Z} {L : j_B} {m : j_M0} {x1 : Int} {x2 : Int} {x3 : Int} : j_fin C 119 15 [some (jR 2), some (jI x1), some (jI x2), some (jI x3)] [] (hH L m) = if x3 < (m 4 0) then if 0 ≤ x3 ∧ x3 < 5 then j_fin C 119 15 [some (jR 2), some (jI x1), some (jI (w32 (x2 + (m 5 x3.toNat)))), some (jI (w32 (x3 + 1)))] [] (hH L m) else none else (C 146 [jL x2, jL (m 4 0), jI x1] (hH L m)).bind fun z => j_fin C 119 67 [some (jR 2), some (jI x1), some (jI x2), some (jI x3)] (z.1.toList ++ []) z.2 := by
  refine (S_iload_n rfl at_119_15).trans ?_
  refine (S_aload_n rfl at_119_16).trans ?_
  refine (S_getR (ka_2 L _) rfl (f_2_0 L _) at_119_17).trans ?_
  refine (S_getR (ka_3 L _) rfl (f_3_0 L _) at_119_20).trans ?_
  refine (H_get0 (ka_4 L _) rfl at_119_23).trans ?_
  refine (S_icmp_ge at_119_26).trans ?_
  refine ite_congr rfl (fun _ => ?_) (fun _ => ?_)
  · refine (S_iload_n rfl at_119_29).trans ?_
    refine (S_aload_n rfl at_119_30).trans ?_
    refine (S_getR (ka_2 L _) rfl (f_2_0 L _) at_119_31).trans ?_
    refine (S_getR (ka_3 L _) rfl (f_3_0 L _) at_119_34).trans ?_
    refine (S_getR (ka_4 L _) rfl (f_4_2 L _) at_119_37).trans ?_
    refine (S_iload_n rfl at_119_40).trans ?_
    refine (H_iaload (ka_5 L _) at_119_41).trans ?_
    refine ite_congr rfl (fun hi => ?_) (fun _ => rfl)
    refine (S_iadd at_119_42).trans ?_
    refine (S_istore_n (l1 := [some (jR 2), some (jI x1), some (jI (w32 (x2 + (m 5 x3.toNat)))), some (jI x3)]) rfl at_119_43).trans ?_
    refine (S_iinc (l1 := [some (jR 2), some (jI x1), some (jI (w32 (x2 + (m 5 x3.toNat)))), some (jI (w32 (x3 + 1)))]) rfl rfl at_119_44).trans ?_
    refine (S_goto at_119_47).trans ?_
    rfl
  · refine (S_iload_n rfl at_119_50).trans ?_
    refine (S_i2l at_119_51).trans ?_
    refine (S_aload_n rfl at_119_52).trans ?_
    refine (S_getR (ka_2 L _) rfl (f_2_0 L _) at_119_53).trans ?_
    refine (S_getR (ka_3 L _) rfl (f_3_0 L _) at_119_56).trans ?_
    refine (H_get0 (ka_4 L _) rfl at_119_59).trans ?_
    refine (S_i2l at_119_62).trans ?_
    refine (S_iload_n rfl at_119_63).trans ?_
    refine (S_invs (by decide) (Nat.le_of_ble_eq_true rfl) (Nat.le_of_ble_eq_true rfl) at_119_64).trans ?_
    rfl
theorem T119_67 {C : Nat → List j_V → j_H → Option j_Z} {L : j_B} {m : j_M0} {x1 : Int} {x2 : Int} {x3 : Int} {t0 : Int} : j_fin C 119 67 [some (jR 2), some (jI x1), some (jI x2), some (jI x3)] [jL t0] (hH L m) = some (some (jL t0), hH L m) := by
  exact S_lret rfl at_119_67
theorem T120_0 {C : Nat → List j_V → j_H → Option j_Z} {L : j_B} {m : j_M0} {x1 : Int} {x2 : Int} : j_fin C 120 0 [some (jR 2), some (jI x1), some (jI x2)] [] (hH L m) = if x2 < 1 then some (some (jI (-2)), hH L m) else if 4 < x2 then some (some (jI (-2)), hH L m) else (C 8 [jR 35, jR 4] (hH L m)).bind fun z => j_fin C 120 27 [some (jR 2), some (jI x1), some (jI x2)] (z.1.toList ++ []) z.2 := by
  refine (S_iload_n rfl at_120_0).trans ?_
  refine (S_iconst at_120_1).trans ?_
  refine (S_icmp_lt at_120_2).trans ?_
  refine ite_congr rfl (fun _ => ?_) (fun _ => ?_)
  · refine (S_bipush at_120_10).trans ?_
    exact S_ireti rfl at_120_12
  · refine (S_iload_n rfl at_120_5).trans ?_
    refine (S_iconst at_120_6).trans ?_
    refine (S_icmp_le at_120_7).trans ?_
    refine ite_congr rfl (fun _ => ?_) (fun _ => ?_)
    · refine (S_bipush at_120_10).trans ?_
      exact S_ireti rfl at_120_12
    · refine (S_aload_n rfl at_120_13).trans ?_
      refine (S_getR (ka_2 L _) rfl (f_2_2 L _) at_120_14).trans ?_
      refine (S_aload_n rfl at_120_17).trans ?_
      refine (S_getR (ka_2 L _) rfl (f_2_0 L _) at_120_18).trans ?_
      refine (S_getR (ka_3 L _) rfl (f_3_0 L _) at_120_21).trans ?_
      refine (S_invv (b := 1) (by decide) kn_8 rfl (kd_35 L _) (Nat.le_of_ble_eq_true rfl) at_120_24).trans ?_
      rfl
theorem T120_27 {C : Nat → List j_V → j_H → Option j_Z} {L : j_B} {m : j_M0} {x1 : Int} {x2 : Int} : j_fin C 120 27 [some (jR 2), some (jI x1), some (jI x2)] [] (hH L m) = (C 18 [jR 35, jI x1, jI x2] (hH L m)).bind fun z => j_fin C 120 36 [some (jR 2), some (jI x1), some (jI x2)] (z.1.toList ++ []) z.2 := by
  refine (S_aload_n rfl at_120_27).trans ?_
  refine (S_getR (ka_2 L _) rfl (f_2_2 L _) at_120_28).trans ?_
  refine (S_iload_n rfl at_120_31).trans ?_
  refine (S_iload_n rfl at_120_32).trans ?_
  refine (S_invv (b := 2) (by decide) kn_18 rfl (kd_35 L _) (Nat.le_of_ble_eq_true rfl) at_120_33).trans ?_
  rfl
theorem T120_36 {C : Nat → List j_V → j_H → Option j_Z} {L : j_B} {m : j_M0} {x1 : Int} {x2 : Int} : j_fin C 120 36 [some (jR 2), some (jI x1), some (jI x2)] [] (hH L m) = (C 30 [jR 54, jR 35] (hH L m)).bind fun z => j_fin C 120 47 [some (jR 2), some (jI x1), some (jI x2)] (z.1.toList ++ []) z.2 := by
  refine (S_aload_n rfl at_120_36).trans ?_
  refine (S_getR (ka_2 L _) rfl (f_2_4 L _) at_120_37).trans ?_
  refine (S_aload_n rfl at_120_40).trans ?_
  refine (S_getR (ka_2 L _) rfl (f_2_2 L _) at_120_41).trans ?_
  refine (S_invv (b := 1) (by decide) kn_30 rfl (kd_54 L _) (Nat.le_of_ble_eq_true rfl) at_120_44).trans ?_
  rfl
theorem T120_47 {C : Nat → List j_V → j_H → Option j_Z} {L : j_B} {m : j_M0} {x1 : Int} {x2 : Int} {s0 : Int} : j_fin C 120 47 [some (jR 2), some (jI x1), some (jI x2)] [jI s0] (hH L m) = some (some (jI s0), hH L m) := by
  exact S_ireti rfl at_120_47
theorem T121_0 {C : Nat → List j_V → j_H → Option j_Z} {L : j_B} {m : j_M0} {x1 : Int} {x2 : Int} : j_fin C 121 0 [some (jR 2), some (jI x1), some (jI x2), none, none] [] (hH L m) = (C 138 [jR 2, jI x1] (hH L m)).bind fun z => j_fin C 121 5 [some (jR 2), some (jI x1), some (jI x2), none, none] (z.1.toList ++ []) z.2 := by
  refine (S_aload_n rfl at_121_0).trans ?_
  refine (S_iload_n rfl at_121_1).trans ?_
  refine (S_invv (b := 1) (by decide) kn_138 rfl (kd_2 L _) (Nat.le_of_ble_eq_true rfl) at_121_2).trans ?_
  rfl
theorem T121_5 {C : Nat → List j_V → j_H → Option j_Z} {L : j_B} {m : j_M0} {x1 : Int} {x2 : Int} {s0 : Int} : j_fin C 121 5 [some (jR 2), some (jI x1), some (jI x2), none, none] [jI s0] (hH L m) = if s0 = 0 then some (some (jI (-2)), hH L m) else if x2 < 0 then some (some (jI (-2)), hH L m) else if 999 < x2 then some (some (jI (-2)), hH L m) else (C 23 [jR 9, jI x1] (hH L m)).bind fun z => j_fin C 121 33 [some (jR 2), some (jI x1), some (jI x2), none, none] (z.1.toList ++ []) z.2 := by
  refine (S_if_eq at_121_5).trans ?_
  refine ite_congr rfl (fun _ => ?_) (fun _ => ?_)
  · refine (S_bipush at_121_19).trans ?_
    exact S_ireti rfl at_121_21
  · refine (S_iload_n rfl at_121_8).trans ?_
    refine (S_if_lt at_121_9).trans ?_
    refine ite_congr rfl (fun _ => ?_) (fun _ => ?_)
    · refine (S_bipush at_121_19).trans ?_
      exact S_ireti rfl at_121_21
    · refine (S_iload_n rfl at_121_12).trans ?_
      refine (S_sipush at_121_13).trans ?_
      refine (S_icmp_le at_121_16).trans ?_
      refine ite_congr rfl (fun _ => ?_) (fun _ => ?_)
      · refine (S_bipush at_121_19).trans ?_
        exact S_ireti rfl at_121_21
      · refine (S_aload_n rfl at_121_22).trans ?_
        refine (S_getR (ka_2 L _) rfl (f_2_0 L _) at_121_23).trans ?_
        refine (S_getR (ka_3 L _) rfl (f_3_1 L _) at_121_26).trans ?_
        refine (S_iload_n rfl at_121_29).trans ?_
        refine (S_invv (b := 1) (by decide) kn_23 rfl (kd_9 L _) (Nat.le_of_ble_eq_true rfl) at_121_30).trans ?_
        rfl
theorem T121_33 {C : Nat → List j_V → j_H → Option j_Z} {L : j_B} {m : j_M0} {x1 : Int} {x2 : Int} {s0 : Int} : j_fin C 121 33 [some (jR 2), some (jI x1), some (jI x2), none, none] [jI s0] (hH L m) = if s0 < 0 then if (m 9 0) < 20 then (C 14 [jR 4, jI x1] (hH L m)).bind fun z => j_fin C 121 105 [some (jR 2), some (jI x1), some (jI x2), some (jI s0), none] (z.1.toList ++ [jI x1, jR 9]) z.2 else some (some (jI (-4)), hH L m) else if 0 ≤ s0 ∧ s0 < 20 then if 0 ≤ s0 ∧ s0 < 20 then some (some (jI (m 12 s0.toNat)), hH L (j_up m 12 s0.toNat x2)) else none else none := by
  refine (S_istore_n (l1 := [some (jR 2), some (jI x1), some (jI x2), some (jI s0), none]) rfl at_121_33).trans ?_
  refine (S_iload_n rfl at_121_34).trans ?_
  refine (S_if_lt at_121_35).trans ?_
  refine ite_congr rfl (fun _ => ?_) (fun _ => ?_)
  · refine (S_aload_n rfl at_121_68).trans ?_
    refine (S_getR (ka_2 L _) rfl (f_2_0 L _) at_121_69).trans ?_
    refine (S_getR (ka_3 L _) rfl (f_3_1 L _) at_121_72).trans ?_
    refine (H_get0 (ka_9 L _) rfl at_121_75).trans ?_
    refine (S_bipush at_121_78).trans ?_
    refine (S_icmp_lt at_121_80).trans ?_
    refine ite_congr rfl (fun _ => ?_) (fun _ => ?_)
    · refine (S_aload_n rfl at_121_86).trans ?_
      refine (S_getR (ka_2 L _) rfl (f_2_0 L _) at_121_87).trans ?_
      refine (S_getR (ka_3 L _) rfl (f_3_1 L _) at_121_90).trans ?_
      refine (S_iload_n rfl at_121_93).trans ?_
      refine (S_aload_n rfl at_121_94).trans ?_
      refine (S_getR (ka_2 L _) rfl (f_2_0 L _) at_121_95).trans ?_
      refine (S_getR (ka_3 L _) rfl (f_3_0 L _) at_121_98).trans ?_
      refine (S_iload_n rfl at_121_101).trans ?_
      refine (S_invv (b := 1) (by decide) kn_14 rfl (kd_4 L _) (Nat.le_of_ble_eq_true rfl) at_121_102).trans ?_
      rfl
    · refine (S_bipush at_121_83).trans ?_
      exact S_ireti rfl at_121_85
  · refine (S_aload_n rfl at_121_38).trans ?_
    refine (S_getR (ka_2 L _) rfl (f_2_0 L _) at_121_39).trans ?_
    refine (S_getR (ka_3 L _) rfl (f_3_1 L _) at_121_42).trans ?_
    refine (S_getR (ka_9 L _) rfl (f_9_3 L _) at_121_45).trans ?_
    refine (S_iload_n rfl at_121_48).trans ?_
    refine (H_iaload (ka_12 L _) at_121_49).trans ?_
    refine ite_congr rfl (fun hi => ?_) (fun _ => rfl)
    refine (S_istore (l1 := [some (jR 2), some (jI x1), some (jI x2), some (jI s0), some (jI (m 12 s0.toNat))]) rfl at_121_50).trans ?_
    refine (S_aload_n rfl at_121_52).trans ?_
    refine (S_getR (ka_2 L _) rfl (f_2_0 L _) at_121_53).trans ?_
    refine (S_getR (ka_3 L _) rfl (f_3_1 L _) at_121_56).trans ?_
    refine (S_getR (ka_9 L _) rfl (f_9_3 L _) at_121_59).trans ?_
    refine (S_iload_n rfl at_121_62).trans ?_
    refine (S_iload_n rfl at_121_63).trans ?_
    refine (H_iastore (by omega) (ka_12 L _) at_121_64).trans ?_
    refine ite_congr rfl (fun hi => ?_) (fun _ => rfl)
    refine (S_iload rfl at_121_65).trans ?_
    exact S_ireti rfl at_121_67
theorem T121_105 {C : Nat → List j_V → j_H → Option j_Z} {L : j_B} {m : j_M0} {x1 : Int} {x2 : Int} {x3 : Int} {s1 : Int} {s2 : Int} : j_fin C 121 105 [some (jR 2), some (jI x1), some (jI x2), some (jI x3), none] [jI s2, jI s1, jR 9] (hH L m) = (C 25 [jR 9, jI s1, jI s2, jI x2] (hH L m)).bind fun z => j_fin C 121 109 [some (jR 2), some (jI x1), some (jI x2), some (jI x3), none] (z.1.toList ++ []) z.2 := by
  refine (S_iload_n rfl at_121_105).trans ?_
  refine (S_invv (b := 3) (by decide) kn_25 rfl (kd_9 L _) (Nat.le_of_ble_eq_true rfl) at_121_106).trans ?_
  rfl
theorem T121_109 {C : Nat → List j_V → j_H → Option j_Z} {L : j_B} {m : j_M0} {x1 : Int} {x2 : Int} {x3 : Int} : j_fin C 121 109 [some (jR 2), some (jI x1), some (jI x2), some (jI x3), none] [] (hH L m) = some (some (jI (-5)), hH L m) := by
  refine (S_bipush at_121_109).trans ?_
  exact S_ireti rfl at_121_111
theorem T122_0 {C : Nat → List j_V → j_H → Option j_Z} {L : j_B} {m : j_M0} {x1 : Int} {x2 : Int} : j_fin C 122 0 [some (jR 2), some (jI x1), some (jI x2)] [] (hH L m) = if x2 < 0 then some (some (jI (-1)), hH L m) else if 2 < x2 then some (some (jI (-1)), hH L m) else if x1 < 0 then some (some (jI (-2)), hH L m) else if x1 < (m 9 0) then if x2 = 0 then if 0 ≤ x1 ∧ x1 < 20 then some (some (jI (m 10 x1.toNat)), hH L m) else none else if x2 = 1 then if 0 ≤ x1 ∧ x1 < 20 then some (some (jI (m 12 x1.toNat)), hH L m) else none else if 0 ≤ x1 ∧ x1 < 20 then some (some (jI (m 11 x1.toNat)), hH L m) else none else some (some (jI (-2)), hH L m) := by
  refine (S_iload_n rfl at_122_0).trans ?_
  refine (S_if_lt at_122_1).trans ?_
  refine ite_congr rfl (fun _ => ?_) (fun _ => ?_)
  · refine (S_iconst at_122_9).trans ?_
    exact S_ireti rfl at_122_10
  · refine (S_iload_n rfl at_122_4).trans ?_
    refine (S_iconst at_122_5).trans ?_
    refine (S_icmp_le at_122_6).trans ?_
    refine ite_congr rfl (fun _ => ?_) (fun _ => ?_)
    · refine (S_iconst at_122_9).trans ?_
      exact S_ireti rfl at_122_10
    · refine (S_iload_n rfl at_122_11).trans ?_
      refine (S_if_lt at_122_12).trans ?_
      refine ite_congr rfl (fun _ => ?_) (fun _ => ?_)
      · refine (S_bipush at_122_29).trans ?_
        exact S_ireti rfl at_122_31
      · refine (S_iload_n rfl at_122_15).trans ?_
        refine (S_aload_n rfl at_122_16).trans ?_
        refine (S_getR (ka_2 L _) rfl (f_2_0 L _) at_122_17).trans ?_
        refine (S_getR (ka_3 L _) rfl (f_3_1 L _) at_122_20).trans ?_
        refine (H_get0 (ka_9 L _) rfl at_122_23).trans ?_
        refine (S_icmp_lt at_122_26).trans ?_
        refine ite_congr rfl (fun _ => ?_) (fun _ => ?_)
        · refine (S_iload_n rfl at_122_32).trans ?_
          refine (S_if_ne at_122_33).trans ?_
          refine ite_congr rfl (fun _ => ?_) (fun _ => ?_)
          · refine (S_aload_n rfl at_122_36).trans ?_
            refine (S_getR (ka_2 L _) rfl (f_2_0 L _) at_122_37).trans ?_
            refine (S_getR (ka_3 L _) rfl (f_3_1 L _) at_122_40).trans ?_
            refine (S_getR (ka_9 L _) rfl (f_9_1 L _) at_122_43).trans ?_
            refine (S_iload_n rfl at_122_46).trans ?_
            refine (H_iaload (ka_10 L _) at_122_47).trans ?_
            refine ite_congr rfl (fun hi => ?_) (fun _ => rfl)
            exact S_ireti rfl at_122_48
          · refine (S_iload_n rfl at_122_49).trans ?_
            refine (S_iconst at_122_50).trans ?_
            refine (S_icmp_ne at_122_51).trans ?_
            refine ite_congr rfl (fun _ => ?_) (fun _ => ?_)
            · refine (S_aload_n rfl at_122_54).trans ?_
              refine (S_getR (ka_2 L _) rfl (f_2_0 L _) at_122_55).trans ?_
              refine (S_getR (ka_3 L _) rfl (f_3_1 L _) at_122_58).trans ?_
              refine (S_getR (ka_9 L _) rfl (f_9_3 L _) at_122_61).trans ?_
              refine (S_iload_n rfl at_122_64).trans ?_
              refine (H_iaload (ka_12 L _) at_122_65).trans ?_
              refine ite_congr rfl (fun hi => ?_) (fun _ => rfl)
              refine (S_goto at_122_66).trans ?_
              exact S_ireti rfl at_122_81
            · refine (S_aload_n rfl at_122_69).trans ?_
              refine (S_getR (ka_2 L _) rfl (f_2_0 L _) at_122_70).trans ?_
              refine (S_getR (ka_3 L _) rfl (f_3_1 L _) at_122_73).trans ?_
              refine (S_getR (ka_9 L _) rfl (f_9_2 L _) at_122_76).trans ?_
              refine (S_iload_n rfl at_122_79).trans ?_
              refine (H_iaload (ka_11 L _) at_122_80).trans ?_
              refine ite_congr rfl (fun hi => ?_) (fun _ => rfl)
              exact S_ireti rfl at_122_81
        · refine (S_bipush at_122_29).trans ?_
          exact S_ireti rfl at_122_31
theorem T123_0 {C : Nat → List j_V → j_H → Option j_Z} {L : j_B} {m : j_M0} {x1 : Int} : j_fin C 123 0 [some (jR 2), some (jI x1), none, none] [] (hH L m) = j_fin C 123 5 [some (jR 2), some (jI x1), some (jI (-5)), some (jI 0)] [] (hH L m) := by
  refine (S_bipush at_123_0).trans ?_
  refine (S_istore_n (l1 := [some (jR 2), some (jI x1), some (jI (-5)), none]) rfl at_123_2).trans ?_
  refine (S_iconst at_123_3).trans ?_
  refine (S_istore_n (l1 := [some (jR 2), some (jI x1), some (jI (-5)), some (jI 0)]) rfl at_123_4).trans ?_
  rfl
theorem T123_5 {C : Nat → List j_V → j_H → Option j_Z} {L : j_B} {m : j_M0} {x1 : Int} {x2 : Int} {x3 : Int} : j_fin C 123 5 [some (jR 2), some (jI x1), some (jI x2), some (jI x3)] [] (hH L m) = if x3 < (m 9 0) then if 0 ≤ x3 ∧ x3 < 20 then if x1 < (m 11 x3.toNat) then j_fin C 123 5 [some (jR 2), some (jI x1), some (jI x2), some (jI (w32 (x3 + 1)))] [] (hH L m) else if 0 ≤ x3 ∧ x3 < 20 then j_fin C 123 5 [some (jR 2), some (jI x1), some (jI (m 10 x3.toNat)), some (jI (w32 (x3 + 1)))] [] (hH L m) else none else none else some (some (jI x2), hH L m) := by
  refine (S_iload_n rfl at_123_5).trans ?_
  refine (S_aload_n rfl at_123_6).trans ?_
  refine (S_getR (ka_2 L _) rfl (f_2_0 L _) at_123_7).trans ?_
  refine (S_getR (ka_3 L _) rfl (f_3_1 L _) at_123_10).trans ?_
  refine (H_get0 (ka_9 L _) rfl at_123_13).trans ?_
  refine (S_icmp_ge at_123_16).trans ?_
  refine ite_congr rfl (fun _ => ?_) (fun _ => ?_)
  · refine (S_aload_n rfl at_123_19).trans ?_
    refine (S_getR (ka_2 L _) rfl (f_2_0 L _) at_123_20).trans ?_
    refine (S_getR (ka_3 L _) rfl (f_3_1 L _) at_123_23).trans ?_
    refine (S_getR (ka_9 L _) rfl (f_9_2 L _) at_123_26).trans ?_
    refine (S_iload_n rfl at_123_29).trans ?_
    refine (H_iaload (ka_11 L _) at_123_30).trans ?_
    refine ite_congr rfl (fun hi => ?_) (fun _ => rfl)
    refine (S_iload_n rfl at_123_31).trans ?_
    refine (S_icmp_gt at_123_32).trans ?_
    refine ite_congr rfl (fun _ => ?_) (fun _ => ?_)
    · refine (S_iinc (l1 := [some (jR 2), some (jI x1), some (jI x2), some (jI (w32 (x3 + 1)))]) rfl rfl at_123_48).trans ?_
      refine (S_goto at_123_51).trans ?_
      rfl
    · refine (S_aload_n rfl at_123_35).trans ?_
      refine (S_getR (ka_2 L _) rfl (f_2_0 L _) at_123_36).trans ?_
      refine (S_getR (ka_3 L _) rfl (f_3_1 L _) at_123_39).trans ?_
      refine (S_getR (ka_9 L _) rfl (f_9_1 L _) at_123_42).trans ?_
      refine (S_iload_n rfl at_123_45).trans ?_
      refine (H_iaload (ka_10 L _) at_123_46).trans ?_
      refine ite_congr rfl (fun hi => ?_) (fun _ => rfl)
      refine (S_istore_n (l1 := [some (jR 2), some (jI x1), some (jI (m 10 x3.toNat)), some (jI x3)]) rfl at_123_47).trans ?_
      refine (S_iinc (l1 := [some (jR 2), some (jI x1), some (jI (m 10 x3.toNat)), some (jI (w32 (x3 + 1)))]) rfl rfl at_123_48).trans ?_
      refine (S_goto at_123_51).trans ?_
      rfl
  · refine (S_iload_n rfl at_123_54).trans ?_
    exact S_ireti rfl at_123_55
theorem T124_0 {C : Nat → List j_V → j_H → Option j_Z} {L : j_B} {m : j_M0} : j_fin C 124 0 [some (jR 2), none, none] [] (hH L m) = j_fin C 124 4 [some (jR 2), some (jI (-1)), some (jI 0)] [] (hH L m) := by
  refine (S_iconst at_124_0).trans ?_
  refine (S_istore_n (l1 := [some (jR 2), some (jI (-1)), none]) rfl at_124_1).trans ?_
  refine (S_iconst at_124_2).trans ?_
  refine (S_istore_n (l1 := [some (jR 2), some (jI (-1)), some (jI 0)]) rfl at_124_3).trans ?_
  rfl
theorem T124_4 {C : Nat → List j_V → j_H → Option j_Z} {L : j_B} {m : j_M0} {x1 : Int} {x2 : Int} : j_fin C 124 4 [some (jR 2), some (jI x1), some (jI x2)] [] (hH L m) = if x2 < (m 9 0) then if x1 < 0 then j_fin C 124 4 [some (jR 2), some (jI x2), some (jI (w32 (x2 + 1)))] [] (hH L m) else (C 24 [jR 9, jI x2] (hH L m)).bind fun z => j_fin C 124 33 [some (jR 2), some (jI x1), some (jI x2)] (z.1.toList ++ []) z.2 else if x1 < 0 then some (some (jI (-5)), hH L m) else if 0 ≤ x1 ∧ x1 < 20 then some (some (jI (m 10 x1.toNat)), hH L m) else none := by
  refine (S_iload_n rfl at_124_4).trans ?_
  refine (S_aload_n rfl at_124_5).trans ?_
  refine (S_getR (ka_2 L _) rfl (f_2_0 L _) at_124_6).trans ?_
  refine (S_getR (ka_3 L _) rfl (f_3_1 L _) at_124_9).trans ?_
  refine (H_get0 (ka_9 L _) rfl at_124_12).trans ?_
  refine (S_icmp_ge at_124_15).trans ?_
  refine ite_congr rfl (fun _ => ?_) (fun _ => ?_)
  · refine (S_iload_n rfl at_124_18).trans ?_
    refine (S_if_lt at_124_19).trans ?_
    refine ite_congr rfl (fun _ => ?_) (fun _ => ?_)
    · refine (S_iload_n rfl at_124_47).trans ?_
      refine (S_istore_n (l1 := [some (jR 2), some (jI x2), some (jI x2)]) rfl at_124_48).trans ?_
      refine (S_iinc (l1 := [some (jR 2), some (jI x2), some (jI (w32 (x2 + 1)))]) rfl rfl at_124_49).trans ?_
      refine (S_goto at_124_52).trans ?_
      rfl
    · refine (S_aload_n rfl at_124_22).trans ?_
      refine (S_getR (ka_2 L _) rfl (f_2_0 L _) at_124_23).trans ?_
      refine (S_getR (ka_3 L _) rfl (f_3_1 L _) at_124_26).trans ?_
      refine (S_iload_n rfl at_124_29).trans ?_
      refine (S_invv (b := 1) (by decide) kn_24 rfl (kd_9 L _) (Nat.le_of_ble_eq_true rfl) at_124_30).trans ?_
      rfl
  · refine (S_iload_n rfl at_124_55).trans ?_
    refine (S_if_ge at_124_56).trans ?_
    refine ite_congr rfl (fun _ => ?_) (fun _ => ?_)
    · refine (S_bipush at_124_59).trans ?_
      refine (S_goto at_124_61).trans ?_
      exact S_ireti rfl at_124_76
    · refine (S_aload_n rfl at_124_64).trans ?_
      refine (S_getR (ka_2 L _) rfl (f_2_0 L _) at_124_65).trans ?_
      refine (S_getR (ka_3 L _) rfl (f_3_1 L _) at_124_68).trans ?_
      refine (S_getR (ka_9 L _) rfl (f_9_1 L _) at_124_71).trans ?_
      refine (S_iload_n rfl at_124_74).trans ?_
      refine (H_iaload (ka_10 L _) at_124_75).trans ?_
      refine ite_congr rfl (fun hi => ?_) (fun _ => rfl)
      exact S_ireti rfl at_124_76
theorem T124_33 {C : Nat → List j_V → j_H → Option j_Z} {L : j_B} {m : j_M0} {x1 : Int} {x2 : Int} {s0 : Int} : j_fin C 124 33 [some (jR 2), some (jI x1), some (jI x2)] [jI s0] (hH L m) = (C 24 [jR 9, jI x1] (hH L m)).bind fun z => j_fin C 124 44 [some (jR 2), some (jI x1), some (jI x2)] (z.1.toList ++ [jI s0]) z.2 := by
  refine (S_aload_n rfl at_124_33).trans ?_
  refine (S_getR (ka_2 L _) rfl (f_2_0 L _) at_124_34).trans ?_
  refine (S_getR (ka_3 L _) rfl (f_3_1 L _) at_124_37).trans ?_
  refine (S_iload_n rfl at_124_40).trans ?_
  refine (S_invv (b := 1) (by decide) kn_24 rfl (kd_9 L _) (Nat.le_of_ble_eq_true rfl) at_124_41).trans ?_
  rfl
theorem T124_44 {C : Nat → List j_V → j_H → Option j_Z} {L : j_B} {m : j_M0} {x1 : Int} {x2 : Int} {s0 : Int} {s1 : Int} : j_fin C 124 44 [some (jR 2), some (jI x1), some (jI x2)] [jI s1, jI s0] (hH L m) = if s1 < s0 then j_fin C 124 4 [some (jR 2), some (jI x2), some (jI (w32 (x2 + 1)))] [] (hH L m) else j_fin C 124 4 [some (jR 2), some (jI x1), some (jI (w32 (x2 + 1)))] [] (hH L m) := by
  refine (S_icmp_le at_124_44).trans ?_
  refine ite_congr rfl (fun _ => ?_) (fun _ => ?_)
  · refine (S_iload_n rfl at_124_47).trans ?_
    refine (S_istore_n (l1 := [some (jR 2), some (jI x2), some (jI x2)]) rfl at_124_48).trans ?_
    refine (S_iinc (l1 := [some (jR 2), some (jI x2), some (jI (w32 (x2 + 1)))]) rfl rfl at_124_49).trans ?_
    refine (S_goto at_124_52).trans ?_
    rfl
  · refine (S_iinc (l1 := [some (jR 2), some (jI x1), some (jI (w32 (x2 + 1)))]) rfl rfl at_124_49).trans ?_
    refine (S_goto at_124_52).trans ?_
    rfl
theorem T125_0 {C : Nat → List j_V → j_H → Option j_Z} {L : j_B} {m : j_M0} {x1 : Int} {x2 : Int} {x3 : Int} : j_fin C 125 0 [some (jR 2), some (jI x1), some (jI x2), some (jI x3)] [] (hH L m) = if x1 = (-1) then some (some (jI 0), hH L (j_up m 3 8 0)) else if x1 < 0 then some (some (jI (-1)), hH L m) else if 2 < x1 then some (some (jI (-1)), hH L m) else if x1 = 1 then (C 135 [jR 2, jI x2] (hH L m)).bind fun z => j_fin C 125 36 [some (jR 2), some (jI x1), some (jI x2), some (jI x3)] (z.1.toList ++ []) z.2 else (C 136 [jR 2, jI x2] (hH L m)).bind fun z => j_fin C 125 47 [some (jR 2), some (jI x1), some (jI x2), some (jI x3)] (z.1.toList ++ []) z.2 := by
  refine (S_iload_n rfl at_125_0).trans ?_
  refine (S_iconst at_125_1).trans ?_
  refine (S_icmp_ne at_125_2).trans ?_
  refine ite_congr rfl (fun _ => ?_) (fun _ => ?_)
  · refine (S_aload_n rfl at_125_5).trans ?_
    refine (S_getR (ka_2 L _) rfl (f_2_0 L _) at_125_6).trans ?_
    refine (S_iconst at_125_9).trans ?_
    refine (H_put0 (ka_3 L _) rfl at_125_10).trans ?_
    refine (S_iconst at_125_13).trans ?_
    exact S_ireti rfl at_125_14
  · refine (S_iload_n rfl at_125_15).trans ?_
    refine (S_if_lt at_125_16).trans ?_
    refine ite_congr rfl (fun _ => ?_) (fun _ => ?_)
    · refine (S_iconst at_125_24).trans ?_
      exact S_ireti rfl at_125_25
    · refine (S_iload_n rfl at_125_19).trans ?_
      refine (S_iconst at_125_20).trans ?_
      refine (S_icmp_le at_125_21).trans ?_
      refine ite_congr rfl (fun _ => ?_) (fun _ => ?_)
      · refine (S_iconst at_125_24).trans ?_
        exact S_ireti rfl at_125_25
      · refine (S_iload_n rfl at_125_26).trans ?_
        refine (S_iconst at_125_27).trans ?_
        refine (S_icmp_ne at_125_28).trans ?_
        refine ite_congr rfl (fun _ => ?_) (fun _ => ?_)
        · refine (S_aload_n rfl at_125_31).trans ?_
          refine (S_iload_n rfl at_125_32).trans ?_
          refine (S_invv (b := 1) (by decide) kn_135 rfl (kd_2 L _) (Nat.le_of_ble_eq_true rfl) at_125_33).trans ?_
          rfl
        · refine (S_aload_n rfl at_125_42).trans ?_
          refine (S_iload_n rfl at_125_43).trans ?_
          refine (S_invv (b := 1) (by decide) kn_136 rfl (kd_2 L _) (Nat.le_of_ble_eq_true rfl) at_125_44).trans ?_
          rfl
theorem T125_36 {C : Nat → List j_V → j_H → Option j_Z} {L : j_B} {m : j_M0} {x1 : Int} {x2 : Int} {x3 : Int} {s0 : Int} : j_fin C 125 36 [some (jR 2), some (jI x1), some (jI x2), some (jI x3)] [jI s0] (hH L m) = if s0 = 0 then some (some (jI (-1)), hH L m) else (C 143 [jI x1, jI x3] (hH L m)).bind fun z => j_fin C 125 57 [some (jR 2), some (jI x1), some (jI x2), some (jI x3)] (z.1.toList ++ []) z.2 := by
  refine (S_if_ne at_125_36).trans ?_
  refine ite_congr rfl (fun _ => ?_) (fun _ => ?_)
  · refine (S_goto at_125_39).trans ?_
    refine (S_iconst at_125_50).trans ?_
    exact S_ireti rfl at_125_51
  · refine (S_iload_n rfl at_125_52).trans ?_
    refine (S_iload_n rfl at_125_53).trans ?_
    refine (S_invs (by decide) (Nat.le_of_ble_eq_true rfl) (Nat.le_of_ble_eq_true rfl) at_125_54).trans ?_
    rfl
theorem T125_47 {C : Nat → List j_V → j_H → Option j_Z} {L : j_B} {m : j_M0} {x1 : Int} {x2 : Int} {x3 : Int} {s0 : Int} : j_fin C 125 47 [some (jR 2), some (jI x1), some (jI x2), some (jI x3)] [jI s0] (hH L m) = if s0 = 0 then some (some (jI (-1)), hH L m) else (C 143 [jI x1, jI x3] (hH L m)).bind fun z => j_fin C 125 57 [some (jR 2), some (jI x1), some (jI x2), some (jI x3)] (z.1.toList ++ []) z.2 := by
  refine (S_if_ne at_125_47).trans ?_
  refine ite_congr rfl (fun _ => ?_) (fun _ => ?_)
  · refine (S_iconst at_125_50).trans ?_
    exact S_ireti rfl at_125_51
  · refine (S_iload_n rfl at_125_52).trans ?_
    refine (S_iload_n rfl at_125_53).trans ?_
    refine (S_invs (by decide) (Nat.le_of_ble_eq_true rfl) (Nat.le_of_ble_eq_true rfl) at_125_54).trans ?_
    rfl
theorem T125_57 {C : Nat → List j_V → j_H → Option j_Z} {L : j_B} {m : j_M0} {x1 : Int} {x2 : Int} {x3 : Int} {s0 : Int} : j_fin C 125 57 [some (jR 2), some (jI x1), some (jI x2), some (jI x3)] [jI s0] (hH L m) = if s0 = 0 then some (some (jI (-2)), hH L m) else if (m 3 8) < 8 then (C 35 [jR 3, jI x1, jI x2, jI x3] (hH L m)).bind fun z => j_fin C 125 88 [some (jR 2), some (jI x1), some (jI x2), some (jI x3)] (z.1.toList ++ []) z.2 else some (some (jI (-4)), hH L m) := by
  refine (S_if_ne at_125_57).trans ?_
  refine ite_congr rfl (fun _ => ?_) (fun _ => ?_)
  · refine (S_bipush at_125_60).trans ?_
    exact S_ireti rfl at_125_62
  · refine (S_aload_n rfl at_125_63).trans ?_
    refine (S_getR (ka_2 L _) rfl (f_2_0 L _) at_125_64).trans ?_
    refine (H_get0 (ka_3 L _) rfl at_125_67).trans ?_
    refine (S_bipush at_125_70).trans ?_
    refine (S_icmp_lt at_125_72).trans ?_
    refine ite_congr rfl (fun _ => ?_) (fun _ => ?_)
    · refine (S_aload_n rfl at_125_78).trans ?_
      refine (S_getR (ka_2 L _) rfl (f_2_0 L _) at_125_79).trans ?_
      refine (S_iload_n rfl at_125_82).trans ?_
      refine (S_iload_n rfl at_125_83).trans ?_
      refine (S_iload_n rfl at_125_84).trans ?_
      refine (S_invv (b := 3) (by decide) kn_35 rfl (kd_3 L _) (Nat.le_of_ble_eq_true rfl) at_125_85).trans ?_
      rfl
    · refine (S_bipush at_125_75).trans ?_
      exact S_ireti rfl at_125_77
theorem T125_88 {C : Nat → List j_V → j_H → Option j_Z} {L : j_B} {m : j_M0} {x1 : Int} {x2 : Int} {x3 : Int} : j_fin C 125 88 [some (jR 2), some (jI x1), some (jI x2), some (jI x3)] [] (hH L m) = some (some (jI (m 3 8)), hH L m) := by
  refine (S_aload_n rfl at_125_88).trans ?_
  refine (S_getR (ka_2 L _) rfl (f_2_0 L _) at_125_89).trans ?_
  refine (H_get0 (ka_3 L _) rfl at_125_92).trans ?_
  exact S_ireti rfl at_125_95
theorem T126_0 {C : Nat → List j_V → j_H → Option j_Z} {L : j_B} {m : j_M0} : j_fin C 126 0 [some (jR 2), none] [] (hH L m) = (C 8 [jR 35, jR 4] (hH L m)).bind fun z => j_fin C 126 14 [some (jR 2), none] (z.1.toList ++ []) z.2 := by
  refine (S_aload_n rfl at_126_0).trans ?_
  refine (S_getR (ka_2 L _) rfl (f_2_2 L _) at_126_1).trans ?_
  refine (S_aload_n rfl at_126_4).trans ?_
  refine (S_getR (ka_2 L _) rfl (f_2_0 L _) at_126_5).trans ?_
  refine (S_getR (ka_3 L _) rfl (f_3_0 L _) at_126_8).trans ?_
  refine (S_invv (b := 1) (by decide) kn_8 rfl (kd_35 L _) (Nat.le_of_ble_eq_true rfl) at_126_11).trans ?_
  rfl
theorem T126_14 {C : Nat → List j_V → j_H → Option j_Z} {L : j_B} {m : j_M0} : j_fin C 126 14 [some (jR 2), none] [] (hH L m) = j_fin C 126 16 [some (jR 2), some (jI 0)] [] (hH L m) := by
  refine (S_iconst at_126_14).trans ?_
  refine (S_istore_n (l1 := [some (jR 2), some (jI 0)]) rfl at_126_15).trans ?_
  rfl
theorem T126_16 {C : Nat → List j_V → j_H → Option j_Z} {L : j_B} {m : j_M0} {x1 : Int} : j_fin C 126 16 [some (jR 2), some (jI x1)] [] (hH L m) = if x1 < (m 3 8) then if 0 ≤ x1 ∧ x1 < 8 then if 0 ≤ x1 ∧ x1 < 8 then if 0 ≤ x1 ∧ x1 < 8 then (C 17 [jR 35, jI (m 16 x1.toNat), jI (m 17 x1.toNat), jI (m 18 x1.toNat)] (hH L m)).bind fun z => j_fin C 126 61 [some (jR 2), some (jI x1)] (z.1.toList ++ []) z.2 else none else none else none else (C 30 [jR 54, jR 35] (hH L m)).bind fun z => j_fin C 126 78 [some (jR 2), some (jI x1)] (z.1.toList ++ []) z.2 := by
  refine (S_iload_n rfl at_126_16).trans ?_
  refine (S_aload_n rfl at_126_17).trans ?_
  refine (S_getR (ka_2 L _) rfl (f_2_0 L _) at_126_18).trans ?_
  refine (H_get0 (ka_3 L _) rfl at_126_21).trans ?_
  refine (S_icmp_ge at_126_24).trans ?_
  refine ite_congr rfl (fun _ => ?_) (fun _ => ?_)
  · refine (S_aload_n rfl at_126_27).trans ?_
    refine (S_getR (ka_2 L _) rfl (f_2_2 L _) at_126_28).trans ?_
    refine (S_aload_n rfl at_126_31).trans ?_
    refine (S_getR (ka_2 L _) rfl (f_2_0 L _) at_126_32).trans ?_
    refine (S_getR (ka_3 L _) rfl (f_3_9 L _) at_126_35).trans ?_
    refine (S_iload_n rfl at_126_38).trans ?_
    refine (H_iaload (ka_16 L _) at_126_39).trans ?_
    refine ite_congr rfl (fun hi => ?_) (fun _ => rfl)
    refine (S_aload_n rfl at_126_40).trans ?_
    refine (S_getR (ka_2 L _) rfl (f_2_0 L _) at_126_41).trans ?_
    refine (S_getR (ka_3 L _) rfl (f_3_10 L _) at_126_44).trans ?_
    refine (S_iload_n rfl at_126_47).trans ?_
    refine (H_iaload (ka_17 L _) at_126_48).trans ?_
    refine ite_congr rfl (fun hi => ?_) (fun _ => rfl)
    refine (S_aload_n rfl at_126_49).trans ?_
    refine (S_getR (ka_2 L _) rfl (f_2_0 L _) at_126_50).trans ?_
    refine (S_getR (ka_3 L _) rfl (f_3_11 L _) at_126_53).trans ?_
    refine (S_iload_n rfl at_126_56).trans ?_
    refine (H_iaload (ka_18 L _) at_126_57).trans ?_
    refine ite_congr rfl (fun hi => ?_) (fun _ => rfl)
    refine (S_invv (b := 3) (by decide) kn_17 rfl (kd_35 L _) (Nat.le_of_ble_eq_true rfl) at_126_58).trans ?_
    rfl
  · refine (S_aload_n rfl at_126_67).trans ?_
    refine (S_getR (ka_2 L _) rfl (f_2_4 L _) at_126_68).trans ?_
    refine (S_aload_n rfl at_126_71).trans ?_
    refine (S_getR (ka_2 L _) rfl (f_2_2 L _) at_126_72).trans ?_
    refine (S_invv (b := 1) (by decide) kn_30 rfl (kd_54 L _) (Nat.le_of_ble_eq_true rfl) at_126_75).trans ?_
    rfl
theorem T126_61 {C : Nat → List j_V → j_H → Option j_Z} {L : j_B} {m : j_M0} {x1 : Int} : j_fin C 126 61 [some (jR 2), some (jI x1)] [] (hH L m) = j_fin C 126 16 [some (jR 2), some (jI (w32 (x1 + 1)))] [] (hH L m) := by
  refine (S_iinc (l1 := [some (jR 2), some (jI (w32 (x1 + 1)))]) rfl rfl at_126_61).trans ?_
  refine (S_goto at_126_64).trans ?_
  rfl
theorem T126_78 {C : Nat → List j_V → j_H → Option j_Z} {L : j_B} {m : j_M0} {x1 : Int} {s0 : Int} : j_fin C 126 78 [some (jR 2), some (jI x1)] [jI s0] (hH L m) = some (some (jI s0), hH L m) := by
  exact S_ireti rfl at_126_78
theorem T128_0 {C : Nat → List j_V → j_H → Option j_Z} {L : j_B} {m : j_M0} : j_fin C 128 0 [some (jR 2)] [] (hH L m) = (C 32 [jR 19, jR 3] (hH L m)).bind fun z => j_fin C 128 11 [some (jR 2)] (z.1.toList ++ []) z.2 := by
  refine (S_aload_n rfl at_128_0).trans ?_
  refine (S_getR (ka_2 L _) rfl (f_2_1 L _) at_128_1).trans ?_
  refine (S_aload_n rfl at_128_4).trans ?_
  refine (S_getR (ka_2 L _) rfl (f_2_0 L _) at_128_5).trans ?_
  refine (S_invv (b := 1) (by decide) kn_32 rfl (kd_19 L _) (Nat.le_of_ble_eq_true rfl) at_128_8).trans ?_
  rfl
theorem T128_11 {C : Nat → List j_V → j_H → Option j_Z} {L : j_B} {m : j_M0} : j_fin C 128 11 [some (jR 2)] [] (hH L m) = some (some (jI ((j_up m 2 12 1) 4 1)), hH L (j_up m 2 12 1)) := by
  refine (S_aload_n rfl at_128_11).trans ?_
  refine (S_iconst at_128_12).trans ?_
  refine (H_put2 (ka_2 L _) rfl at_128_13).trans ?_
  refine (if_pos (by decide)).trans ?_
  refine (S_aload_n rfl at_128_16).trans ?_
  refine (S_getR (ka_2 L _) rfl (f_2_0 L _) at_128_17).trans ?_
  refine (S_getR (ka_3 L _) rfl (f_3_0 L _) at_128_20).trans ?_
  refine (H_get0 (ka_4 L _) rfl at_128_23).trans ?_
  exact S_ireti rfl at_128_26
theorem T129_0 {C : Nat → List j_V → j_H → Option j_Z} {L : j_B} {m : j_M0} : j_fin C 129 0 [some (jR 2)] [] (hH L m) = if (m 2 12) = 0 then some (some (jI (-3)), hH L m) else (C 32 [jR 3, jR 19] (hH L m)).bind fun z => j_fin C 129 21 [some (jR 2)] (z.1.toList ++ []) z.2 := by
  refine (S_aload_n rfl at_129_0).trans ?_
  refine (H_get2 (ka_2 L _) rfl at_129_1).trans ?_
  refine (S_if_ne at_129_4).trans ?_
  refine ite_congr rfl (fun _ => ?_) (fun _ => ?_)
  · refine (S_bipush at_129_7).trans ?_
    exact S_ireti rfl at_129_9
  · refine (S_aload_n rfl at_129_10).trans ?_
    refine (S_getR (ka_2 L _) rfl (f_2_0 L _) at_129_11).trans ?_
    refine (S_aload_n rfl at_129_14).trans ?_
    refine (S_getR (ka_2 L _) rfl (f_2_1 L _) at_129_15).trans ?_
    refine (S_invv (b := 1) (by decide) kn_32 rfl (kd_3 L _) (Nat.le_of_ble_eq_true rfl) at_129_18).trans ?_
    rfl
theorem T129_21 {C : Nat → List j_V → j_H → Option j_Z} {L : j_B} {m : j_M0} : j_fin C 129 21 [some (jR 2)] [] (hH L m) = some (some (jI ((j_up m 2 11 0) 4 1)), hH L (j_up m 2 11 0)) := by
  refine (S_aload_n rfl at_129_21).trans ?_
  refine (S_iconst at_129_22).trans ?_
  refine (H_put2 (ka_2 L _) rfl at_129_23).trans ?_
  refine (if_pos (by decide)).trans ?_
  refine (S_aload_n rfl at_129_26).trans ?_
  refine (S_getR (ka_2 L _) rfl (f_2_0 L _) at_129_27).trans ?_
  refine (S_getR (ka_3 L _) rfl (f_3_0 L _) at_129_30).trans ?_
  refine (H_get0 (ka_4 L _) rfl at_129_33).trans ?_
  exact S_ireti rfl at_129_36
theorem T130_0 {C : Nat → List j_V → j_H → Option j_Z} {L : j_B} {m : j_M0} {x1 : Int} : j_fin C 130 0 [some (jR 2), some (jI x1)] [] (hH L m) = if x1 = 0 then some (some (jI (m 4 0)), hH L m) else if x1 = 1 then some (some (jI (m 4 1)), hH L m) else if x1 = 2 then if (m 2 11) = 0 then some (some (jI 0), hH L m) else some (some (jI (m 41 0)), hH L m) else if x1 = 3 then if (m 2 11) = 0 then some (some (jI 0), hH L m) else some (some (jI (m 50 0)), hH L m) else if x1 = 4 then if (m 2 11) = 0 then some (some (jI 0), hH L m) else some (some (jI (m 41 2)), hH L m) else if x1 = 5 then some (some (jI (m 3 5)), hH L m) else if x1 = 6 then some (some (jI (m 3 8)), hH L m) else if x1 = 7 then some (some (jI (m 9 0)), hH L m) else if x1 = 8 then some (some (jI (m 93 0)), hH L m) else if x1 = 9 then some (some (jI (m 3 4)), hH L m) else some (some (jI (-2)), hH L m) := by
  refine (S_iload_n rfl at_130_0).trans ?_
  refine (tsw_130_1 _).trans ?_
  refine ite_congr rfl (fun _ => ?_) (fun _ => ?_)
  · refine (S_aload_n rfl at_130_56).trans ?_
    refine (S_getR (ka_2 L _) rfl (f_2_0 L _) at_130_57).trans ?_
    refine (S_getR (ka_3 L _) rfl (f_3_0 L _) at_130_60).trans ?_
    refine (H_get0 (ka_4 L _) rfl at_130_63).trans ?_
    exact S_ireti rfl at_130_66
  refine ite_congr rfl (fun _ => ?_) (fun _ => ?_)
  · refine (S_aload_n rfl at_130_67).trans ?_
    refine (S_getR (ka_2 L _) rfl (f_2_0 L _) at_130_68).trans ?_
    refine (S_getR (ka_3 L _) rfl (f_3_0 L _) at_130_71).trans ?_
    refine (H_get0 (ka_4 L _) rfl at_130_74).trans ?_
    exact S_ireti rfl at_130_77
  refine ite_congr rfl (fun _ => ?_) (fun _ => ?_)
  · refine (S_aload_n rfl at_130_78).trans ?_
    refine (H_get2 (ka_2 L _) rfl at_130_79).trans ?_
    refine (S_if_eq at_130_82).trans ?_
    refine ite_congr rfl (fun _ => ?_) (fun _ => ?_)
    · refine (S_iconst at_130_98).trans ?_
      exact S_ireti rfl at_130_99
    · refine (S_aload_n rfl at_130_85).trans ?_
      refine (S_getR (ka_2 L _) rfl (f_2_3 L _) at_130_86).trans ?_
      refine (S_getR (ka_40 L _) rfl (f_40_0 L _) at_130_89).trans ?_
      refine (H_get0 (ka_41 L _) rfl at_130_92).trans ?_
      refine (S_goto at_130_95).trans ?_
      exact S_ireti rfl at_130_99
  refine ite_congr rfl (fun _ => ?_) (fun _ => ?_)
  · refine (S_aload_n rfl at_130_100).trans ?_
    refine (H_get2 (ka_2 L _) rfl at_130_101).trans ?_
    refine (S_if_eq at_130_104).trans ?_
    refine ite_congr rfl (fun _ => ?_) (fun _ => ?_)
    · refine (S_iconst at_130_120).trans ?_
      exact S_ireti rfl at_130_121
    · refine (S_aload_n rfl at_130_107).trans ?_
      refine (S_getR (ka_2 L _) rfl (f_2_3 L _) at_130_108).trans ?_
      refine (S_getR (ka_40 L _) rfl (f_40_1 L _) at_130_111).trans ?_
      refine (H_get0 (ka_50 L _) rfl at_130_114).trans ?_
      refine (S_goto at_130_117).trans ?_
      exact S_ireti rfl at_130_121
  refine ite_congr rfl (fun _ => ?_) (fun _ => ?_)
  · refine (S_aload_n rfl at_130_122).trans ?_
    refine (H_get2 (ka_2 L _) rfl at_130_123).trans ?_
    refine (S_if_eq at_130_126).trans ?_
    refine ite_congr rfl (fun _ => ?_) (fun _ => ?_)
    · refine (S_iconst at_130_142).trans ?_
      exact S_ireti rfl at_130_143
    · refine (S_aload_n rfl at_130_129).trans ?_
      refine (S_getR (ka_2 L _) rfl (f_2_3 L _) at_130_130).trans ?_
      refine (S_getR (ka_40 L _) rfl (f_40_0 L _) at_130_133).trans ?_
      refine (H_get0 (ka_41 L _) rfl at_130_136).trans ?_
      refine (S_goto at_130_139).trans ?_
      exact S_ireti rfl at_130_143
  refine ite_congr rfl (fun _ => ?_) (fun _ => ?_)
  · refine (S_aload_n rfl at_130_144).trans ?_
    refine (S_getR (ka_2 L _) rfl (f_2_0 L _) at_130_145).trans ?_
    refine (H_get0 (ka_3 L _) rfl at_130_148).trans ?_
    exact S_ireti rfl at_130_151
  refine ite_congr rfl (fun _ => ?_) (fun _ => ?_)
  · refine (S_aload_n rfl at_130_152).trans ?_
    refine (S_getR (ka_2 L _) rfl (f_2_0 L _) at_130_153).trans ?_
    refine (H_get0 (ka_3 L _) rfl at_130_156).trans ?_
    exact S_ireti rfl at_130_159
  refine ite_congr rfl (fun _ => ?_) (fun _ => ?_)
  · refine (S_aload_n rfl at_130_160).trans ?_
    refine (S_getR (ka_2 L _) rfl (f_2_0 L _) at_130_161).trans ?_
    refine (S_getR (ka_3 L _) rfl (f_3_1 L _) at_130_164).trans ?_
    refine (H_get0 (ka_9 L _) rfl at_130_167).trans ?_
    exact S_ireti rfl at_130_170
  refine ite_congr rfl (fun _ => ?_) (fun _ => ?_)
  · refine (S_aload_n rfl at_130_171).trans ?_
    refine (S_getR (ka_2 L _) rfl (f_2_8 L _) at_130_172).trans ?_
    refine (H_get0 (ka_93 L _) rfl at_130_175).trans ?_
    exact S_ireti rfl at_130_178
  refine ite_congr rfl (fun _ => ?_) (fun _ => ?_)
  · refine (S_aload_n rfl at_130_179).trans ?_
    refine (S_getR (ka_2 L _) rfl (f_2_0 L _) at_130_180).trans ?_
    refine (H_get0 (ka_3 L _) rfl at_130_183).trans ?_
    exact S_ireti rfl at_130_186
  refine (S_bipush at_130_187).trans ?_
  exact S_ireti rfl at_130_189
theorem T131_0 {C : Nat → List j_V → j_H → Option j_Z} {L : j_B} {m : j_M0} {x1 : Int} {x2 : Int} {x3 : Int} : j_fin C 131 0 [some (jR 2), some (jI x1), some (jI x2), some (jI x3)] [] (hH L m) = (C 142 [jI x1] (hH L m)).bind fun z => j_fin C 131 4 [some (jR 2), some (jI x1), some (jI x2), some (jI x3)] (z.1.toList ++ []) z.2 := by
  refine (S_iload_n rfl at_131_0).trans ?_
  refine (S_invs (by decide) (Nat.le_of_ble_eq_true rfl) (Nat.le_of_ble_eq_true rfl) at_131_1).trans ?_
  rfl
theorem T131_4 {C : Nat → List j_V → j_H → Option j_Z} {L : j_B} {m : j_M0} {x1 : Int} {x2 : Int} {x3 : Int} {s0 : Int} : j_fin C 131 4 [some (jR 2), some (jI x1), some (jI x2), some (jI x3)] [jI s0] (hH L m) = if s0 = 0 then some (some (jI (-1)), hH L m) else if x2 < (-1) then some (some (jI (-2)), hH L m) else if 4 < x2 then some (some (jI (-2)), hH L m) else if x2 = (-1) then if x2 = (-1) then if x2 = (-1) then (C 61 [jR 98, jI x1, jI x2, jI 0] (hH L m)).bind fun z => j_fin C 131 67 [some (jR 2), some (jI x1), some (jI x2), some (jI x3)] (z.1.toList ++ []) z.2 else (C 61 [jR 98, jI x1, jI x2, jI x3] (hH L m)).bind fun z => j_fin C 131 67 [some (jR 2), some (jI x1), some (jI x2), some (jI x3)] (z.1.toList ++ []) z.2 else if x3 < 0 then some (some (jI (-14)), hH L m) else if x2 = (-1) then (C 61 [jR 98, jI x1, jI x2, jI 0] (hH L m)).bind fun z => j_fin C 131 67 [some (jR 2), some (jI x1), some (jI x2), some (jI x3)] (z.1.toList ++ []) z.2 else (C 61 [jR 98, jI x1, jI x2, jI x3] (hH L m)).bind fun z => j_fin C 131 67 [some (jR 2), some (jI x1), some (jI x2), some (jI x3)] (z.1.toList ++ []) z.2 else if 60 < x3 then some (some (jI (-2)), hH L m) else if x2 = (-1) then if x2 = (-1) then (C 61 [jR 98, jI x1, jI x2, jI 0] (hH L m)).bind fun z => j_fin C 131 67 [some (jR 2), some (jI x1), some (jI x2), some (jI x3)] (z.1.toList ++ []) z.2 else (C 61 [jR 98, jI x1, jI x2, jI x3] (hH L m)).bind fun z => j_fin C 131 67 [some (jR 2), some (jI x1), some (jI x2), some (jI x3)] (z.1.toList ++ []) z.2 else if x3 < 0 then some (some (jI (-14)), hH L m) else if x2 = (-1) then (C 61 [jR 98, jI x1, jI x2, jI 0] (hH L m)).bind fun z => j_fin C 131 67 [some (jR 2), some (jI x1), some (jI x2), some (jI x3)] (z.1.toList ++ []) z.2 else (C 61 [jR 98, jI x1, jI x2, jI x3] (hH L m)).bind fun z => j_fin C 131 67 [some (jR 2), some (jI x1), some (jI x2), some (jI x3)] (z.1.toList ++ []) z.2 := by
  refine (S_if_ne at_131_4).trans ?_
  refine ite_congr rfl (fun _ => ?_) (fun _ => ?_)
  · refine (S_iconst at_131_7).trans ?_
    exact S_ireti rfl at_131_8
  · refine (S_iload_n rfl at_131_9).trans ?_
    refine (S_iconst at_131_10).trans ?_
    refine (S_icmp_lt at_131_11).trans ?_
    refine ite_congr rfl (fun _ => ?_) (fun _ => ?_)
    · refine (S_bipush at_131_19).trans ?_
      exact S_ireti rfl at_131_21
    · refine (S_iload_n rfl at_131_14).trans ?_
      refine (S_iconst at_131_15).trans ?_
      refine (S_icmp_le at_131_16).trans ?_
      refine ite_congr rfl (fun _ => ?_) (fun _ => ?_)
      · refine (S_bipush at_131_19).trans ?_
        exact S_ireti rfl at_131_21
      · refine (S_iload_n rfl at_131_22).trans ?_
        refine (S_iconst at_131_23).trans ?_
        refine (S_icmp_eq at_131_24).trans ?_
        refine ite_congr rfl (fun _ => ?_) (fun _ => ?_)
        · refine (S_iload_n rfl at_131_36).trans ?_
          refine (S_iconst at_131_37).trans ?_
          refine (S_icmp_eq at_131_38).trans ?_
          refine ite_congr rfl (fun _ => ?_) (fun _ => ?_)
          · refine (S_aload_n rfl at_131_48).trans ?_
            refine (S_getR (ka_2 L _) rfl (f_2_9 L _) at_131_49).trans ?_
            refine (S_iload_n rfl at_131_52).trans ?_
            refine (S_iload_n rfl at_131_53).trans ?_
            refine (S_iload_n rfl at_131_54).trans ?_
            refine (S_iconst at_131_55).trans ?_
            refine (S_icmp_ne at_131_56).trans ?_
            refine ite_congr rfl (fun _ => ?_) (fun _ => ?_)
            · refine (S_iconst at_131_59).trans ?_
              refine (S_goto at_131_60).trans ?_
              refine (S_invv (b := 3) (by decide) kn_61 rfl (kd_98 L _) (Nat.le_of_ble_eq_true rfl) at_131_64).trans ?_
              rfl
            · refine (S_iload_n rfl at_131_63).trans ?_
              refine (S_invv (b := 3) (by decide) kn_61 rfl (kd_98 L _) (Nat.le_of_ble_eq_true rfl) at_131_64).trans ?_
              rfl
          · refine (S_iload_n rfl at_131_41).trans ?_
            refine (S_if_ge at_131_42).trans ?_
            refine ite_congr rfl (fun _ => ?_) (fun _ => ?_)
            · refine (S_bipush at_131_45).trans ?_
              exact S_ireti rfl at_131_47
            · refine (S_aload_n rfl at_131_48).trans ?_
              refine (S_getR (ka_2 L _) rfl (f_2_9 L _) at_131_49).trans ?_
              refine (S_iload_n rfl at_131_52).trans ?_
              refine (S_iload_n rfl at_131_53).trans ?_
              refine (S_iload_n rfl at_131_54).trans ?_
              refine (S_iconst at_131_55).trans ?_
              refine (S_icmp_ne at_131_56).trans ?_
              refine ite_congr rfl (fun _ => ?_) (fun _ => ?_)
              · refine (S_iconst at_131_59).trans ?_
                refine (S_goto at_131_60).trans ?_
                refine (S_invv (b := 3) (by decide) kn_61 rfl (kd_98 L _) (Nat.le_of_ble_eq_true rfl) at_131_64).trans ?_
                rfl
              · refine (S_iload_n rfl at_131_63).trans ?_
                refine (S_invv (b := 3) (by decide) kn_61 rfl (kd_98 L _) (Nat.le_of_ble_eq_true rfl) at_131_64).trans ?_
                rfl
        · refine (S_iload_n rfl at_131_27).trans ?_
          refine (S_bipush at_131_28).trans ?_
          refine (S_icmp_le at_131_30).trans ?_
          refine ite_congr rfl (fun _ => ?_) (fun _ => ?_)
          · refine (S_bipush at_131_33).trans ?_
            exact S_ireti rfl at_131_35
          · refine (S_iload_n rfl at_131_36).trans ?_
            refine (S_iconst at_131_37).trans ?_
            refine (S_icmp_eq at_131_38).trans ?_
            refine ite_congr rfl (fun _ => ?_) (fun _ => ?_)
            · refine (S_aload_n rfl at_131_48).trans ?_
              refine (S_getR (ka_2 L _) rfl (f_2_9 L _) at_131_49).trans ?_
              refine (S_iload_n rfl at_131_52).trans ?_
              refine (S_iload_n rfl at_131_53).trans ?_
              refine (S_iload_n rfl at_131_54).trans ?_
              refine (S_iconst at_131_55).trans ?_
              refine (S_icmp_ne at_131_56).trans ?_
              refine ite_congr rfl (fun _ => ?_) (fun _ => ?_)
              · refine (S_iconst at_131_59).trans ?_
                refine (S_goto at_131_60).trans ?_
                refine (S_invv (b := 3) (by decide) kn_61 rfl (kd_98 L _) (Nat.le_of_ble_eq_true rfl) at_131_64).trans ?_
                rfl
              · refine (S_iload_n rfl at_131_63).trans ?_
                refine (S_invv (b := 3) (by decide) kn_61 rfl (kd_98 L _) (Nat.le_of_ble_eq_true rfl) at_131_64).trans ?_
                rfl
            · refine (S_iload_n rfl at_131_41).trans ?_
              refine (S_if_ge at_131_42).trans ?_
              refine ite_congr rfl (fun _ => ?_) (fun _ => ?_)
              · refine (S_bipush at_131_45).trans ?_
                exact S_ireti rfl at_131_47
              · refine (S_aload_n rfl at_131_48).trans ?_
                refine (S_getR (ka_2 L _) rfl (f_2_9 L _) at_131_49).trans ?_
                refine (S_iload_n rfl at_131_52).trans ?_
                refine (S_iload_n rfl at_131_53).trans ?_
                refine (S_iload_n rfl at_131_54).trans ?_
                refine (S_iconst at_131_55).trans ?_
                refine (S_icmp_ne at_131_56).trans ?_
                refine ite_congr rfl (fun _ => ?_) (fun _ => ?_)
                · refine (S_iconst at_131_59).trans ?_
                  refine (S_goto at_131_60).trans ?_
                  refine (S_invv (b := 3) (by decide) kn_61 rfl (kd_98 L _) (Nat.le_of_ble_eq_true rfl) at_131_64).trans ?_
                  rfl
                · refine (S_iload_n rfl at_131_63).trans ?_
                  refine (S_invv (b := 3) (by decide) kn_61 rfl (kd_98 L _) (Nat.le_of_ble_eq_true rfl) at_131_64).trans ?_
                  rfl
theorem T131_67 {C : Nat → List j_V → j_H → Option j_Z} {L : j_B} {m : j_M0} {x1 : Int} {x2 : Int} {x3 : Int} : j_fin C 131 67 [some (jR 2), some (jI x1), some (jI x2), some (jI x3)] [] (hH L m) = some (some (jI 1), hH L m) := by
  refine (S_iconst at_131_67).trans ?_
  exact S_ireti rfl at_131_68
theorem T132_0 {C : Nat → List j_V → j_H → Option j_Z} {L : j_B} {m : j_M0} {x1 : Int} {x2 : Int} {y3 : Int} : j_fin C 132 0 [some (jR 2), some (jI x1), some (jI x2), some (jL y3), none] [] (hH L m) = (C 142 [jI x1] (hH L m)).bind fun z => j_fin C 132 4 [some (jR 2), some (jI x1), some (jI x2), some (jL y3), none] (z.1.toList ++ []) z.2 := by
  refine (S_iload_n rfl at_132_0).trans ?_
  refine (S_invs (by decide) (Nat.le_of_ble_eq_true rfl) (Nat.le_of_ble_eq_true rfl) at_132_1).trans ?_
  rfl
theorem T132_4 {C : Nat → List j_V → j_H → Option j_Z} {L : j_B} {m : j_M0} {x1 : Int} {x2 : Int} {y3 : Int} {s0 : Int} : j_fin C 132 4 [some (jR 2), some (jI x1), some (jI x2), some (jL y3), none] [jI s0] (hH L m) = if s0 = 0 then some (some (jI (-1)), hH L m) else if 0 ≤ x1 ∧ x1 < 6 then if (m 99 x1.toNat) = (-1) then some (some (jI (-11)), hH L m) else if x2 < 0 then some (some (jI (-13)), hH L m) else if 0 ≤ x1 ∧ x1 < 6 then if x2 < (m 100 x1.toNat) then if 0 ≤ x1 ∧ x1 < 6 then if 0 ≤ x1 ∧ x1 < 6 then (C 62 [jR 98, jI (m 99 x1.toNat), jL y3] (hH L m)).bind fun z => j_fin C 132 72 [some (jR 2), some (jI x1), some (jI x2), some (jL y3), none] (z.1.toList ++ [jI x2, jR (102 + x1.toNat)]) z.2 else none else none else some (some (jI (-13)), hH L m) else none else none := by
  refine (S_if_ne at_132_4).trans ?_
  refine ite_congr rfl (fun _ => ?_) (fun _ => ?_)
  · refine (S_iconst at_132_7).trans ?_
    exact S_ireti rfl at_132_8
  · refine (S_aload_n rfl at_132_9).trans ?_
    refine (S_getR (ka_2 L _) rfl (f_2_9 L _) at_132_10).trans ?_
    refine (S_getR (ka_98 L _) rfl (f_98_0 L _) at_132_13).trans ?_
    refine (S_iload_n rfl at_132_16).trans ?_
    refine (H_iaload (ka_99 L _) at_132_17).trans ?_
    refine ite_congr rfl (fun hi => ?_) (fun _ => rfl)
    refine (S_iconst at_132_18).trans ?_
    refine (S_icmp_ne at_132_19).trans ?_
    refine ite_congr rfl (fun _ => ?_) (fun _ => ?_)
    · refine (S_bipush at_132_22).trans ?_
      exact S_ireti rfl at_132_24
    · refine (S_iload_n rfl at_132_25).trans ?_
      refine (S_if_lt at_132_26).trans ?_
      refine ite_congr rfl (fun _ => ?_) (fun _ => ?_)
      · refine (S_bipush at_132_42).trans ?_
        exact S_ireti rfl at_132_44
      · refine (S_iload_n rfl at_132_29).trans ?_
        refine (S_aload_n rfl at_132_30).trans ?_
        refine (S_getR (ka_2 L _) rfl (f_2_9 L _) at_132_31).trans ?_
        refine (S_getR (ka_98 L _) rfl (f_98_1 L _) at_132_34).trans ?_
        refine (S_iload_n rfl at_132_37).trans ?_
        refine (H_iaload (ka_100 L _) at_132_38).trans ?_
        refine ite_congr rfl (fun hi => ?_) (fun _ => rfl)
        refine (S_icmp_lt at_132_39).trans ?_
        refine ite_congr rfl (fun _ => ?_) (fun _ => ?_)
        · refine (S_aload_n rfl at_132_45).trans ?_
          refine (S_getR (ka_2 L _) rfl (f_2_9 L _) at_132_46).trans ?_
          refine (S_getR (ka_98 L _) rfl (f_98_2 L _) at_132_49).trans ?_
          refine (S_iload_n rfl at_132_52).trans ?_
          refine (H_tapes at_132_53).trans ?_
          refine ite_congr rfl (fun hi => ?_) (fun _ => rfl)
          refine (S_iload_n rfl at_132_54).trans ?_
          refine (S_aload_n rfl at_132_55).trans ?_
          refine (S_getR (ka_2 L _) rfl (f_2_9 L _) at_132_56).trans ?_
          refine (S_aload_n rfl at_132_59).trans ?_
          refine (S_getR (ka_2 L _) rfl (f_2_9 L _) at_132_60).trans ?_
          refine (S_getR (ka_98 L _) rfl (f_98_0 L _) at_132_63).trans ?_
          refine (S_iload_n rfl at_132_66).trans ?_
          refine (H_iaload (ka_99 L _) at_132_67).trans ?_
          refine ite_congr rfl (fun hi => ?_) (fun _ => rfl)
          refine (S_lload_n rfl at_132_68).trans ?_
          refine (S_invv (b := 2) (by decide) kn_62 rfl (kd_98 L _) (Nat.le_of_ble_eq_true rfl) at_132_69).trans ?_
          rfl
        · refine (S_bipush at_132_42).trans ?_
          exact S_ireti rfl at_132_44
theorem T132_72 {C : Nat → List j_V → j_H → Option j_Z} {L : j_B} {m : j_M0} {x1 : Int} {x2 : Int} {y3 : Int} {q0 : Nat} {s1 : Int} {t2 : Int} (hq0 : q0 < 6) : j_fin C 132 72 [some (jR 2), some (jI x1), some (jI x2), some (jL y3), none] [jL t2, jI s1, jR (102 + q0)] (hH L m) = if 0 ≤ s1 ∧ s1 < 60 then some (some (jI 1), hH L (j_up m (102 + q0) s1.toNat t2)) else none := by
  refine (H_lastore (by omega) (ka_tp hq0) at_132_72).trans ?_
  refine ite_congr rfl (fun hi => ?_) (fun _ => rfl)
  refine (S_iconst at_132_73).trans ?_
  exact S_ireti rfl at_132_74
theorem T135_0 {C : Nat → List j_V → j_H → Option j_Z} {L : j_B} {m : j_M0} {x1 : Int} : j_fin C 135 0 [some (jR 2), some (jI x1)] [] (hH L m) = if x1 < 0 then some (some (jI 0), hH L m) else if x1 < (m 4 0) then some (some (jI 1), hH L m) else some (some (jI 0), hH L m) := by
  refine (S_iload_n rfl at_135_0).trans ?_
  refine (S_if_lt at_135_1).trans ?_
  refine ite_congr rfl (fun _ => ?_) (fun _ => ?_)
  · refine (S_iconst at_135_22).trans ?_
    exact (S_iretz rfl at_135_23).trans (if_pos (by decide))
  · refine (S_iload_n rfl at_135_4).trans ?_
    refine (S_aload_n rfl at_135_5).trans ?_
    refine (S_getR (ka_2 L _) rfl (f_2_0 L _) at_135_6).trans ?_
    refine (S_getR (ka_3 L _) rfl (f_3_0 L _) at_135_9).trans ?_
    refine (H_get0 (ka_4 L _) rfl at_135_12).trans ?_
    refine (S_icmp_ge at_135_15).trans ?_
    refine ite_congr rfl (fun _ => ?_) (fun _ => ?_)
    · refine (S_iconst at_135_18).trans ?_
      refine (S_goto at_135_19).trans ?_
      exact (S_iretz rfl at_135_23).trans (if_pos (by decide))
    · refine (S_iconst at_135_22).trans ?_
      exact (S_iretz rfl at_135_23).trans (if_pos (by decide))
theorem T136_0 {C : Nat → List j_V → j_H → Option j_Z} {L : j_B} {m : j_M0} {x1 : Int} : j_fin C 136 0 [some (jR 2), some (jI x1)] [] (hH L m) = if x1 < 0 then some (some (jI 0), hH L m) else if x1 < (m 4 1) then some (some (jI 1), hH L m) else some (some (jI 0), hH L m) := by
  refine (S_iload_n rfl at_136_0).trans ?_
  refine (S_if_lt at_136_1).trans ?_
  refine ite_congr rfl (fun _ => ?_) (fun _ => ?_)
  · refine (S_iconst at_136_22).trans ?_
    exact (S_iretz rfl at_136_23).trans (if_pos (by decide))
  · refine (S_iload_n rfl at_136_4).trans ?_
    refine (S_aload_n rfl at_136_5).trans ?_
    refine (S_getR (ka_2 L _) rfl (f_2_0 L _) at_136_6).trans ?_
    refine (S_getR (ka_3 L _) rfl (f_3_0 L _) at_136_9).trans ?_
    refine (H_get0 (ka_4 L _) rfl at_136_12).trans ?_
    refine (S_icmp_ge at_136_15).trans ?_
    refine ite_congr rfl (fun _ => ?_) (fun _ => ?_)
    · refine (S_iconst at_136_18).trans ?_
      refine (S_goto at_136_19).trans ?_
      exact (S_iretz rfl at_136_23).trans (if_pos (by decide))
    · refine (S_iconst at_136_22).trans ?_
      exact (S_iretz rfl at_136_23).trans (if_pos (by decide))
theorem T138_0 {C : Nat → List j_V → j_H → Option j_Z} {L : j_B} {m : j_M0} {x1 : Int} : j_fin C 138 0 [some (jR 2), some (jI x1)] [] (hH L m) = if x1 < 0 then some (some (jI 0), hH L m) else if 0 ≤ (m 4 0) ∧ (m 4 0) < 6 then if x1 < (m 1 (m 4 0).toNat) then some (some (jI 1), hH L m) else some (some (jI 0), hH L m) else none := by
  refine (S_iload_n rfl at_138_0).trans ?_
  refine (S_if_lt at_138_1).trans ?_
  refine ite_congr rfl (fun _ => ?_) (fun _ => ?_)
  · refine (S_iconst at_138_26).trans ?_
    exact (S_iretz rfl at_138_27).trans (if_pos (by decide))
  · refine (S_iload_n rfl at_138_4).trans ?_
    refine (S_gets rfl at_138_5).trans ?_
    refine (S_aload_n rfl at_138_8).trans ?_
    refine (S_getR (ka_2 L _) rfl (f_2_0 L _) at_138_9).trans ?_
    refine (S_getR (ka_3 L _) rfl (f_3_0 L _) at_138_12).trans ?_
    refine (H_get0 (ka_4 L _) rfl at_138_15).trans ?_
    refine (H_iaload (ka_1 L _) at_138_18).trans ?_
    refine ite_congr rfl (fun hi => ?_) (fun _ => rfl)
    refine (S_icmp_ge at_138_19).trans ?_
    refine ite_congr rfl (fun _ => ?_) (fun _ => ?_)
    · refine (S_iconst at_138_22).trans ?_
      refine (S_goto at_138_23).trans ?_
      exact (S_iretz rfl at_138_27).trans (if_pos (by decide))
    · refine (S_iconst at_138_26).trans ?_
      exact (S_iretz rfl at_138_27).trans (if_pos (by decide))
theorem T139_0 {C : Nat → List j_V → j_H → Option j_Z} {L : j_B} {m : j_M0} {x0 : Int} : j_fin C 139 0 [some (jI x0)] [] (hH L m) = if x0 < (-99) then some (some (jI 0), hH L m) else if 999 < x0 then some (some (jI 0), hH L m) else some (some (jI 1), hH L m) := by
  refine (S_iload_n rfl at_139_0).trans ?_
  refine (S_bipush at_139_1).trans ?_
  refine (S_icmp_lt at_139_3).trans ?_
  refine ite_congr rfl (fun _ => ?_) (fun _ => ?_)
  · refine (S_iconst at_139_17).trans ?_
    exact (S_iretz rfl at_139_18).trans (if_pos (by decide))
  · refine (S_iload_n rfl at_139_6).trans ?_
    refine (S_sipush at_139_7).trans ?_
    refine (S_icmp_gt at_139_10).trans ?_
    refine ite_congr rfl (fun _ => ?_) (fun _ => ?_)
    · refine (S_iconst at_139_17).trans ?_
      exact (S_iretz rfl at_139_18).trans (if_pos (by decide))
    · refine (S_iconst at_139_13).trans ?_
      refine (S_goto at_139_14).trans ?_
      exact (S_iretz rfl at_139_18).trans (if_pos (by decide))
theorem T140_0 {C : Nat → List j_V → j_H → Option j_Z} {L : j_B} {m : j_M0} {x0 : Int} : j_fin C 140 0 [some (jI x0)] [] (hH L m) = if x0 < (-9) then some (some (jI 0), hH L m) else if 9 < x0 then some (some (jI 0), hH L m) else some (some (jI 1), hH L m) := by
  refine (S_iload_n rfl at_140_0).trans ?_
  refine (S_bipush at_140_1).trans ?_
  refine (S_icmp_lt at_140_3).trans ?_
  refine ite_congr rfl (fun _ => ?_) (fun _ => ?_)
  · refine (S_iconst at_140_16).trans ?_
    exact (S_iretz rfl at_140_17).trans (if_pos (by decide))
  · refine (S_iload_n rfl at_140_6).trans ?_
    refine (S_bipush at_140_7).trans ?_
    refine (S_icmp_gt at_140_9).trans ?_
    refine ite_congr rfl (fun _ => ?_) (fun _ => ?_)
    · refine (S_iconst at_140_16).trans ?_
      exact (S_iretz rfl at_140_17).trans (if_pos (by decide))
    · refine (S_iconst at_140_12).trans ?_
      refine (S_goto at_140_13).trans ?_
      exact (S_iretz rfl at_140_17).trans (if_pos (by decide))
theorem T141_0 {C : Nat → List j_V → j_H → Option j_Z} {L : j_B} {m : j_M0} {x0 : Int} : j_fin C 141 0 [some (jI x0)] [] (hH L m) = if x0 = 0 then some (some (jI 1), hH L m) else if x0 = 1 then some (some (jI 1), hH L m) else some (some (jI 0), hH L m) := by
  refine (S_iload_n rfl at_141_0).trans ?_
  refine (S_if_eq at_141_1).trans ?_
  refine ite_congr rfl (fun _ => ?_) (fun _ => ?_)
  · refine (S_iconst at_141_9).trans ?_
    refine (S_goto at_141_10).trans ?_
    exact (S_iretz rfl at_141_14).trans (if_pos (by decide))
  · refine (S_iload_n rfl at_141_4).trans ?_
    refine (S_iconst at_141_5).trans ?_
    refine (S_icmp_ne at_141_6).trans ?_
    refine ite_congr rfl (fun _ => ?_) (fun _ => ?_)
    · refine (S_iconst at_141_9).trans ?_
      refine (S_goto at_141_10).trans ?_
      exact (S_iretz rfl at_141_14).trans (if_pos (by decide))
    · refine (S_iconst at_141_13).trans ?_
      exact (S_iretz rfl at_141_14).trans (if_pos (by decide))
theorem T142_0 {C : Nat → List j_V → j_H → Option j_Z} {L : j_B} {m : j_M0} {x0 : Int} : j_fin C 142 0 [some (jI x0)] [] (hH L m) = if x0 < 0 then some (some (jI 0), hH L m) else if x0 < 6 then some (some (jI 1), hH L m) else some (some (jI 0), hH L m) := by
  refine (S_iload_n rfl at_142_0).trans ?_
  refine (S_if_lt at_142_1).trans ?_
  refine ite_congr rfl (fun _ => ?_) (fun _ => ?_)
  · refine (S_iconst at_142_14).trans ?_
    exact (S_iretz rfl at_142_15).trans (if_pos (by decide))
  · refine (S_iload_n rfl at_142_4).trans ?_
    refine (S_bipush at_142_5).trans ?_
    refine (S_icmp_ge at_142_7).trans ?_
    refine ite_congr rfl (fun _ => ?_) (fun _ => ?_)
    · refine (S_iconst at_142_10).trans ?_
      refine (S_goto at_142_11).trans ?_
      exact (S_iretz rfl at_142_15).trans (if_pos (by decide))
    · refine (S_iconst at_142_14).trans ?_
      exact (S_iretz rfl at_142_15).trans (if_pos (by decide))
theorem T143_0 {C : Nat → List j_V → j_H → Option j_Z} {L : j_B} {m : j_M0} {x0 : Int} {x1 : Int} : j_fin C 143 0 [some (jI x0), some (jI x1)] [] (hH L m) = if x0 = 0 then (C 139 [jI x1] (hH L m)).bind fun z => j_fin C 143 8 [some (jI x0), some (jI x1)] (z.1.toList ++ []) z.2 else if x0 = 1 then if x1 < 0 then j_fin C 143 36 [some (jI x0), some (jI x1)] [jI 0] (hH L m) else if 99 < x1 then j_fin C 143 36 [some (jI x0), some (jI x1)] [jI 0] (hH L m) else j_fin C 143 36 [some (jI x0), some (jI x1)] [jI 1] (hH L m) else (C 140 [jI x1] (hH L m)).bind fun z => j_fin C 143 36 [some (jI x0), some (jI x1)] (z.1.toList ++ []) z.2 := by
  refine (S_iload_n rfl at_143_0).trans ?_
  refine (S_if_ne at_143_1).trans ?_
  refine ite_congr rfl (fun _ => ?_) (fun _ => ?_)
  · refine (S_iload_n rfl at_143_4).trans ?_
    refine (S_invs (by decide) (Nat.le_of_ble_eq_true rfl) (Nat.le_of_ble_eq_true rfl) at_143_5).trans ?_
    rfl
  · refine (S_iload_n rfl at_143_9).trans ?_
    refine (S_iconst at_143_10).trans ?_
    refine (S_icmp_ne at_143_11).trans ?_
    refine ite_congr rfl (fun _ => ?_) (fun _ => ?_)
    · refine (S_iload_n rfl at_143_14).trans ?_
      refine (S_if_lt at_143_15).trans ?_
      refine ite_congr rfl (fun _ => ?_) (fun _ => ?_)
      · refine (S_iconst at_143_28).trans ?_
        refine (S_goto at_143_29).trans ?_
        rfl
      · refine (S_iload_n rfl at_143_18).trans ?_
        refine (S_bipush at_143_19).trans ?_
        refine (S_icmp_gt at_143_21).trans ?_
        refine ite_congr rfl (fun _ => ?_) (fun _ => ?_)
        · refine (S_iconst at_143_28).trans ?_
          refine (S_goto at_143_29).trans ?_
          rfl
        · refine (S_iconst at_143_24).trans ?_
          refine (S_goto at_143_25).trans ?_
          rfl
    · refine (S_iload_n rfl at_143_32).trans ?_
      refine (S_invs (by decide) (Nat.le_of_ble_eq_true rfl) (Nat.le_of_ble_eq_true rfl) at_143_33).trans ?_
      rfl
theorem T143_8 {C : Nat → List j_V → j_H → Option j_Z} {L : j_B} {m : j_M0} {x0 : Int} {x1 : Int} {s0 : Int} : j_fin C 143 8 [some (jI x0), some (jI x1)] [jI s0] (hH L m) = if s0 = 0 ∨ s0 = 1 then some (some (jI s0), hH L m) else none := by
  exact S_iretz rfl at_143_8
theorem T143_36 {C : Nat → List j_V → j_H → Option j_Z} {L : j_B} {m : j_M0} {x0 : Int} {x1 : Int} {s0 : Int} : j_fin C 143 36 [some (jI x0), some (jI x1)] [jI s0] (hH L m) = if s0 = 0 ∨ s0 = 1 then some (some (jI s0), hH L m) else none := by
  exact S_iretz rfl at_143_36
theorem T144_0 {C : Nat → List j_V → j_H → Option j_Z} {L : j_B} {m : j_M0} {y0 : Int} : j_fin C 144 0 [some (jL y0), none] [] (hH L m) = if 0 < (j_cmp y0 1000000000) then some (some (jI 0), hH L m) else if (j_cmp y0 (-1000000000)) < 0 then some (some (jI 0), hH L m) else some (some (jI 1), hH L m) := by
  refine (S_lload_n rfl at_144_0).trans ?_
  refine (S_ldc2_w at_144_1).trans ?_
  refine (S_lcmp at_144_4).trans ?_
  refine (S_if_gt at_144_5).trans ?_
  refine ite_congr rfl (fun _ => ?_) (fun _ => ?_)
  · refine (S_iconst at_144_20).trans ?_
    exact (S_iretz rfl at_144_21).trans (if_pos (by decide))
  · refine (S_lload_n rfl at_144_8).trans ?_
    refine (S_ldc2_w at_144_9).trans ?_
    refine (S_lcmp at_144_12).trans ?_
    refine (S_if_lt at_144_13).trans ?_
    refine ite_congr rfl (fun _ => ?_) (fun _ => ?_)
    · refine (S_iconst at_144_20).trans ?_
      exact (S_iretz rfl at_144_21).trans (if_pos (by decide))
    · refine (S_iconst at_144_16).trans ?_
      refine (S_goto at_144_17).trans ?_
      exact (S_iretz rfl at_144_21).trans (if_pos (by decide))
theorem T145_0 {C : Nat → List j_V → j_H → Option j_Z} {L : j_B} {m : j_M0} : j_fin C 145 0 [some (jR 2), none] [] (hH L m) = (C 29 [jR 54, jR 35, jI 12] (hH L m)).bind fun z => j_fin C 145 13 [some (jR 2), none] (z.1.toList ++ []) z.2 := by
  refine (S_aload_n rfl at_145_0).trans ?_
  refine (S_getR (ka_2 L _) rfl (f_2_4 L _) at_145_1).trans ?_
  refine (S_aload_n rfl at_145_4).trans ?_
  refine (S_getR (ka_2 L _) rfl (f_2_2 L _) at_145_5).trans ?_
  refine (S_bipush at_145_8).trans ?_
  refine (S_invv (b := 2) (by decide) kn_29 rfl (kd_54 L _) (Nat.le_of_ble_eq_true rfl) at_145_10).trans ?_
  rfl
theorem T145_13 {C : Nat → List j_V → j_H → Option j_Z} {L : j_B} {m : j_M0} {s0 : Int} : j_fin C 145 13 [some (jR 2), none] [jI s0] (hH L m) = if s0 = 1 then j_fin C 145 21 [some (jR 2), some (jI 0)] [] (hH L m) else some (some (jI 0), hH L m) := by
  refine (S_iconst at_145_13).trans ?_
  refine (S_icmp_eq at_145_14).trans ?_
  refine ite_congr rfl (fun _ => ?_) (fun _ => ?_)
  · refine (S_iconst at_145_19).trans ?_
    refine (S_istore_n (l1 := [some (jR 2), some (jI 0)]) rfl at_145_20).trans ?_
    rfl
  · refine (S_iconst at_145_17).trans ?_
    exact (S_iretz rfl at_145_18).trans (if_pos (by decide))
theorem T145_21 {C : Nat → List j_V → j_H → Option j_Z} {L : j_B} {m : j_M0} {x1 : Int} : j_fin C 145 21 [some (jR 2), some (jI x1)] [] (hH L m) = if x1 < (m 3 5) then if 0 ≤ x1 ∧ x1 < 5 then (C 54 [jR 55, jI (m 14 x1.toNat)] (hH L m)).bind fun z => j_fin C 145 51 [some (jR 2), some (jI x1)] (z.1.toList ++ []) z.2 else none else some (some (jI 1), hH L m) := by
  refine (S_iload_n rfl at_145_21).trans ?_
  refine (S_aload_n rfl at_145_22).trans ?_
  refine (S_getR (ka_2 L _) rfl (f_2_0 L _) at_145_23).trans ?_
  refine (H_get0 (ka_3 L _) rfl at_145_26).trans ?_
  refine (S_icmp_ge at_145_29).trans ?_
  refine ite_congr rfl (fun _ => ?_) (fun _ => ?_)
  · refine (S_aload_n rfl at_145_32).trans ?_
    refine (S_getR (ka_2 L _) rfl (f_2_4 L _) at_145_33).trans ?_
    refine (S_getR (ka_54 L _) rfl (f_54_0 L _) at_145_36).trans ?_
    refine (S_aload_n rfl at_145_39).trans ?_
    refine (S_getR (ka_2 L _) rfl (f_2_0 L _) at_145_40).trans ?_
    refine (S_getR (ka_3 L _) rfl (f_3_6 L _) at_145_43).trans ?_
    refine (S_iload_n rfl at_145_46).trans ?_
    refine (H_iaload (ka_14 L _) at_145_47).trans ?_
    refine ite_congr rfl (fun hi => ?_) (fun _ => rfl)
    refine (S_invv (b := 1) (by decide) kn_54 rfl (kd_55 L _) (Nat.le_of_ble_eq_true rfl) at_145_48).trans ?_
    rfl
  · refine (S_iconst at_145_73).trans ?_
    exact (S_iretz rfl at_145_74).trans (if_pos (by decide))
theorem T145_51 {C : Nat → List j_V → j_H → Option j_Z} {L : j_B} {m : j_M0} {x1 : Int} {t0 : Int} : j_fin C 145 51 [some (jR 2), some (jI x1)] [jL t0] (hH L m) = if 0 ≤ x1 ∧ x1 < 5 then if (j_cmp t0 (m 15 x1.toNat)) = 0 then j_fin C 145 21 [some (jR 2), some (jI (w32 (x1 + 1)))] [] (hH L m) else some (some (jI 0), hH L m) else none := by
  refine (S_aload_n rfl at_145_51).trans ?_
  refine (S_getR (ka_2 L _) rfl (f_2_0 L _) at_145_52).trans ?_
  refine (S_getR (ka_3 L _) rfl (f_3_7 L _) at_145_55).trans ?_
  refine (S_iload_n rfl at_145_58).trans ?_
  refine (H_iaload (ka_15 L _) at_145_59).trans ?_
  refine ite_congr rfl (fun hi => ?_) (fun _ => rfl)
  refine (S_i2l at_145_60).trans ?_
  refine (S_lcmp at_145_61).trans ?_
  refine (S_if_eq at_145_62).trans ?_
  refine ite_congr rfl (fun _ => ?_) (fun _ => ?_)
  · refine (S_iinc (l1 := [some (jR 2), some (jI (w32 (x1 + 1)))]) rfl rfl at_145_67).trans ?_
    refine (S_goto at_145_70).trans ?_
    rfl
  · refine (S_iconst at_145_65).trans ?_
    exact (S_iretz rfl at_145_66).trans (if_pos (by decide))
theorem T146_0 {C : Nat → List j_V → j_H → Option j_Z} {L : j_B} {m : j_M0} {y0 : Int} {y2 : Int} {x4 : Int} : j_fin C 146 0 [some (jL y0), none, some (jL y2), none, some (jI x4), none, none, none, none, none, none, none] [] (hH L m) = (C 267 [jL y0] (hH L m)).bind fun z => j_fin C 146 7 [some (jL y0), none, some (jL y2), none, some (jI x4), some (jL y2), none, none, none, none, none, none] (z.1.toList ++ []) z.2 := by
  refine (S_lload_n rfl at_146_0).trans ?_
  refine (S_lstore (l1 := [some (jL y0), none, some (jL y2), none, some (jI x4), some (jL y2), none, none, none, none, none, none]) rfl at_146_1).trans ?_
  refine (S_lload_n rfl at_146_3).trans ?_
  refine (S_invs (by decide) (Nat.le_of_ble_eq_true rfl) (Nat.le_of_ble_eq_true rfl) at_146_4).trans ?_
  rfl
theorem T146_7 {C : Nat → List j_V → j_H → Option j_Z} {L : j_B} {m : j_M0} {y0 : Int} {y2 : Int} {x4 : Int} {y5 : Int} {t0 : Int} : j_fin C 146 7 [some (jL y0), none, some (jL y2), none, some (jI x4), some (jL y5), none, none, none, none, none, none] [jL t0] (hH L m) = j_fin C 146 12 [some (jL y0), none, some (jL y2), none, some (jI x4), some (jL y5), none, some (jL t0), none, some (jI 0), none, none] [] (hH L m) := by
  refine (S_lstore (l1 := [some (jL y0), none, some (jL y2), none, some (jI x4), some (jL y5), none, some (jL t0), none, none, none, none]) rfl at_146_7).trans ?_
  refine (S_iconst at_146_9).trans ?_
  refine (S_istore (l1 := [some (jL y0), none, some (jL y2), none, some (jI x4), some (jL y5), none, some (jL t0), none, some (jI 0), none, none]) rfl at_146_10).trans ?_
  rfl
theorem T146_12 {C : Nat → List j_V → j_H → Option j_Z} {L : j_B} {m : j_M0} {y0 : Int} {y2 : Int} {x4 : Int} {y5 : Int} {y7 : Int} {x9 : Int} {o10 : Option j_V} : j_fin C 146 12 [some (jL y0), none, some (jL y2), none, some (jI x4), some (jL y5), none, some (jL y7), none, some (jI x9), o10, none] [] (hH L m) = if x9 < 200 then if (j_cmp y7 0) = 0 then if 0 < (j_cmp y5 0) then if x4 = 0 then if y5 = 0 then none else some (some (jL (w64 (Int.tdiv y0 y5))), hH L m) else if y5 = 0 then none else some (some (jL (w64 (Int.tdiv y2 y5))), hH L m) else some (some (jL (-9223372036854775808)), hH L m) else if y7 = 0 then none else j_fin C 146 12 [some (jL y0), none, some (jL y2), none, some (jI x4), some (jL y7), none, some (jL (Int.tmod y5 y7)), none, some (jI (w32 (x9 + 1))), some (jL (Int.tmod y5 y7)), none] [] (hH L m) else if 0 < (j_cmp y5 0) then if x4 = 0 then if y5 = 0 then none else some (some (jL (w64 (Int.tdiv y0 y5))), hH L m) else if y5 = 0 then none else some (some (jL (w64 (Int.tdiv y2 y5))), hH L m) else some (some (jL (-9223372036854775808)), hH L m) := by
  refine (S_iload rfl at_146_12).trans ?_
  refine (S_sipush at_146_14).trans ?_
  refine (S_icmp_ge at_146_17).trans ?_
  refine ite_congr rfl (fun _ => ?_) (fun _ => ?_)
  · refine (S_lload rfl at_146_20).trans ?_
    refine (S_lconst at_146_22).trans ?_
    refine (S_lcmp at_146_23).trans ?_
    refine (S_if_eq at_146_24).trans ?_
    refine ite_congr rfl (fun _ => ?_) (fun _ => ?_)
    · refine (S_lload rfl at_146_48).trans ?_
      refine (S_lconst at_146_50).trans ?_
      refine (S_lcmp at_146_51).trans ?_
      refine (S_if_gt at_146_52).trans ?_
      refine ite_congr rfl (fun _ => ?_) (fun _ => ?_)
      · refine (S_iload rfl at_146_59).trans ?_
        refine (S_if_ne at_146_61).trans ?_
        refine ite_congr rfl (fun _ => ?_) (fun _ => ?_)
        · refine (S_lload_n rfl at_146_64).trans ?_
          refine (S_goto at_146_65).trans ?_
          refine (S_lload rfl at_146_69).trans ?_
          refine (S_ldiv at_146_71).trans ?_
          refine ite_congr rfl (fun _ => rfl) (fun hz => ?_)
          exact S_lret rfl at_146_72
        · refine (S_lload_n rfl at_146_68).trans ?_
          refine (S_lload rfl at_146_69).trans ?_
          refine (S_ldiv at_146_71).trans ?_
          refine ite_congr rfl (fun _ => rfl) (fun hz => ?_)
          exact S_lret rfl at_146_72
      · refine (S_ldc2_w at_146_55).trans ?_
        exact S_lret rfl at_146_58
    · refine (S_lload rfl at_146_27).trans ?_
      refine (S_lload rfl at_146_29).trans ?_
      refine (S_lrem at_146_31).trans ?_
      refine ite_congr rfl (fun _ => rfl) (fun hz => ?_)
      refine (S_lstore (l1 := [some (jL y0), none, some (jL y2), none, some (jI x4), some (jL y5), none, some (jL y7), none, some (jI x9), some (jL (Int.tmod y5 y7)), none]) rfl at_146_32).trans ?_
      refine (S_lload rfl at_146_34).trans ?_
      refine (S_lstore (l1 := [some (jL y0), none, some (jL y2), none, some (jI x4), some (jL y7), none, some (jL y7), none, some (jI x9), some (jL (Int.tmod y5 y7)), none]) rfl at_146_36).trans ?_
      refine (S_lload rfl at_146_38).trans ?_
      refine (S_lstore (l1 := [some (jL y0), none, some (jL y2), none, some (jI x4), some (jL y7), none, some (jL (Int.tmod y5 y7)), none, some (jI x9), some (jL (Int.tmod y5 y7)), none]) rfl at_146_40).trans ?_
      refine (S_iinc (l1 := [some (jL y0), none, some (jL y2), none, some (jI x4), some (jL y7), none, some (jL (Int.tmod y5 y7)), none, some (jI (w32 (x9 + 1))), some (jL (Int.tmod y5 y7)), none]) rfl rfl at_146_42).trans ?_
      refine (S_goto at_146_45).trans ?_
      rfl
  · refine (S_lload rfl at_146_48).trans ?_
    refine (S_lconst at_146_50).trans ?_
    refine (S_lcmp at_146_51).trans ?_
    refine (S_if_gt at_146_52).trans ?_
    refine ite_congr rfl (fun _ => ?_) (fun _ => ?_)
    · refine (S_iload rfl at_146_59).trans ?_
      refine (S_if_ne at_146_61).trans ?_
      refine ite_congr rfl (fun _ => ?_) (fun _ => ?_)
      · refine (S_lload_n rfl at_146_64).trans ?_
        refine (S_goto at_146_65).trans ?_
        refine (S_lload rfl at_146_69).trans ?_
        refine (S_ldiv at_146_71).trans ?_
        refine ite_congr rfl (fun _ => rfl) (fun hz => ?_)
        exact S_lret rfl at_146_72
      · refine (S_lload_n rfl at_146_68).trans ?_
        refine (S_lload rfl at_146_69).trans ?_
        refine (S_ldiv at_146_71).trans ?_
        refine ite_congr rfl (fun _ => rfl) (fun hz => ?_)
        exact S_lret rfl at_146_72
    · refine (S_ldc2_w at_146_55).trans ?_
      exact S_lret rfl at_146_58
theorem T265_0 {C : Nat → List j_V → j_H → Option j_Z} {L : j_B} {m : j_M0} {y0 : Int} {y2 : Int} : j_fin C 265 0 [some (jL y0), none, some (jL y2), none, none, none] [] (hH L m) = if y2 = 0 then none else if (j_cmp (j_lxor y0 y2) 0) < 0 then if (j_cmp (w64 ((w64 (Int.tdiv y0 y2)) * y2)) y0) = 0 then some (some (jL (w64 (Int.tdiv y0 y2))), hH L m) else some (some (jL (w64 ((w64 (Int.tdiv y0 y2)) - 1))), hH L m) else some (some (jL (w64 (Int.tdiv y0 y2))), hH L m) := by
  refine (S_lload_n rfl at_265_0).trans ?_
  refine (S_lload_n rfl at_265_1).trans ?_
  refine (S_ldiv at_265_2).trans ?_
  refine ite_congr rfl (fun _ => rfl) (fun hz => ?_)
  refine (S_lstore (l1 := [some (jL y0), none, some (jL y2), none, some (jL (w64 (Int.tdiv y0 y2))), none]) rfl at_265_3).trans ?_
  refine (S_lload_n rfl at_265_5).trans ?_
  refine (S_lload_n rfl at_265_6).trans ?_
  refine (S_lxor at_265_7).trans ?_
  refine (S_lconst at_265_8).trans ?_
  refine (S_lcmp at_265_9).trans ?_
  refine (S_if_ge at_265_10).trans ?_
  refine ite_congr rfl (fun _ => ?_) (fun _ => ?_)
  · refine (S_lload rfl at_265_13).trans ?_
    refine (S_lload_n rfl at_265_15).trans ?_
    refine (S_lmul at_265_16).trans ?_
    refine (S_lload_n rfl at_265_17).trans ?_
    refine (S_lcmp at_265_18).trans ?_
    refine (S_if_eq at_265_19).trans ?_
    refine ite_congr rfl (fun _ => ?_) (fun _ => ?_)
    · refine (S_lload rfl at_265_27).trans ?_
      exact S_lret rfl at_265_29
    · refine (S_lload rfl at_265_22).trans ?_
      refine (S_lconst at_265_24).trans ?_
      refine (S_lsub at_265_25).trans ?_
      exact S_lret rfl at_265_26
  · refine (S_lload rfl at_265_27).trans ?_
    exact S_lret rfl at_265_29
theorem T266_0 {C : Nat → List j_V → j_H → Option j_Z} {L : j_B} {m : j_M0} {y0 : Int} {y2 : Int} : j_fin C 266 0 [some (jL y0), none, some (jL y2), none, none, none] [] (hH L m) = if y2 = 0 then none else if (j_cmp (j_lxor y0 y2) 0) < 0 then if (j_cmp (Int.tmod y0 y2) 0) = 0 then some (some (jL (Int.tmod y0 y2)), hH L m) else some (some (jL (w64 ((Int.tmod y0 y2) + y2))), hH L m) else some (some (jL (Int.tmod y0 y2)), hH L m) := by
  refine (S_lload_n rfl at_266_0).trans ?_
  refine (S_lload_n rfl at_266_1).trans ?_
  refine (S_lrem at_266_2).trans ?_
  refine ite_congr rfl (fun _ => rfl) (fun hz => ?_)
  refine (S_lstore (l1 := [some (jL y0), none, some (jL y2), none, some (jL (Int.tmod y0 y2)), none]) rfl at_266_3).trans ?_
  refine (S_lload_n rfl at_266_5).trans ?_
  refine (S_lload_n rfl at_266_6).trans ?_
  refine (S_lxor at_266_7).trans ?_
  refine (S_lconst at_266_8).trans ?_
  refine (S_lcmp at_266_9).trans ?_
  refine (S_if_ge at_266_10).trans ?_
  refine ite_congr rfl (fun _ => ?_) (fun _ => ?_)
  · refine (S_lload rfl at_266_13).trans ?_
    refine (S_lconst at_266_15).trans ?_
    refine (S_lcmp at_266_16).trans ?_
    refine (S_if_eq at_266_17).trans ?_
    refine ite_congr rfl (fun _ => ?_) (fun _ => ?_)
    · refine (S_lload rfl at_266_25).trans ?_
      exact S_lret rfl at_266_27
    · refine (S_lload rfl at_266_20).trans ?_
      refine (S_lload_n rfl at_266_22).trans ?_
      refine (S_ladd at_266_23).trans ?_
      exact S_lret rfl at_266_24
  · refine (S_lload rfl at_266_25).trans ?_
    exact S_lret rfl at_266_27
theorem T267_0 {C : Nat → List j_V → j_H → Option j_Z} {L : j_B} {m : j_M0} {y0 : Int} : j_fin C 267 0 [some (jL y0), none] [] (hH L m) = if (j_cmp y0 0) < 0 then some (some (jL (w64 (-y0))), hH L m) else some (some (jL y0), hH L m) := by
  refine (S_lload_n rfl at_267_0).trans ?_
  refine (S_lconst at_267_1).trans ?_
  refine (S_lcmp at_267_2).trans ?_
  refine (S_if_ge at_267_3).trans ?_
  refine ite_congr rfl (fun _ => ?_) (fun _ => ?_)
  · refine (S_lload_n rfl at_267_6).trans ?_
    refine (S_lneg at_267_7).trans ?_
    refine (S_goto at_267_8).trans ?_
    exact S_lret rfl at_267_12
  · refine (S_lload_n rfl at_267_11).trans ?_
    exact S_lret rfl at_267_12
theorem T269_0 {C : Nat → List j_V → j_H → Option j_Z} {L : j_B} {m : j_M0} {k0 : Nat} {y1 : Int} (hk0 : k0 < 6) : j_fin C 269 0 [some (jR (102 + k0)), some (jL y1), none, none, none] [] (hH L m) = j_fin C 269 6 [some (jR (102 + k0)), some (jL y1), none, some (jI 0), some (jI 60)] [] (hH L m) := by
  refine (S_iconst at_269_0).trans ?_
  refine (S_istore_n (l1 := [some (jR (102 + k0)), some (jL y1), none, some (jI 0), none]) rfl at_269_1).trans ?_
  refine (S_aload_n rfl at_269_2).trans ?_
  refine (S_alen (kd_tp hk0) (by decide) at_269_3).trans ?_
  refine (S_istore (l1 := [some (jR (102 + k0)), some (jL y1), none, some (jI 0), some (jI 60)]) rfl at_269_4).trans ?_
  rfl
theorem T269_6 {C : Nat → List j_V → j_H → Option j_Z} {L : j_B} {m : j_M0} {k0 : Nat} {y1 : Int} {x3 : Int} {x4 : Int} (hk0 : k0 < 6) : j_fin C 269 6 [some (jR (102 + k0)), some (jL y1), none, some (jI x3), some (jI x4)] [] (hH L m) = if x3 < x4 then if 0 ≤ x3 ∧ x3 < 60 then j_fin C 269 6 [some (jR (102 + k0)), some (jL y1), none, some (jI (w32 (x3 + 1))), some (jI x4)] [] (hH L (j_up m (102 + k0) x3.toNat y1)) else none else some (none, hH L m) := by
  refine (S_iload_n rfl at_269_6).trans ?_
  refine (S_iload rfl at_269_7).trans ?_
  refine (S_icmp_ge at_269_9).trans ?_
  refine ite_congr rfl (fun _ => ?_) (fun _ => ?_)
  · refine (S_aload_n rfl at_269_12).trans ?_
    refine (S_iload_n rfl at_269_13).trans ?_
    refine (S_lload_n rfl at_269_14).trans ?_
    refine (H_lastore (by omega) (ka_tp hk0) at_269_15).trans ?_
    refine ite_congr rfl (fun hi => ?_) (fun _ => rfl)
    refine (S_iinc (l1 := [some (jR (102 + k0)), some (jL y1), none, some (jI (w32 (x3 + 1))), some (jI x4)]) rfl rfl at_269_16).trans ?_
    refine (S_goto at_269_19).trans ?_
    rfl
  · exact S_ret rfl at_269_22
theorem T270_0_13 {C : Nat → List j_V → j_H → Option j_Z} {L : j_B} {m : j_M0} {x1 : Int} : j_fin C 270 0 [some (jR 13), some (jI x1), none, none] [] (hH L m) = j_fin C 270 5 [some (jR 13), some (jI x1), some (jI 0), some (jI 8)] [] (hH L m) := by
  refine (S_iconst at_270_0).trans ?_
  refine (S_istore_n (l1 := [some (jR 13), some (jI x1), some (jI 0), none]) rfl at_270_1).trans ?_
  refine (S_aload_n rfl at_270_2).trans ?_
  refine (S_alen (kd_13 L _) (by decide) at_270_3).trans ?_
  refine (S_istore_n (l1 := [some (jR 13), some (jI x1), some (jI 0), some (jI 8)]) rfl at_270_4).trans ?_
  rfl
theorem T270_5_13 {C : Nat → List j_V → j_H → Option j_Z} {L : j_B} {m : j_M0} {x1 : Int} {x2 : Int} {x3 : Int} : j_fin C 270 5 [some (jR 13), some (jI x1), some (jI x2), some (jI x3)] [] (hH L m) = if x2 < x3 then if 0 ≤ x2 ∧ x2 < 8 then j_fin C 270 5 [some (jR 13), some (jI x1), some (jI (w32 (x2 + 1))), some (jI x3)] [] (hH L (j_up m 13 x2.toNat x1)) else none else some (none, hH L m) := by
  refine (S_iload_n rfl at_270_5).trans ?_
  refine (S_iload_n rfl at_270_6).trans ?_
  refine (S_icmp_ge at_270_7).trans ?_
  refine ite_congr rfl (fun _ => ?_) (fun _ => ?_)
  · refine (S_aload_n rfl at_270_10).trans ?_
    refine (S_iload_n rfl at_270_11).trans ?_
    refine (S_iload_n rfl at_270_12).trans ?_
    refine (H_iastore (by omega) (ka_13 L _) at_270_13).trans ?_
    refine ite_congr rfl (fun hi => ?_) (fun _ => rfl)
    refine (S_iinc (l1 := [some (jR 13), some (jI x1), some (jI (w32 (x2 + 1))), some (jI x3)]) rfl rfl at_270_14).trans ?_
    refine (S_goto at_270_17).trans ?_
    rfl
  · exact S_ret rfl at_270_20
theorem T270_0_5 {C : Nat → List j_V → j_H → Option j_Z} {L : j_B} {m : j_M0} {x1 : Int} : j_fin C 270 0 [some (jR 5), some (jI x1), none, none] [] (hH L m) = j_fin C 270 5 [some (jR 5), some (jI x1), some (jI 0), some (jI 5)] [] (hH L m) := by
  refine (S_iconst at_270_0).trans ?_
  refine (S_istore_n (l1 := [some (jR 5), some (jI x1), some (jI 0), none]) rfl at_270_1).trans ?_
  refine (S_aload_n rfl at_270_2).trans ?_
  refine (S_alen (kd_5 L _) (by decide) at_270_3).trans ?_
  refine (S_istore_n (l1 := [some (jR 5), some (jI x1), some (jI 0), some (jI 5)]) rfl at_270_4).trans ?_
  rfl
theorem T270_5_5 {C : Nat → List j_V → j_H → Option j_Z} {L : j_B} {m : j_M0} {x1 : Int} {x2 : Int} {x3 : Int} : j_fin C 270 5 [some (jR 5), some (jI x1), some (jI x2), some (jI x3)] [] (hH L m) = if x2 < x3 then if 0 ≤ x2 ∧ x2 < 5 then j_fin C 270 5 [some (jR 5), some (jI x1), some (jI (w32 (x2 + 1))), some (jI x3)] [] (hH L (j_up m 5 x2.toNat x1)) else none else some (none, hH L m) := by
  refine (S_iload_n rfl at_270_5).trans ?_
  refine (S_iload_n rfl at_270_6).trans ?_
  refine (S_icmp_ge at_270_7).trans ?_
  refine ite_congr rfl (fun _ => ?_) (fun _ => ?_)
  · refine (S_aload_n rfl at_270_10).trans ?_
    refine (S_iload_n rfl at_270_11).trans ?_
    refine (S_iload_n rfl at_270_12).trans ?_
    refine (H_iastore (by omega) (ka_5 L _) at_270_13).trans ?_
    refine ite_congr rfl (fun hi => ?_) (fun _ => rfl)
    refine (S_iinc (l1 := [some (jR 5), some (jI x1), some (jI (w32 (x2 + 1))), some (jI x3)]) rfl rfl at_270_14).trans ?_
    refine (S_goto at_270_17).trans ?_
    rfl
  · exact S_ret rfl at_270_20
