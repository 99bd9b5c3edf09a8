theorem T231_32 {C : Nat → List j_V → j_H → Option j_Z} {L : Nat} {m : j_M0} {x1 : Int} {x2 : Int} {s0 : Int} : j_fin C 231 32 [some (jR 109), some (jI x1), some (jI x2)] [jI s0] (hH L m) = some (some (jI s0), hH L m) := by
  refine (S_goto at_231_32).trans ?_
  exact S_ireti rfl at_231_37
theorem T232_0 {C : Nat → List j_V → j_H → Option j_Z} {L : Nat} {m : j_M0} {x1 : Int} {x2 : Int} : j_fin C 232 0 [some (jR 109), some (jI x1), some (jI x2)] [] (hH L m) = if x1 = (-1) then some (some (jI 0), hH L (j_up m 110 4 0)) else (C 152 [jR 109, jI x1] (hH L m)).bind fun z => j_fin C 232 19 [some (jR 109), some (jI x1), some (jI x2)] (z.1.toList ++ []) z.2 := by
  refine (S_iload_n rfl at_232_0).trans ?_
  refine (S_iconst at_232_1).trans ?_
  refine (S_icmp_ne at_232_2).trans ?_
  refine ite_congr rfl (fun _ => ?_) (fun _ => ?_)
  · refine (S_aload_n rfl at_232_5).trans ?_
    refine (S_getR (ka_109 L _) rfl (f_109_0 L _) at_232_6).trans ?_
    refine (S_iconst at_232_9).trans ?_
    refine (S_iconst at_232_10).trans ?_
    refine (H_iastore (by omega) (ka_110 L _) at_232_11).trans ?_
    refine (if_pos (by decide)).trans ?_
    refine (S_iconst at_232_12).trans ?_
    exact S_ireti rfl at_232_13
  · refine (S_aload_n rfl at_232_14).trans ?_
    refine (S_iload_n rfl at_232_15).trans ?_
    refine (S_invv (b := 1) kn_152 rfl (ka_109 L _) (Nat.le_of_ble_eq_true rfl) at_232_16).trans ?_
    rfl
theorem T232_19 {C : Nat → List j_V → j_H → Option j_Z} {L : Nat} {m : j_M0} {x1 : Int} {x2 : Int} {s0 : Int} : j_fin C 232 19 [some (jR 109), some (jI x1), some (jI x2)] [jI s0] (hH L m) = if s0 = 0 then some (some (jI (-1)), hH L m) else (C 150 [jL x2, jL 0, jL 999] (hH L m)).bind fun z => j_fin C 232 33 [some (jR 109), some (jI x1), some (jI x2)] (z.1.toList ++ []) z.2 := by
  refine (S_if_ne at_232_19).trans ?_
  refine ite_congr rfl (fun _ => ?_) (fun _ => ?_)
  · refine (S_iconst at_232_22).trans ?_
    exact S_ireti rfl at_232_23
  · refine (S_iload_n rfl at_232_24).trans ?_
    refine (S_i2l at_232_25).trans ?_
    refine (S_lconst at_232_26).trans ?_
    refine (S_ldc2_w at_232_27).trans ?_
    refine (S_invs (by decide) (Nat.le_of_ble_eq_true rfl) (Nat.le_of_ble_eq_true rfl) at_232_30).trans ?_
    rfl
theorem T232_33 {C : Nat → List j_V → j_H → Option j_Z} {L : Nat} {m : j_M0} {x1 : Int} {x2 : Int} {s0 : Int} : j_fin C 232 33 [some (jR 109), some (jI x1), some (jI x2)] [jI s0] (hH L m) = if s0 = 0 then some (some (jI (-2)), hH L m) else if (m 110 4) = 5 then some (some (jI (-4)), hH L m) else if 0 ≤ (w32 (76 + (w32 (2 * (m 110 4))))) ∧ (w32 (76 + (w32 (2 * (m 110 4))))) < 150 then if 0 ≤ (w32 ((w32 (76 + (w32 (2 * ((j_up m 110 (w32 (76 + (w32 (2 * (m 110 4))))).toNat x1) 110 4))))) + 1)) ∧ (w32 ((w32 (76 + (w32 (2 * ((j_up m 110 (w32 (76 + (w32 (2 * (m 110 4))))).toNat x1) 110 4))))) + 1)) < 150 then some (some (jI ((j_up (j_up (j_up m 110 (w32 (76 + (w32 (2 * (m 110 4))))).toNat x1) 110 (w32 ((w32 (76 + (w32 (2 * ((j_up m 110 (w32 (76 + (w32 (2 * (m 110 4))))).toNat x1) 110 4))))) + 1)).toNat x2) 110 4 (w32 (((j_up (j_up m 110 (w32 (76 + (w32 (2 * (m 110 4))))).toNat x1) 110 (w32 ((w32 (76 + (w32 (2 * ((j_up m 110 (w32 (76 + (w32 (2 * (m 110 4))))).toNat x1) 110 4))))) + 1)).toNat x2) 110 4) + 1))) 110 4)), hH L (j_up (j_up (j_up m 110 (w32 (76 + (w32 (2 * (m 110 4))))).toNat x1) 110 (w32 ((w32 (76 + (w32 (2 * ((j_up m 110 (w32 (76 + (w32 (2 * (m 110 4))))).toNat x1) 110 4))))) + 1)).toNat x2) 110 4 (w32 (((j_up (j_up m 110 (w32 (76 + (w32 (2 * (m 110 4))))).toNat x1) 110 (w32 ((w32 (76 + (w32 (2 * ((j_up m 110 (w32 (76 + (w32 (2 * (m 110 4))))).toNat x1) 110 4))))) + 1)).toNat x2) 110 4) + 1)))) else none else none := by
  refine (S_if_ne at_232_33).trans ?_
  refine ite_congr rfl (fun _ => ?_) (fun _ => ?_)
  · refine (S_bipush at_232_36).trans ?_
    exact S_ireti rfl at_232_38
  · refine (S_aload_n rfl at_232_39).trans ?_
    refine (S_getR (ka_109 L _) rfl (f_109_0 L _) at_232_40).trans ?_
    refine (S_iconst at_232_43).trans ?_
    refine (H_iaload (ka_110 L _) at_232_44).trans ?_
    refine (if_pos (by decide)).trans ?_
    refine (S_iconst at_232_45).trans ?_
    refine (S_icmp_ne at_232_46).trans ?_
    refine ite_congr rfl (fun _ => ?_) (fun _ => ?_)
    · refine (S_bipush at_232_49).trans ?_
      exact S_ireti rfl at_232_51
    · refine (S_aload_n rfl at_232_52).trans ?_
      refine (S_getR (ka_109 L _) rfl (f_109_0 L _) at_232_53).trans ?_
      refine (S_bipush at_232_56).trans ?_
      refine (S_iconst at_232_58).trans ?_
      refine (S_aload_n rfl at_232_59).trans ?_
      refine (S_getR (ka_109 L _) rfl (f_109_0 L _) at_232_60).trans ?_
      refine (S_iconst at_232_63).trans ?_
      refine (H_iaload (ka_110 L _) at_232_64).trans ?_
      refine (if_pos (by decide)).trans ?_
      refine (S_imul at_232_65).trans ?_
      refine (S_iadd at_232_66).trans ?_
      refine (S_iload_n rfl at_232_67).trans ?_
      refine (H_iastore (by omega) (ka_110 L _) at_232_68).trans ?_
      refine ite_congr rfl (fun hi => ?_) (fun _ => rfl)
      refine (S_aload_n rfl at_232_69).trans ?_
      refine (S_getR (ka_109 L _) rfl (f_109_0 L _) at_232_70).trans ?_
      refine (S_bipush at_232_73).trans ?_
      refine (S_iconst at_232_75).trans ?_
      refine (S_aload_n rfl at_232_76).trans ?_
      refine (S_getR (ka_109 L _) rfl (f_109_0 L _) at_232_77).trans ?_
      refine (S_iconst at_232_80).trans ?_
      refine (H_iaload (ka_110 L _) at_232_81).trans ?_
      refine (if_pos (by decide)).trans ?_
      refine (S_imul at_232_82).trans ?_
      refine (S_iadd at_232_83).trans ?_
      refine (S_iconst at_232_84).trans ?_
      refine (S_iadd at_232_85).trans ?_
      refine (S_iload_n rfl at_232_86).trans ?_
      refine (H_iastore (by omega) (ka_110 L _) at_232_87).trans ?_
      refine ite_congr rfl (fun hi => ?_) (fun _ => rfl)
      refine (S_aload_n rfl at_232_88).trans ?_
      refine (S_getR (ka_109 L _) rfl (f_109_0 L _) at_232_89).trans ?_
      refine (S_iconst at_232_92).trans ?_
      refine (S_dup2RI at_232_93).trans ?_
      refine (H_iaload (ka_110 L _) at_232_94).trans ?_
      refine (if_pos (by decide)).trans ?_
      refine (S_iconst at_232_95).trans ?_
      refine (S_iadd at_232_96).trans ?_
      refine (H_iastore (by omega) (ka_110 L _) at_232_97).trans ?_
      refine (if_pos (by decide)).trans ?_
      refine (S_aload_n rfl at_232_98).trans ?_
      refine (S_getR (ka_109 L _) rfl (f_109_0 L _) at_232_99).trans ?_
      refine (S_iconst at_232_102).trans ?_
      refine (H_iaload (ka_110 L _) at_232_103).trans ?_
      refine (if_pos (by decide)).trans ?_
      exact S_ireti rfl at_232_104
theorem T233_0 {C : Nat → List j_V → j_H → Option j_Z} {L : Nat} {m : j_M0} : j_fin C 233 0 [some (jR 109), none] [] (hH L m) = j_fin C 233 2 [some (jR 109), some (jI 0)] [] (hH L m) := by
  refine (S_iconst at_233_0).trans ?_
  refine (S_istore_n (l1 := [some (jR 109), some (jI 0)]) rfl at_233_1).trans ?_
  rfl
theorem T233_2 {C : Nat → List j_V → j_H → Option j_Z} {L : Nat} {m : j_M0} {x1 : Int} : j_fin C 233 2 [some (jR 109), some (jI x1)] [] (hH L m) = if x1 < (m 110 4) then if 0 ≤ (w32 (76 + (w32 (2 * x1)))) ∧ (w32 (76 + (w32 (2 * x1)))) < 150 then (C 197 [jR 109, jR 128, jI (m 110 (w32 (76 + (w32 (2 * x1)))).toNat)] (hH L m)).bind fun z => j_fin C 233 31 [some (jR 109), some (jI x1)] (z.1.toList ++ []) z.2 else none else some (some (jI 1), hH L m) := by
  refine (S_iload_n rfl at_233_2).trans ?_
  refine (S_aload_n rfl at_233_3).trans ?_
  refine (S_getR (ka_109 L _) rfl (f_109_0 L _) at_233_4).trans ?_
  refine (S_iconst at_233_7).trans ?_
  refine (H_iaload (ka_110 L _) at_233_8).trans ?_
  refine (if_pos (by decide)).trans ?_
  refine (S_icmp_ge at_233_9).trans ?_
  refine ite_congr rfl (fun _ => ?_) (fun _ => ?_)
  · refine (S_aload_n rfl at_233_12).trans ?_
    refine (S_aload_n rfl at_233_13).trans ?_
    refine (S_getR (ka_109 L _) rfl (f_109_10 L _) at_233_14).trans ?_
    refine (S_aload_n rfl at_233_17).trans ?_
    refine (S_getR (ka_109 L _) rfl (f_109_0 L _) at_233_18).trans ?_
    refine (S_bipush at_233_21).trans ?_
    refine (S_iconst at_233_23).trans ?_
    refine (S_iload_n rfl at_233_24).trans ?_
    refine (S_imul at_233_25).trans ?_
    refine (S_iadd at_233_26).trans ?_
    refine (H_iaload (ka_110 L _) at_233_27).trans ?_
    refine ite_congr rfl (fun hi => ?_) (fun _ => rfl)
    refine (S_invv (b := 2) kn_197 rfl (ka_109 L _) (Nat.le_of_ble_eq_true rfl) at_233_28).trans ?_
    rfl
  · refine (S_iconst at_233_65).trans ?_
    exact (S_iretz rfl at_233_66).trans (if_pos (by decide))
theorem T233_31 {C : Nat → List j_V → j_H → Option j_Z} {L : Nat} {m : j_M0} {x1 : Int} {t0 : Int} : j_fin C 233 31 [some (jR 109), some (jI x1)] [jL t0] (hH L m) = if 0 ≤ (w32 ((w32 (76 + (w32 (2 * x1)))) + 1)) ∧ (w32 ((w32 (76 + (w32 (2 * x1)))) + 1)) < 150 then if (j_cmp t0 (w64 ((m 110 (w32 ((w32 (76 + (w32 (2 * x1)))) + 1)).toNat) * (m 128 13)))) = 0 then j_fin C 233 2 [some (jR 109), some (jI (w32 (x1 + 1)))] [] (hH L m) else some (some (jI 0), hH L m) else none := by
  refine (S_aload_n rfl at_233_31).trans ?_
  refine (S_getR (ka_109 L _) rfl (f_109_0 L _) at_233_32).trans ?_
  refine (S_bipush at_233_35).trans ?_
  refine (S_iconst at_233_37).trans ?_
  refine (S_iload_n rfl at_233_38).trans ?_
  refine (S_imul at_233_39).trans ?_
  refine (S_iadd at_233_40).trans ?_
  refine (S_iconst at_233_41).trans ?_
  refine (S_iadd at_233_42).trans ?_
  refine (H_iaload (ka_110 L _) at_233_43).trans ?_
  refine ite_congr rfl (fun hi => ?_) (fun _ => rfl)
  refine (S_i2l at_233_44).trans ?_
  refine (S_aload_n rfl at_233_45).trans ?_
  refine (S_getR (ka_109 L _) rfl (f_109_10 L _) at_233_46).trans ?_
  refine (H_get1 (ka_128 L _) rfl at_233_49).trans ?_
  refine (S_lmul at_233_52).trans ?_
  refine (S_lcmp at_233_53).trans ?_
  refine (S_if_eq at_233_54).trans ?_
  refine ite_congr rfl (fun _ => ?_) (fun _ => ?_)
  · refine (S_iinc (l1 := [some (jR 109), some (jI (w32 (x1 + 1)))]) rfl rfl at_233_59).trans ?_
    refine (S_goto at_233_62).trans ?_
    rfl
  · refine (S_iconst at_233_57).trans ?_
    exact (S_iretz rfl at_233_58).trans (if_pos (by decide))
theorem T234_0 {C : Nat → List j_V → j_H → Option j_Z} {L : Nat} {m : j_M0} {x1 : Int} {x2 : Int} : j_fin C 234 0 [some (jR 109), some (jI x1), some (jI x2), none, none, none] [] (hH L m) = (C 153 [jR 109, jI x1] (hH L m)).bind fun z => j_fin C 234 5 [some (jR 109), some (jI x1), some (jI x2), none, none, none] (z.1.toList ++ []) z.2 := by
  refine (S_aload_n rfl at_234_0).trans ?_
  refine (S_iload_n rfl at_234_1).trans ?_
  refine (S_invv (b := 1) kn_153 rfl (ka_109 L _) (Nat.le_of_ble_eq_true rfl) at_234_2).trans ?_
  rfl
theorem T234_5 {C : Nat → List j_V → j_H → Option j_Z} {L : Nat} {m : j_M0} {x1 : Int} {x2 : Int} {s0 : Int} : j_fin C 234 5 [some (jR 109), some (jI x1), some (jI x2), none, none, none] [jI s0] (hH L m) = if s0 = 0 then some (some (jI (-1)), hH L m) else (C 150 [jL x2, jL 0, jL 1] (hH L m)).bind fun z => j_fin C 234 15 [some (jR 109), some (jI x1), some (jI x2), none, none, none] (z.1.toList ++ []) z.2 := by
  refine (S_if_eq at_234_5).trans ?_
  refine ite_congr rfl (fun _ => ?_) (fun _ => ?_)
  · refine (S_iconst at_234_18).trans ?_
    exact S_ireti rfl at_234_19
  · refine (S_iload_n rfl at_234_8).trans ?_
    refine (S_i2l at_234_9).trans ?_
    refine (S_lconst at_234_10).trans ?_
    refine (S_lconst at_234_11).trans ?_
    refine (S_invs (by decide) (Nat.le_of_ble_eq_true rfl) (Nat.le_of_ble_eq_true rfl) at_234_12).trans ?_
    rfl
theorem T234_15 {C : Nat → List j_V → j_H → Option j_Z} {L : Nat} {m : j_M0} {x1 : Int} {x2 : Int} {s0 : Int} : j_fin C 234 15 [some (jR 109), some (jI x1), some (jI x2), none, none, none] [jI s0] (hH L m) = if s0 = 0 then some (some (jI (-1)), hH L m) else j_fin C 234 30 [some (jR 109), some (jI x1), some (jI x2), some (jI 0), some (jI (-5)), some (jI 45)] [] (hH L m) := by
  refine (S_if_ne at_234_15).trans ?_
  refine ite_congr rfl (fun _ => ?_) (fun _ => ?_)
  · refine (S_iconst at_234_18).trans ?_
    exact S_ireti rfl at_234_19
  · refine (S_iconst at_234_20).trans ?_
    refine (S_istore_n (l1 := [some (jR 109), some (jI x1), some (jI x2), some (jI 0), none, none]) rfl at_234_21).trans ?_
    refine (S_bipush at_234_22).trans ?_
    refine (S_istore (l1 := [some (jR 109), some (jI x1), some (jI x2), some (jI 0), some (jI (-5)), none]) rfl at_234_24).trans ?_
    refine (S_bipush at_234_26).trans ?_
    refine (S_istore (l1 := [some (jR 109), some (jI x1), some (jI x2), some (jI 0), some (jI (-5)), some (jI 45)]) rfl at_234_28).trans ?_
    rfl
theorem T234_30 {C : Nat → List j_V → j_H → Option j_Z} {L : Nat} {m : j_M0} {x1 : Int} {x2 : Int} {x3 : Int} {x4 : Int} {x5 : Int} : j_fin C 234 30 [some (jR 109), some (jI x1), some (jI x2), some (jI x3), some (jI x4), some (jI x5)] [] (hH L m) = if x5 < 0 then if x2 = 0 then some (some (jI x3), hH L m) else some (some (jI x4), hH L m) else (C 230 [jR 109, jI x1, jI x5] (hH L m)).bind fun z => j_fin C 234 42 [some (jR 109), some (jI x1), some (jI x2), some (jI x3), some (jI x4), some (jI x5)] (z.1.toList ++ []) z.2 := by
  refine (S_iload rfl at_234_30).trans ?_
  refine (S_if_lt at_234_32).trans ?_
  refine ite_congr rfl (fun _ => ?_) (fun _ => ?_)
  · refine (S_iload_n rfl at_234_68).trans ?_
    refine (S_if_ne at_234_69).trans ?_
    refine ite_congr rfl (fun _ => ?_) (fun _ => ?_)
    · refine (S_iload_n rfl at_234_72).trans ?_
      refine (S_goto at_234_73).trans ?_
      exact S_ireti rfl at_234_78
    · refine (S_iload rfl at_234_76).trans ?_
      exact S_ireti rfl at_234_78
  · refine (S_aload_n rfl at_234_35).trans ?_
    refine (S_iload_n rfl at_234_36).trans ?_
    refine (S_iload rfl at_234_37).trans ?_
    refine (S_invv (b := 2) kn_230 rfl (ka_109 L _) (Nat.le_of_ble_eq_true rfl) at_234_39).trans ?_
    rfl
theorem T234_42 {C : Nat → List j_V → j_H → Option j_Z} {L : Nat} {m : j_M0} {x1 : Int} {x2 : Int} {x3 : Int} {x4 : Int} {x5 : Int} {s0 : Int} : j_fin C 234 42 [some (jR 109), some (jI x1), some (jI x2), some (jI x3), some (jI x4), some (jI x5)] [jI s0] (hH L m) = if s0 < 0 then j_fin C 234 30 [some (jR 109), some (jI x1), some (jI x2), some (jI x3), some (jI x4), some (jI (w32 (x5 + (-5))))] [] (hH L m) else (C 233 [jR 109] (hH L m)).bind fun z => j_fin C 234 49 [some (jR 109), some (jI x1), some (jI x2), some (jI x3), some (jI x4), some (jI x5)] (z.1.toList ++ []) z.2 := by
  refine (S_if_lt at_234_42).trans ?_
  refine ite_congr rfl (fun _ => ?_) (fun _ => ?_)
  · refine (S_iinc (l1 := [some (jR 109), some (jI x1), some (jI x2), some (jI x3), some (jI x4), some (jI (w32 (x5 + (-5))))]) rfl rfl at_234_62).trans ?_
    refine (S_goto at_234_65).trans ?_
    rfl
  · refine (S_aload_n rfl at_234_45).trans ?_
    refine (S_invv (b := 0) kn_233 rfl (ka_109 L _) (Nat.le_of_ble_eq_true rfl) at_234_46).trans ?_
    rfl
theorem T234_49 {C : Nat → List j_V → j_H → Option j_Z} {L : Nat} {m : j_M0} {x1 : Int} {x2 : Int} {x3 : Int} {x4 : Int} {x5 : Int} {s0 : Int} : j_fin C 234 49 [some (jR 109), some (jI x1), some (jI x2), some (jI x3), some (jI x4), some (jI x5)] [jI s0] (hH L m) = if s0 = 0 then j_fin C 234 30 [some (jR 109), some (jI x1), some (jI x2), some (jI x3), some (jI x4), some (jI (w32 (x5 + (-5))))] [] (hH L m) else j_fin C 234 30 [some (jR 109), some (jI x1), some (jI x2), some (jI (w32 (x3 + 1))), some (jI x5), some (jI (w32 (x5 + (-5))))] [] (hH L m) := by
  refine (S_if_ne at_234_49).trans ?_
  refine ite_congr rfl (fun _ => ?_) (fun _ => ?_)
  · refine (S_goto at_234_52).trans ?_
    refine (S_iinc (l1 := [some (jR 109), some (jI x1), some (jI x2), some (jI x3), some (jI x4), some (jI (w32 (x5 + (-5))))]) rfl rfl at_234_62).trans ?_
    refine (S_goto at_234_65).trans ?_
    rfl
  · refine (S_iinc (l1 := [some (jR 109), some (jI x1), some (jI x2), some (jI (w32 (x3 + 1))), some (jI x4), some (jI x5)]) rfl rfl at_234_55).trans ?_
    refine (S_iload rfl at_234_58).trans ?_
    refine (S_istore (l1 := [some (jR 109), some (jI x1), some (jI x2), some (jI (w32 (x3 + 1))), some (jI x5), some (jI x5)]) rfl at_234_60).trans ?_
    refine (S_iinc (l1 := [some (jR 109), some (jI x1), some (jI x2), some (jI (w32 (x3 + 1))), some (jI x5), some (jI (w32 (x5 + (-5))))]) rfl rfl at_234_62).trans ?_
    refine (S_goto at_234_65).trans ?_
    rfl
theorem T235_0 {C : Nat → List j_V → j_H → Option j_Z} {L : Nat} {m : j_M0} {x1 : Int} {x2 : Int} {x3 : Int} {x4 : Int} {x5 : Int} : j_fin C 235 0 [some (jR 109), some (jI x1), some (jI x2), some (jI x3), some (jI x4), some (jI x5), none, none] [] (hH L m) = (C 153 [jR 109, jI x1] (hH L m)).bind fun z => j_fin C 235 5 [some (jR 109), some (jI x1), some (jI x2), some (jI x3), some (jI x4), some (jI x5), none, none] (z.1.toList ++ []) z.2 := by
  refine (S_aload_n rfl at_235_0).trans ?_
  refine (S_iload_n rfl at_235_1).trans ?_
  refine (S_invv (b := 1) kn_153 rfl (ka_109 L _) (Nat.le_of_ble_eq_true rfl) at_235_2).trans ?_
  rfl
theorem T235_5 {C : Nat → List j_V → j_H → Option j_Z} {L : Nat} {m : j_M0} {x1 : Int} {x2 : Int} {x3 : Int} {x4 : Int} {x5 : Int} {s0 : Int} : j_fin C 235 5 [some (jR 109), some (jI x1), some (jI x2), some (jI x3), some (jI x4), some (jI x5), none, none] [jI s0] (hH L m) = if s0 = 0 then some (some (jL (-9223372036854775808)), hH L m) else (C 150 [jL x2, jL (-99), jL 999] (hH L m)).bind fun z => j_fin C 235 19 [some (jR 109), some (jI x1), some (jI x2), some (jI x3), some (jI x4), some (jI x5), none, none] (z.1.toList ++ []) z.2 := by
  refine (S_if_eq at_235_5).trans ?_
  refine ite_congr rfl (fun _ => ?_) (fun _ => ?_)
  · refine (S_ldc2_w at_235_56).trans ?_
    exact S_lret rfl at_235_59
  · refine (S_iload_n rfl at_235_8).trans ?_
    refine (S_i2l at_235_9).trans ?_
    refine (S_ldc2_w at_235_10).trans ?_
    refine (S_ldc2_w at_235_13).trans ?_
    refine (S_invs (by decide) (Nat.le_of_ble_eq_true rfl) (Nat.le_of_ble_eq_true rfl) at_235_16).trans ?_
    rfl
theorem T235_19 {C : Nat → List j_V → j_H → Option j_Z} {L : Nat} {m : j_M0} {x1 : Int} {x2 : Int} {x3 : Int} {x4 : Int} {x5 : Int} {s0 : Int} : j_fin C 235 19 [some (jR 109), some (jI x1), some (jI x2), some (jI x3), some (jI x4), some (jI x5), none, none] [jI s0] (hH L m) = if s0 = 0 then some (some (jL (-9223372036854775808)), hH L m) else (C 150 [jL x3, jL 1, jL 8] (hH L m)).bind fun z => j_fin C 235 31 [some (jR 109), some (jI x1), some (jI x2), some (jI x3), some (jI x4), some (jI x5), none, none] (z.1.toList ++ []) z.2 := by
  refine (S_if_eq at_235_19).trans ?_
  refine ite_congr rfl (fun _ => ?_) (fun _ => ?_)
  · refine (S_ldc2_w at_235_56).trans ?_
    exact S_lret rfl at_235_59
  · refine (S_iload_n rfl at_235_22).trans ?_
    refine (S_i2l at_235_23).trans ?_
    refine (S_lconst at_235_24).trans ?_
    refine (S_ldc2_w at_235_25).trans ?_
    refine (S_invs (by decide) (Nat.le_of_ble_eq_true rfl) (Nat.le_of_ble_eq_true rfl) at_235_28).trans ?_
    rfl
theorem T235_31 {C : Nat → List j_V → j_H → Option j_Z} {L : Nat} {m : j_M0} {x1 : Int} {x2 : Int} {x3 : Int} {x4 : Int} {x5 : Int} {s0 : Int} : j_fin C 235 31 [some (jR 109), some (jI x1), some (jI x2), some (jI x3), some (jI x4), some (jI x5), none, none] [jI s0] (hH L m) = if s0 = 0 then some (some (jL (-9223372036854775808)), hH L m) else if 1000 < (w32 (x2 + x3)) then some (some (jL (-9223372036854775808)), hH L m) else if x4 < 0 then some (some (jL (-9223372036854775808)), hH L m) else (C 196 [jI x5] (hH L m)).bind fun z => j_fin C 235 53 [some (jR 109), some (jI x1), some (jI x2), some (jI x3), some (jI x4), some (jI x5), none, none] (z.1.toList ++ []) z.2 := by
  refine (S_if_eq at_235_31).trans ?_
  refine ite_congr rfl (fun _ => ?_) (fun _ => ?_)
  · refine (S_ldc2_w at_235_56).trans ?_
    exact S_lret rfl at_235_59
  · refine (S_iload_n rfl at_235_34).trans ?_
    refine (S_iload_n rfl at_235_35).trans ?_
    refine (S_iadd at_235_36).trans ?_
    refine (S_sipush at_235_37).trans ?_
    refine (S_icmp_gt at_235_40).trans ?_
    refine ite_congr rfl (fun _ => ?_) (fun _ => ?_)
    · refine (S_ldc2_w at_235_56).trans ?_
      exact S_lret rfl at_235_59
    · refine (S_iload rfl at_235_43).trans ?_
      refine (S_if_lt at_235_45).trans ?_
      refine ite_congr rfl (fun _ => ?_) (fun _ => ?_)
      · refine (S_ldc2_w at_235_56).trans ?_
        exact S_lret rfl at_235_59
      · refine (S_iload rfl at_235_48).trans ?_
        refine (S_invs (by decide) (Nat.le_of_ble_eq_true rfl) (Nat.le_of_ble_eq_true rfl) at_235_50).trans ?_
        rfl
theorem T235_53 {C : Nat → List j_V → j_H → Option j_Z} {L : Nat} {m : j_M0} {x1 : Int} {x2 : Int} {x3 : Int} {x4 : Int} {x5 : Int} {s0 : Int} : j_fin C 235 53 [some (jR 109), some (jI x1), some (jI x2), some (jI x3), some (jI x4), some (jI x5), none, none] [jI s0] (hH L m) = if s0 = 0 then some (some (jL (-9223372036854775808)), hH L m) else j_fin C 235 66 [some (jR 109), some (jI x1), some (jI x2), some (jI x3), some (jI x4), some (jI x5), some (jI 0), some (jI 0)] [] (hH L m) := by
  refine (S_if_ne at_235_53).trans ?_
  refine ite_congr rfl (fun _ => ?_) (fun _ => ?_)
  · refine (S_ldc2_w at_235_56).trans ?_
    exact S_lret rfl at_235_59
  · refine (S_iconst at_235_60).trans ?_
    refine (S_istore (l1 := [some (jR 109), some (jI x1), some (jI x2), some (jI x3), some (jI x4), some (jI x5), some (jI 0), none]) rfl at_235_61).trans ?_
    refine (S_iconst at_235_63).trans ?_
    refine (S_istore (l1 := [some (jR 109), some (jI x1), some (jI x2), some (jI x3), some (jI x4), some (jI x5), some (jI 0), some (jI 0)]) rfl at_235_64).trans ?_
    rfl
theorem T235_66 {C : Nat → List j_V → j_H → Option j_Z} {L : Nat} {m : j_M0} {x1 : Int} {x2 : Int} {x3 : Int} {x4 : Int} {x5 : Int} {x6 : Int} {x7 : Int} : j_fin C 235 66 [some (jR 109), some (jI x1), some (jI x2), some (jI x3), some (jI x4), some (jI x5), some (jI x6), some (jI x7)] [] (hH L m) = if x7 < x3 then (C 230 [jR 109, jI x1, jI (w32 (x2 + x7))] (hH L m)).bind fun z => j_fin C 235 83 [some (jR 109), some (jI x1), some (jI x2), some (jI x3), some (jI x4), some (jI x5), some (jI x6), some (jI x7)] (z.1.toList ++ [jI x6]) z.2 else (C 195 [jL x6, jL x3, jI x5] (hH L m)).bind fun z => j_fin C 235 118 [some (jR 109), some (jI x1), some (jI x2), some (jI x3), some (jI x4), some (jI x5), some (jI x6), some (jI x7)] (z.1.toList ++ []) z.2 := by
  refine (S_iload rfl at_235_66).trans ?_
  refine (S_iload_n rfl at_235_68).trans ?_
  refine (S_icmp_ge at_235_69).trans ?_
  refine ite_congr rfl (fun _ => ?_) (fun _ => ?_)
  · refine (S_iload rfl at_235_72).trans ?_
    refine (S_aload_n rfl at_235_74).trans ?_
    refine (S_iload_n rfl at_235_75).trans ?_
    refine (S_iload_n rfl at_235_76).trans ?_
    refine (S_iload rfl at_235_77).trans ?_
    refine (S_iadd at_235_79).trans ?_
    refine (S_invv (b := 2) kn_230 rfl (ka_109 L _) (Nat.le_of_ble_eq_true rfl) at_235_80).trans ?_
    rfl
  · refine (S_iload rfl at_235_108).trans ?_
    refine (S_i2l at_235_110).trans ?_
    refine (S_iload_n rfl at_235_111).trans ?_
    refine (S_i2l at_235_112).trans ?_
    refine (S_iload rfl at_235_113).trans ?_
    refine (S_invs (by decide) (Nat.le_of_ble_eq_true rfl) (Nat.le_of_ble_eq_true rfl) at_235_115).trans ?_
    rfl
theorem T235_83 {C : Nat → List j_V → j_H → Option j_Z} {L : Nat} {m : j_M0} {x1 : Int} {x2 : Int} {x3 : Int} {x4 : Int} {x5 : Int} {x6 : Int} {x7 : Int} {s0 : Int} {s1 : Int} : j_fin C 235 83 [some (jR 109), some (jI x1), some (jI x2), some (jI x3), some (jI x4), some (jI x5), some (jI x6), some (jI x7)] [jI s1, jI s0] (hH L m) = (C 150 [jL s1, jL 0, jL x4] (hH L m)).bind fun z => j_fin C 235 91 [some (jR 109), some (jI x1), some (jI x2), some (jI x3), some (jI x4), some (jI x5), some (jI x6), some (jI x7)] (z.1.toList ++ [jI s0]) z.2 := by
  refine (S_i2l at_235_83).trans ?_
  refine (S_lconst at_235_84).trans ?_
  refine (S_iload rfl at_235_85).trans ?_
  refine (S_i2l at_235_87).trans ?_
  refine (S_invs (by decide) (Nat.le_of_ble_eq_true rfl) (Nat.le_of_ble_eq_true rfl) at_235_88).trans ?_
  rfl
theorem T235_91 {C : Nat → List j_V → j_H → Option j_Z} {L : Nat} {m : j_M0} {x1 : Int} {x2 : Int} {x3 : Int} {x4 : Int} {x5 : Int} {x6 : Int} {x7 : Int} {s0 : Int} {s1 : Int} : j_fin C 235 91 [some (jR 109), some (jI x1), some (jI x2), some (jI x3), some (jI x4), some (jI x5), some (jI x6), some (jI x7)] [jI s1, jI s0] (hH L m) = if s1 = 0 then j_fin C 235 66 [some (jR 109), some (jI x1), some (jI x2), some (jI x3), some (jI x4), some (jI x5), some (jI (w32 (s0 + 0))), some (jI (w32 (x7 + 1)))] [] (hH L m) else j_fin C 235 66 [some (jR 109), some (jI x1), some (jI x2), some (jI x3), some (jI x4), some (jI x5), some (jI (w32 (s0 + 1))), some (jI (w32 (x7 + 1)))] [] (hH L m) := by
  refine (S_if_eq at_235_91).trans ?_
  refine ite_congr rfl (fun _ => ?_) (fun _ => ?_)
  · refine (S_iconst at_235_98).trans ?_
    refine (S_iadd at_235_99).trans ?_
    refine (S_istore (l1 := [some (jR 109), some (jI x1), some (jI x2), some (jI x3), some (jI x4), some (jI x5), some (jI (w32 (s0 + 0))), some (jI x7)]) rfl at_235_100).trans ?_
    refine (S_iinc (l1 := [some (jR 109), some (jI x1), some (jI x2), some (jI x3), some (jI x4), some (jI x5), some (jI (w32 (s0 + 0))), some (jI (w32 (x7 + 1)))]) rfl rfl at_235_102).trans ?_
    refine (S_goto at_235_105).trans ?_
    rfl
  · refine (S_iconst at_235_94).trans ?_
    refine (S_goto at_235_95).trans ?_
    refine (S_iadd at_235_99).trans ?_
    refine (S_istore (l1 := [some (jR 109), some (jI x1), some (jI x2), some (jI x3), some (jI x4), some (jI x5), some (jI (w32 (s0 + 1))), some (jI x7)]) rfl at_235_100).trans ?_
    refine (S_iinc (l1 := [some (jR 109), some (jI x1), some (jI x2), some (jI x3), some (jI x4), some (jI x5), some (jI (w32 (s0 + 1))), some (jI (w32 (x7 + 1)))]) rfl rfl at_235_102).trans ?_
    refine (S_goto at_235_105).trans ?_
    rfl
theorem T235_118 {C : Nat → List j_V → j_H → Option j_Z} {L : Nat} {m : j_M0} {x1 : Int} {x2 : Int} {x3 : Int} {x4 : Int} {x5 : Int} {x6 : Int} {x7 : Int} {t0 : Int} : j_fin C 235 118 [some (jR 109), some (jI x1), some (jI x2), some (jI x3), some (jI x4), some (jI x5), some (jI x6), some (jI x7)] [jL t0] (hH L m) = some (some (jL t0), hH L m) := by
  exact S_lret rfl at_235_118
theorem T236_0 {C : Nat → List j_V → j_H → Option j_Z} {L : Nat} {m : j_M0} {x1 : Int} : j_fin C 236 0 [some (jR 109), some (jI x1), none, none] [] (hH L m) = (C 196 [jI x1] (hH L m)).bind fun z => j_fin C 236 4 [some (jR 109), some (jI x1), none, none] (z.1.toList ++ []) z.2 := by
  refine (S_iload_n rfl at_236_0).trans ?_
  refine (S_invs (by decide) (Nat.le_of_ble_eq_true rfl) (Nat.le_of_ble_eq_true rfl) at_236_1).trans ?_
  rfl
theorem T236_4 {C : Nat → List j_V → j_H → Option j_Z} {L : Nat} {m : j_M0} {x1 : Int} {s0 : Int} : j_fin C 236 4 [some (jR 109), some (jI x1), none, none] [jI s0] (hH L m) = if s0 = 0 then some (some (jL (-9223372036854775808)), hH L m) else j_fin C 236 15 [some (jR 109), some (jI x1), some (jI 0), some (jI 0)] [] (hH L m) := by
  refine (S_if_ne at_236_4).trans ?_
  refine ite_congr rfl (fun _ => ?_) (fun _ => ?_)
  · refine (S_ldc2_w at_236_7).trans ?_
    exact S_lret rfl at_236_10
  · refine (S_iconst at_236_11).trans ?_
    refine (S_istore_n (l1 := [some (jR 109), some (jI x1), some (jI 0), none]) rfl at_236_12).trans ?_
    refine (S_iconst at_236_13).trans ?_
    refine (S_istore_n (l1 := [some (jR 109), some (jI x1), some (jI 0), some (jI 0)]) rfl at_236_14).trans ?_
    rfl
theorem T236_15 {C : Nat → List j_V → j_H → Option j_Z} {L : Nat} {m : j_M0} {x1 : Int} {x2 : Int} {x3 : Int} : j_fin C 236 15 [some (jR 109), some (jI x1), some (jI x2), some (jI x3)] [] (hH L m) = (C 151 [jR 109] (hH L m)).bind fun z => j_fin C 236 20 [some (jR 109), some (jI x1), some (jI x2), some (jI x3)] (z.1.toList ++ [jI x3]) z.2 := by
  refine (S_iload_n rfl at_236_15).trans ?_
  refine (S_aload_n rfl at_236_16).trans ?_
  refine (S_invv (b := 0) kn_151 rfl (ka_109 L _) (Nat.le_of_ble_eq_true rfl) at_236_17).trans ?_
  rfl
theorem T236_20 {C : Nat → List j_V → j_H → Option j_Z} {L : Nat} {m : j_M0} {x1 : Int} {x2 : Int} {x3 : Int} {s0 : Int} {s1 : Int} : j_fin C 236 20 [some (jR 109), some (jI x1), some (jI x2), some (jI x3)] [jI s1, jI s0] (hH L m) = if s0 < s1 then if 0 ≤ (w32 (7 + x3)) ∧ (w32 (7 + x3)) < 150 then j_fin C 236 15 [some (jR 109), some (jI x1), some (jI (w32 (x2 + (m 110 (w32 (7 + x3)).toNat)))), some (jI (w32 (x3 + 1)))] [] (hH L m) else none else (C 151 [jR 109] (hH L m)).bind fun z => j_fin C 236 47 [some (jR 109), some (jI x1), some (jI x2), some (jI x3)] (z.1.toList ++ [jL x2]) z.2 := by
  refine (S_icmp_ge at_236_20).trans ?_
  refine ite_congr rfl (fun _ => ?_) (fun _ => ?_)
  · refine (S_iload_n rfl at_236_23).trans ?_
    refine (S_aload_n rfl at_236_24).trans ?_
    refine (S_getR (ka_109 L _) rfl (f_109_0 L _) at_236_25).trans ?_
    refine (S_bipush at_236_28).trans ?_
    refine (S_iload_n rfl at_236_30).trans ?_
    refine (S_iadd at_236_31).trans ?_
    refine (H_iaload (ka_110 L _) at_236_32).trans ?_
    refine ite_congr rfl (fun hi => ?_) (fun _ => rfl)
    refine (S_iadd at_236_33).trans ?_
    refine (S_istore_n (l1 := [some (jR 109), some (jI x1), some (jI (w32 (x2 + (m 110 (w32 (7 + x3)).toNat)))), some (jI x3)]) rfl at_236_34).trans ?_
    refine (S_iinc (l1 := [some (jR 109), some (jI x1), some (jI (w32 (x2 + (m 110 (w32 (7 + x3)).toNat)))), some (jI (w32 (x3 + 1)))]) rfl rfl at_236_35).trans ?_
    refine (S_goto at_236_38).trans ?_
    rfl
  · refine (S_iload_n rfl at_236_41).trans ?_
    refine (S_i2l at_236_42).trans ?_
    refine (S_aload_n rfl at_236_43).trans ?_
    refine (S_invv (b := 0) kn_151 rfl (ka_109 L _) (Nat.le_of_ble_eq_true rfl) at_236_44).trans ?_
    rfl
theorem T236_47 {C : Nat → List j_V → j_H → Option j_Z} {L : Nat} {m : j_M0} {x1 : Int} {x2 : Int} {x3 : Int} {t0 : Int} {s1 : Int} : j_fin C 236 47 [some (jR 109), some (jI x1), some (jI x2), some (jI x3)] [jI s1, jL t0] (hH L m) = (C 195 [jL t0, jL s1, jI x1] (hH L m)).bind fun z => j_fin C 236 52 [some (jR 109), some (jI x1), some (jI x2), some (jI x3)] (z.1.toList ++ []) z.2 := by
  refine (S_i2l at_236_47).trans ?_
  refine (S_iload_n rfl at_236_48).trans ?_
  refine (S_invs (by decide) (Nat.le_of_ble_eq_true rfl) (Nat.le_of_ble_eq_true rfl) at_236_49).trans ?_
  rfl
theorem T236_52 {C : Nat → List j_V → j_H → Option j_Z} {L : Nat} {m : j_M0} {x1 : Int} {x2 : Int} {x3 : Int} {t0 : Int} : j_fin C 236 52 [some (jR 109), some (jI x1), some (jI x2), some (jI x3)] [jL t0] (hH L m) = some (some (jL t0), hH L m) := by
  exact S_lret rfl at_236_52
theorem T237_0 {C : Nat → List j_V → j_H → Option j_Z} {L : Nat} {m : j_M0} : j_fin C 237 0 [some (jR 109), none] [] (hH L m) = j_fin C 237 2 [some (jR 109), some (jI 0)] [] (hH L m) := by
  refine (S_iconst at_237_0).trans ?_
  refine (S_istore_n (l1 := [some (jR 109), some (jI 0)]) rfl at_237_1).trans ?_
  rfl
theorem T237_2 {C : Nat → List j_V → j_H → Option j_Z} {L : Nat} {m : j_M0} {x1 : Int} : j_fin C 237 2 [some (jR 109), some (jI x1)] [] (hH L m) = if x1 < 150 then if 0 ≤ x1 ∧ x1 < 150 then if 0 ≤ x1 ∧ x1 < 150 then j_fin C 237 2 [some (jR 109), some (jI (w32 (x1 + 1)))] [] (hH L (j_up m 112 x1.toNat (m 110 x1.toNat))) else none else none else some (none, hH L m) := by
  refine (S_iload_n rfl at_237_2).trans ?_
  refine (S_sipush at_237_3).trans ?_
  refine (S_icmp_ge at_237_6).trans ?_
  refine ite_congr rfl (fun _ => ?_) (fun _ => ?_)
  · refine (S_aload_n rfl at_237_9).trans ?_
    refine (S_getR (ka_109 L _) rfl (f_109_2 L _) at_237_10).trans ?_
    refine (S_iload_n rfl at_237_13).trans ?_
    refine (S_aload_n rfl at_237_14).trans ?_
    refine (S_getR (ka_109 L _) rfl (f_109_0 L _) at_237_15).trans ?_
    refine (S_iload_n rfl at_237_18).trans ?_
    refine (H_iaload (ka_110 L _) at_237_19).trans ?_
    refine ite_congr rfl (fun hi => ?_) (fun _ => rfl)
    refine (H_iastore (by omega) (ka_112 L _) at_237_20).trans ?_
    refine ite_congr rfl (fun hi => ?_) (fun _ => rfl)
    refine (S_iinc (l1 := [some (jR 109), some (jI (w32 (x1 + 1)))]) rfl rfl at_237_21).trans ?_
    refine (S_goto at_237_24).trans ?_
    rfl
  · exact S_ret rfl at_237_27
theorem T238_0 {C : Nat → List j_V → j_H → Option j_Z} {L : Nat} {m : j_M0} : j_fin C 238 0 [some (jR 109), none] [] (hH L m) = j_fin C 238 2 [some (jR 109), some (jI 0)] [] (hH L m) := by
  refine (S_iconst at_238_0).trans ?_
  refine (S_istore_n (l1 := [some (jR 109), some (jI 0)]) rfl at_238_1).trans ?_
  rfl
theorem T238_2 {C : Nat → List j_V → j_H → Option j_Z} {L : Nat} {m : j_M0} {x1 : Int} : j_fin C 238 2 [some (jR 109), some (jI x1)] [] (hH L m) = if x1 < 150 then if 0 ≤ x1 ∧ x1 < 150 then if 0 ≤ x1 ∧ x1 < 150 then j_fin C 238 2 [some (jR 109), some (jI (w32 (x1 + 1)))] [] (hH L (j_up m 110 x1.toNat (m 112 x1.toNat))) else none else none else some (none, hH L m) := by
  refine (S_iload_n rfl at_238_2).trans ?_
  refine (S_sipush at_238_3).trans ?_
  refine (S_icmp_ge at_238_6).trans ?_
  refine ite_congr rfl (fun _ => ?_) (fun _ => ?_)
  · refine (S_aload_n rfl at_238_9).trans ?_
    refine (S_getR (ka_109 L _) rfl (f_109_0 L _) at_238_10).trans ?_
    refine (S_iload_n rfl at_238_13).trans ?_
    refine (S_aload_n rfl at_238_14).trans ?_
    refine (S_getR (ka_109 L _) rfl (f_109_2 L _) at_238_15).trans ?_
    refine (S_iload_n rfl at_238_18).trans ?_
    refine (H_iaload (ka_112 L _) at_238_19).trans ?_
    refine ite_congr rfl (fun hi => ?_) (fun _ => rfl)
    refine (H_iastore (by omega) (ka_110 L _) at_238_20).trans ?_
    refine ite_congr rfl (fun hi => ?_) (fun _ => rfl)
    refine (S_iinc (l1 := [some (jR 109), some (jI (w32 (x1 + 1)))]) rfl rfl at_238_21).trans ?_
    refine (S_goto at_238_24).trans ?_
    rfl
  · exact S_ret rfl at_238_27
theorem T239_0 {C : Nat → List j_V → j_H → Option j_Z} {L : Nat} {m : j_M0} {x1 : Int} : j_fin C 239 0 [some (jR 109), some (jI x1)] [] (hH L m) = if x1 = 0 then none else some (some (jI (Int.tmod (j_ushr ((j_up m 109 24 (w32 ((w32 ((m 109 24) * 1103515245)) + 12345))) 109 24) 9) x1)), hH L (j_up m 109 24 (w32 ((w32 ((m 109 24) * 1103515245)) + 12345)))) := by
  refine (S_aload_n rfl at_239_0).trans ?_
  refine (S_aload_n rfl at_239_1).trans ?_
  refine (H_get0 (ka_109 L _) rfl at_239_2).trans ?_
  refine (S_ldc_w at_239_5).trans ?_
  refine (S_imul at_239_8).trans ?_
  refine (S_sipush at_239_9).trans ?_
  refine (S_iadd at_239_12).trans ?_
  refine (H_put0 (ka_109 L _) rfl at_239_13).trans ?_
  refine (S_aload_n rfl at_239_16).trans ?_
  refine (H_get0 (ka_109 L _) rfl at_239_17).trans ?_
  refine (S_bipush at_239_20).trans ?_
  refine (S_iushr at_239_22).trans ?_
  refine (S_iload_n rfl at_239_23).trans ?_
  refine (S_irem at_239_24).trans ?_
  refine ite_congr rfl (fun _ => rfl) (fun hz => ?_)
  exact S_ireti rfl at_239_25
theorem T240_0 {C : Nat → List j_V → j_H → Option j_Z} {L : Nat} {m : j_M0} {x1 : Int} {x2 : Int} : j_fin C 240 0 [some (jR 109), some (jI x1), some (jI x2), none, none] [] (hH L m) = (C 150 [jL x2, jL 1, jL 4] (hH L m)).bind fun z => j_fin C 240 9 [some (jR 109), some (jI x1), some (jI x2), none, none] (z.1.toList ++ []) z.2 := by
  refine (S_iload_n rfl at_240_0).trans ?_
  refine (S_i2l at_240_1).trans ?_
  refine (S_lconst at_240_2).trans ?_
  refine (S_ldc2_w at_240_3).trans ?_
  refine (S_invs (by decide) (Nat.le_of_ble_eq_true rfl) (Nat.le_of_ble_eq_true rfl) at_240_6).trans ?_
  rfl
theorem T240_9 {C : Nat → List j_V → j_H → Option j_Z} {L : Nat} {m : j_M0} {x1 : Int} {x2 : Int} {s0 : Int} : j_fin C 240 9 [some (jR 109), some (jI x1), some (jI x2), none, none] [jI s0] (hH L m) = if s0 = 0 then some (some (jI (-2)), hH L m) else (C 237 [jR 109] (hH L m)).bind fun z => j_fin C 240 19 [some (jR 109), some (jI x1), some (jI x2), none, none] (z.1.toList ++ []) z.2 := by
  refine (S_if_ne at_240_9).trans ?_
  refine ite_congr rfl (fun _ => ?_) (fun _ => ?_)
  · refine (S_bipush at_240_12).trans ?_
    exact S_ireti rfl at_240_14
  · refine (S_aload_n rfl at_240_15).trans ?_
    refine (S_invv (b := 0) kn_237 rfl (ka_109 L _) (Nat.le_of_ble_eq_true rfl) at_240_16).trans ?_
    rfl
theorem T240_19 {C : Nat → List j_V → j_H → Option j_Z} {L : Nat} {m : j_M0} {x1 : Int} {x2 : Int} : j_fin C 240 19 [some (jR 109), some (jI x1), some (jI x2), none, none] [] (hH L m) = j_fin C 240 33 [some (jR 109), some (jI x1), some (jI x2), some (jI 0), none] [] (hH L (j_up (j_up m 109 24 x1) 110 1 x2)) := by
  refine (S_aload_n rfl at_240_19).trans ?_
  refine (S_iload_n rfl at_240_20).trans ?_
  refine (H_put0 (ka_109 L _) rfl at_240_21).trans ?_
  refine (S_aload_n rfl at_240_24).trans ?_
  refine (S_getR (ka_109 L _) rfl (f_109_0 L _) at_240_25).trans ?_
  refine (S_iconst at_240_28).trans ?_
  refine (S_iload_n rfl at_240_29).trans ?_
  refine (H_iastore (by omega) (ka_110 L _) at_240_30).trans ?_
  refine (if_pos (by decide)).trans ?_
  refine (S_iconst at_240_31).trans ?_
  refine (S_istore_n (l1 := [some (jR 109), some (jI x1), some (jI x2), some (jI 0), none]) rfl at_240_32).trans ?_
  rfl
theorem T240_33 {C : Nat → List j_V → j_H → Option j_Z} {L : Nat} {m : j_M0} {x1 : Int} {x2 : Int} {x3 : Int} {o4 : Option j_V} : j_fin C 240 33 [some (jR 109), some (jI x1), some (jI x2), some (jI x3), o4] [] (hH L m) = if x3 < x2 then if 0 ≤ (w32 (12 + (w32 (7 * x3)))) ∧ (w32 (12 + (w32 (7 * x3)))) < 150 then j_fin C 240 54 [some (jR 109), some (jI x1), some (jI x2), some (jI x3), some (jI 0)] [] (hH L (j_up m 110 (w32 (12 + (w32 (7 * x3)))).toNat 0)) else none else (C 192 [jR 109] (hH L m)).bind fun z => j_fin C 240 122 [some (jR 109), some (jI x1), some (jI x2), some (jI x3), o4] (z.1.toList ++ []) z.2 := by
  refine (S_iload_n rfl at_240_33).trans ?_
  refine (S_iload_n rfl at_240_34).trans ?_
  refine (S_icmp_ge at_240_35).trans ?_
  refine ite_congr rfl (fun _ => ?_) (fun _ => ?_)
  · refine (S_aload_n rfl at_240_38).trans ?_
    refine (S_getR (ka_109 L _) rfl (f_109_0 L _) at_240_39).trans ?_
    refine (S_bipush at_240_42).trans ?_
    refine (S_bipush at_240_44).trans ?_
    refine (S_iload_n rfl at_240_46).trans ?_
    refine (S_imul at_240_47).trans ?_
    refine (S_iadd at_240_48).trans ?_
    refine (S_iconst at_240_49).trans ?_
    refine (H_iastore (by omega) (ka_110 L _) at_240_50).trans ?_
    refine ite_congr rfl (fun hi => ?_) (fun _ => rfl)
    refine (S_iconst at_240_51).trans ?_
    refine (S_istore (l1 := [some (jR 109), some (jI x1), some (jI x2), some (jI x3), some (jI 0)]) rfl at_240_52).trans ?_
    rfl
  · refine (S_aload_n rfl at_240_118).trans ?_
    refine (S_invv (b := 0) kn_192 rfl (ka_109 L _) (Nat.le_of_ble_eq_true rfl) at_240_119).trans ?_
    rfl
theorem T240_54 {C : Nat → List j_V → j_H → Option j_Z} {L : Nat} {m : j_M0} {x1 : Int} {x2 : Int} {x3 : Int} {x4 : Int} : j_fin C 240 54 [some (jR 109), some (jI x1), some (jI x2), some (jI x3), some (jI x4)] [] (hH L m) = (C 151 [jR 109] (hH L m)).bind fun z => j_fin C 240 60 [some (jR 109), some (jI x1), some (jI x2), some (jI x3), some (jI x4)] (z.1.toList ++ [jI x4]) z.2 := by
  refine (S_iload rfl at_240_54).trans ?_
  refine (S_aload_n rfl at_240_56).trans ?_
  refine (S_invv (b := 0) kn_151 rfl (ka_109 L _) (Nat.le_of_ble_eq_true rfl) at_240_57).trans ?_
  rfl
theorem T240_60 {C : Nat → List j_V → j_H → Option j_Z} {L : Nat} {m : j_M0} {x1 : Int} {x2 : Int} {x3 : Int} {x4 : Int} {s0 : Int} {s1 : Int} : j_fin C 240 60 [some (jR 109), some (jI x1), some (jI x2), some (jI x3), some (jI x4)] [jI s1, jI s0] (hH L m) = if s0 < s1 then (C 239 [jR 109, jI 10] (hH L m)).bind fun z => j_fin C 240 85 [some (jR 109), some (jI x1), some (jI x2), some (jI x3), some (jI x4)] (z.1.toList ++ [jI (w32 ((w32 ((w32 (12 + (w32 (7 * x3)))) + 2)) + x4)), jR 110]) z.2 else (C 239 [jR 109, jI 60] (hH L m)).bind fun z => j_fin C 240 111 [some (jR 109), some (jI x1), some (jI x2), some (jI x3), some (jI x4)] (z.1.toList ++ [jI (w32 ((w32 (12 + (w32 (7 * x3)))) + 1)), jR 110]) z.2 := by
  refine (S_icmp_ge at_240_60).trans ?_
  refine ite_congr rfl (fun _ => ?_) (fun _ => ?_)
  · refine (S_aload_n rfl at_240_63).trans ?_
    refine (S_getR (ka_109 L _) rfl (f_109_0 L _) at_240_64).trans ?_
    refine (S_bipush at_240_67).trans ?_
    refine (S_bipush at_240_69).trans ?_
    refine (S_iload_n rfl at_240_71).trans ?_
    refine (S_imul at_240_72).trans ?_
    refine (S_iadd at_240_73).trans ?_
    refine (S_iconst at_240_74).trans ?_
    refine (S_iadd at_240_75).trans ?_
    refine (S_iload rfl at_240_76).trans ?_
    refine (S_iadd at_240_78).trans ?_
    refine (S_aload_n rfl at_240_79).trans ?_
    refine (S_bipush at_240_80).trans ?_
    refine (S_invv (b := 1) kn_239 rfl (ka_109 L _) (Nat.le_of_ble_eq_true rfl) at_240_82).trans ?_
    rfl
  · refine (S_aload_n rfl at_240_92).trans ?_
    refine (S_getR (ka_109 L _) rfl (f_109_0 L _) at_240_93).trans ?_
    refine (S_bipush at_240_96).trans ?_
    refine (S_bipush at_240_98).trans ?_
    refine (S_iload_n rfl at_240_100).trans ?_
    refine (S_imul at_240_101).trans ?_
    refine (S_iadd at_240_102).trans ?_
    refine (S_iconst at_240_103).trans ?_
    refine (S_iadd at_240_104).trans ?_
    refine (S_aload_n rfl at_240_105).trans ?_
    refine (S_bipush at_240_106).trans ?_
    refine (S_invv (b := 1) kn_239 rfl (ka_109 L _) (Nat.le_of_ble_eq_true rfl) at_240_108).trans ?_
    rfl
theorem T240_85 {C : Nat → List j_V → j_H → Option j_Z} {L : Nat} {m : j_M0} {x1 : Int} {x2 : Int} {x3 : Int} {x4 : Int} {s1 : Int} {s2 : Int} : j_fin C 240 85 [some (jR 109), some (jI x1), some (jI x2), some (jI x3), some (jI x4)] [jI s2, jI s1, jR 110] (hH L m) = if 0 ≤ s1 ∧ s1 < 150 then j_fin C 240 54 [some (jR 109), some (jI x1), some (jI x2), some (jI x3), some (jI (w32 (x4 + 1)))] [] (hH L (j_up m 110 s1.toNat s2)) else none := by
  refine (H_iastore (by omega) (ka_110 L _) at_240_85).trans ?_
  refine ite_congr rfl (fun hi => ?_) (fun _ => rfl)
  refine (S_iinc (l1 := [some (jR 109), some (jI x1), some (jI x2), some (jI x3), some (jI (w32 (x4 + 1)))]) rfl rfl at_240_86).trans ?_
  refine (S_goto at_240_89).trans ?_
  rfl
theorem T240_111 {C : Nat → List j_V → j_H → Option j_Z} {L : Nat} {m : j_M0} {x1 : Int} {x2 : Int} {x3 : Int} {x4 : Int} {s1 : Int} {s2 : Int} : j_fin C 240 111 [some (jR 109), some (jI x1), some (jI x2), some (jI x3), some (jI x4)] [jI s2, jI s1, jR 110] (hH L m) = if 0 ≤ s1 ∧ s1 < 150 then j_fin C 240 33 [some (jR 109), some (jI x1), some (jI x2), some (jI (w32 (x3 + 1))), some (jI x4)] [] (hH L (j_up m 110 s1.toNat s2)) else none := by
  refine (H_iastore (by omega) (ka_110 L _) at_240_111).trans ?_
  refine ite_congr rfl (fun hi => ?_) (fun _ => rfl)
  refine (S_iinc (l1 := [some (jR 109), some (jI x1), some (jI x2), some (jI (w32 (x3 + 1))), some (jI x4)]) rfl rfl at_240_112).trans ?_
  refine (S_goto at_240_115).trans ?_
  rfl
theorem T240_122 {C : Nat → List j_V → j_H → Option j_Z} {L : Nat} {m : j_M0} {x1 : Int} {x2 : Int} {x3 : Int} {o4 : Option j_V} {s0 : Int} : j_fin C 240 122 [some (jR 109), some (jI x1), some (jI x2), some (jI x3), o4] [jI s0] (hH L m) = (C 238 [jR 109] (hH L m)).bind fun z => j_fin C 240 127 [some (jR 109), some (jI x1), some (jI x2), some (jI s0), o4] (z.1.toList ++ []) z.2 := by
  refine (S_istore_n (l1 := [some (jR 109), some (jI x1), some (jI x2), some (jI s0), o4]) rfl at_240_122).trans ?_
  refine (S_aload_n rfl at_240_123).trans ?_
  refine (S_invv (b := 0) kn_238 rfl (ka_109 L _) (Nat.le_of_ble_eq_true rfl) at_240_124).trans ?_
  rfl
theorem T240_127 {C : Nat → List j_V → j_H → Option j_Z} {L : Nat} {m : j_M0} {x1 : Int} {x2 : Int} {x3 : Int} {o4 : Option j_V} : j_fin C 240 127 [some (jR 109), some (jI x1), some (jI x2), some (jI x3), o4] [] (hH L m) = some (some (jI x3), hH L m) := by
  refine (S_iload_n rfl at_240_127).trans ?_
  exact S_ireti rfl at_240_128
theorem T241_0 {C : Nat → List j_V → j_H → Option j_Z} {L : Nat} {m : j_M0} {x1 : Int} : j_fin C 241 0 [some (jR 109), some (jI x1), none] [] (hH L m) = j_fin C 241 2 [some (jR 109), some (jI x1), some (jI 0)] [] (hH L m) := by
  refine (S_iconst at_241_0).trans ?_
  refine (S_istore_n (l1 := [some (jR 109), some (jI x1), some (jI 0)]) rfl at_241_1).trans ?_
  rfl
theorem T241_2 {C : Nat → List j_V → j_H → Option j_Z} {L : Nat} {m : j_M0} {x1 : Int} {x2 : Int} : j_fin C 241 2 [some (jR 109), some (jI x1), some (jI x2)] [] (hH L m) = if x2 < (m 110 6) then if 0 ≤ (w32 (110 + (w32 (2 * x2)))) ∧ (w32 (110 + (w32 (2 * x2)))) < 150 then if (m 110 (w32 (110 + (w32 (2 * x2)))).toNat) = x1 then some (some (jI x2), hH L m) else j_fin C 241 2 [some (jR 109), some (jI x1), some (jI (w32 (x2 + 1)))] [] (hH L m) else none else some (some (jI (-1)), hH L m) := by
  refine (S_iload_n rfl at_241_2).trans ?_
  refine (S_aload_n rfl at_241_3).trans ?_
  refine (S_getR (ka_109 L _) rfl (f_109_0 L _) at_241_4).trans ?_
  refine (S_bipush at_241_7).trans ?_
  refine (H_iaload (ka_110 L _) at_241_9).trans ?_
  refine (if_pos (by decide)).trans ?_
  refine (S_icmp_ge at_241_10).trans ?_
  refine ite_congr rfl (fun _ => ?_) (fun _ => ?_)
  · refine (S_aload_n rfl at_241_13).trans ?_
    refine (S_getR (ka_109 L _) rfl (f_109_0 L _) at_241_14).trans ?_
    refine (S_bipush at_241_17).trans ?_
    refine (S_iconst at_241_19).trans ?_
    refine (S_iload_n rfl at_241_20).trans ?_
    refine (S_imul at_241_21).trans ?_
    refine (S_iadd at_241_22).trans ?_
    refine (H_iaload (ka_110 L _) at_241_23).trans ?_
    refine ite_congr rfl (fun hi => ?_) (fun _ => rfl)
    refine (S_iload_n rfl at_241_24).trans ?_
    refine (S_icmp_ne at_241_25).trans ?_
    refine ite_congr rfl (fun _ => ?_) (fun _ => ?_)
    · refine (S_iload_n rfl at_241_28).trans ?_
      exact S_ireti rfl at_241_29
    · refine (S_iinc (l1 := [some (jR 109), some (jI x1), some (jI (w32 (x2 + 1)))]) rfl rfl at_241_30).trans ?_
      refine (S_goto at_241_33).trans ?_
      rfl
  · refine (S_iconst at_241_36).trans ?_
    exact S_ireti rfl at_241_37
theorem T242_0 {C : Nat → List j_V → j_H → Option j_Z} {L : Nat} {m : j_M0} {x1 : Int} {x2 : Int} : j_fin C 242 0 [some (jR 109), some (jI x1), some (jI x2), none, none] [] (hH L m) = (C 211 [jR 109, jI x1] (hH L m)).bind fun z => j_fin C 242 5 [some (jR 109), some (jI x1), some (jI x2), none, none] (z.1.toList ++ []) z.2 := by
  refine (S_aload_n rfl at_242_0).trans ?_
  refine (S_iload_n rfl at_242_1).trans ?_
  refine (S_invv (b := 1) kn_211 rfl (ka_109 L _) (Nat.le_of_ble_eq_true rfl) at_242_2).trans ?_
  rfl
theorem T242_5 {C : Nat → List j_V → j_H → Option j_Z} {L : Nat} {m : j_M0} {x1 : Int} {x2 : Int} {s0 : Int} : j_fin C 242 5 [some (jR 109), some (jI x1), some (jI x2), none, none] [jI s0] (hH L m) = if s0 = 0 then some (some (jI (-2)), hH L m) else (C 150 [jL x2, jL 0, jL 999] (hH L m)).bind fun z => j_fin C 242 17 [some (jR 109), some (jI x1), some (jI x2), none, none] (z.1.toList ++ []) z.2 := by
  refine (S_if_eq at_242_5).trans ?_
  refine ite_congr rfl (fun _ => ?_) (fun _ => ?_)
  · refine (S_bipush at_242_20).trans ?_
    exact S_ireti rfl at_242_22
  · refine (S_iload_n rfl at_242_8).trans ?_
    refine (S_i2l at_242_9).trans ?_
    refine (S_lconst at_242_10).trans ?_
    refine (S_ldc2_w at_242_11).trans ?_
    refine (S_invs (by decide) (Nat.le_of_ble_eq_true rfl) (Nat.le_of_ble_eq_true rfl) at_242_14).trans ?_
    rfl
theorem T242_17 {C : Nat → List j_V → j_H → Option j_Z} {L : Nat} {m : j_M0} {x1 : Int} {x2 : Int} {s0 : Int} : j_fin C 242 17 [some (jR 109), some (jI x1), some (jI x2), none, none] [jI s0] (hH L m) = if s0 = 0 then some (some (jI (-2)), hH L m) else (C 241 [jR 109, jI x1] (hH L m)).bind fun z => j_fin C 242 28 [some (jR 109), some (jI x1), some (jI x2), none, none] (z.1.toList ++ []) z.2 := by
  refine (S_if_ne at_242_17).trans ?_
  refine ite_congr rfl (fun _ => ?_) (fun _ => ?_)
  · refine (S_bipush at_242_20).trans ?_
    exact S_ireti rfl at_242_22
  · refine (S_aload_n rfl at_242_23).trans ?_
    refine (S_iload_n rfl at_242_24).trans ?_
    refine (S_invv (b := 1) kn_241 rfl (ka_109 L _) (Nat.le_of_ble_eq_true rfl) at_242_25).trans ?_
    rfl
theorem T242_28 {C : Nat → List j_V → j_H → Option j_Z} {L : Nat} {m : j_M0} {x1 : Int} {x2 : Int} {s0 : Int} : j_fin C 242 28 [some (jR 109), some (jI x1), some (jI x2), none, none] [jI s0] (hH L m) = if s0 < 0 then if (m 110 6) = 20 then some (some (jI (-4)), hH L m) else if s0 < 0 then if s0 < 0 then if 0 ≤ (w32 (110 + (w32 (2 * (m 110 6))))) ∧ (w32 (110 + (w32 (2 * (m 110 6))))) < 150 then if 0 ≤ (w32 ((w32 (110 + (w32 (2 * (m 110 6))))) + 1)) ∧ (w32 ((w32 (110 + (w32 (2 * (m 110 6))))) + 1)) < 150 then some (some (jI (-5)), hH L (j_up (j_up (j_up m 110 6 (w32 ((m 110 6) + 1))) 110 (w32 (110 + (w32 (2 * (m 110 6))))).toNat x1) 110 (w32 ((w32 (110 + (w32 (2 * (m 110 6))))) + 1)).toNat x2)) else none else none else if 0 ≤ (w32 (110 + (w32 (2 * s0)))) ∧ (w32 (110 + (w32 (2 * s0)))) < 150 then if 0 ≤ (w32 ((w32 (110 + (w32 (2 * s0)))) + 1)) ∧ (w32 ((w32 (110 + (w32 (2 * s0)))) + 1)) < 150 then some (some (jI (-5)), hH L (j_up (j_up m 110 (w32 (110 + (w32 (2 * s0)))).toNat x1) 110 (w32 ((w32 (110 + (w32 (2 * s0)))) + 1)).toNat x2)) else none else none else if 0 ≤ (w32 ((w32 (110 + (w32 (2 * s0)))) + 1)) ∧ (w32 ((w32 (110 + (w32 (2 * s0)))) + 1)) < 150 then if s0 < 0 then if 0 ≤ (w32 (110 + (w32 (2 * (m 110 6))))) ∧ (w32 (110 + (w32 (2 * (m 110 6))))) < 150 then if 0 ≤ (w32 ((w32 (110 + (w32 (2 * (m 110 6))))) + 1)) ∧ (w32 ((w32 (110 + (w32 (2 * (m 110 6))))) + 1)) < 150 then some (some (jI (m 110 (w32 ((w32 (110 + (w32 (2 * s0)))) + 1)).toNat)), hH L (j_up (j_up (j_up m 110 6 (w32 ((m 110 6) + 1))) 110 (w32 (110 + (w32 (2 * (m 110 6))))).toNat x1) 110 (w32 ((w32 (110 + (w32 (2 * (m 110 6))))) + 1)).toNat x2)) else none else none else if 0 ≤ (w32 (110 + (w32 (2 * s0)))) ∧ (w32 (110 + (w32 (2 * s0)))) < 150 then if 0 ≤ (w32 ((w32 (110 + (w32 (2 * s0)))) + 1)) ∧ (w32 ((w32 (110 + (w32 (2 * s0)))) + 1)) < 150 then some (some (jI (m 110 (w32 ((w32 (110 + (w32 (2 * s0)))) + 1)).toNat)), hH L (j_up (j_up m 110 (w32 (110 + (w32 (2 * s0)))).toNat x1) 110 (w32 ((w32 (110 + (w32 (2 * s0)))) + 1)).toNat x2)) else none else none else none else if s0 < 0 then if s0 < 0 then if 0 ≤ (w32 (110 + (w32 (2 * (m 110 6))))) ∧ (w32 (110 + (w32 (2 * (m 110 6))))) < 150 then if 0 ≤ (w32 ((w32 (110 + (w32 (2 * (m 110 6))))) + 1)) ∧ (w32 ((w32 (110 + (w32 (2 * (m 110 6))))) + 1)) < 150 then some (some (jI (-5)), hH L (j_up (j_up (j_up m 110 6 (w32 ((m 110 6) + 1))) 110 (w32 (110 + (w32 (2 * (m 110 6))))).toNat x1) 110 (w32 ((w32 (110 + (w32 (2 * (m 110 6))))) + 1)).toNat x2)) else none else none else if 0 ≤ (w32 (110 + (w32 (2 * s0)))) ∧ (w32 (110 + (w32 (2 * s0)))) < 150 then if 0 ≤ (w32 ((w32 (110 + (w32 (2 * s0)))) + 1)) ∧ (w32 ((w32 (110 + (w32 (2 * s0)))) + 1)) < 150 then some (some (jI (-5)), hH L (j_up (j_up m 110 (w32 (110 + (w32 (2 * s0)))).toNat x1) 110 (w32 ((w32 (110 + (w32 (2 * s0)))) + 1)).toNat x2)) else none else none else if 0 ≤ (w32 ((w32 (110 + (w32 (2 * s0)))) + 1)) ∧ (w32 ((w32 (110 + (w32 (2 * s0)))) + 1)) < 150 then if s0 < 0 then if 0 ≤ (w32 (110 + (w32 (2 * (m 110 6))))) ∧ (w32 (110 + (w32 (2 * (m 110 6))))) < 150 then if 0 ≤ (w32 ((w32 (110 + (w32 (2 * (m 110 6))))) + 1)) ∧ (w32 ((w32 (110 + (w32 (2 * (m 110 6))))) + 1)) < 150 then some (some (jI (m 110 (w32 ((w32 (110 + (w32 (2 * s0)))) + 1)).toNat)), hH L (j_up (j_up (j_up m 110 6 (w32 ((m 110 6) + 1))) 110 (w32 (110 + (w32 (2 * (m 110 6))))).toNat x1) 110 (w32 ((w32 (110 + (w32 (2 * (m 110 6))))) + 1)).toNat x2)) else none else none else if 0 ≤ (w32 (110 + (w32 (2 * s0)))) ∧ (w32 (110 + (w32 (2 * s0)))) < 150 then if 0 ≤ (w32 ((w32 (110 + (w32 (2 * s0)))) + 1)) ∧ (w32 ((w32 (110 + (w32 (2 * s0)))) + 1)) < 150 then some (some (jI (m 110 (w32 ((w32 (110 + (w32 (2 * s0)))) + 1)).toNat)), hH L (j_up (j_up m 110 (w32 (110 + (w32 (2 * s0)))).toNat x1) 110 (w32 ((w32 (110 + (w32 (2 * s0)))) + 1)).toNat x2)) else none else none else none := by
  refine (S_istore_n (l1 := [some (jR 109), some (jI x1), some (jI x2), some (jI s0), none]) rfl at_242_28).trans ?_
  refine (S_iload_n rfl at_242_29).trans ?_
  refine (S_if_ge at_242_30).trans ?_
  refine ite_congr rfl (fun _ => ?_) (fun _ => ?_)
  · refine (S_aload_n rfl at_242_33).trans ?_
    refine (S_getR (ka_109 L _) rfl (f_109_0 L _) at_242_34).trans ?_
    refine (S_bipush at_242_37).trans ?_
    refine (H_iaload (ka_110 L _) at_242_39).trans ?_
    refine (if_pos (by decide)).trans ?_
    refine (S_bipush at_242_40).trans ?_
    refine (S_icmp_ne at_242_42).trans ?_
    refine ite_congr rfl (fun _ => ?_) (fun _ => ?_)
    · refine (S_bipush at_242_45).trans ?_
      exact S_ireti rfl at_242_47
    · refine (S_iload_n rfl at_242_48).trans ?_
      refine (S_if_ge at_242_49).trans ?_
      refine ite_congr rfl (fun _ => ?_) (fun _ => ?_)
      · refine (S_bipush at_242_52).trans ?_
        refine (S_goto at_242_54).trans ?_
        refine (S_istore (l1 := [some (jR 109), some (jI x1), some (jI x2), some (jI s0), some (jI (-5))]) rfl at_242_70).trans ?_
        refine (S_iload_n rfl at_242_72).trans ?_
        refine (S_if_ge at_242_73).trans ?_
        refine ite_congr rfl (fun _ => ?_) (fun _ => ?_)
        · refine (S_aload_n rfl at_242_76).trans ?_
          refine (S_getR (ka_109 L _) rfl (f_109_0 L _) at_242_77).trans ?_
          refine (S_bipush at_242_80).trans ?_
          refine (H_iaload (ka_110 L _) at_242_82).trans ?_
          refine (if_pos (by decide)).trans ?_
          refine (S_istore_n (l1 := [some (jR 109), some (jI x1), some (jI x2), some (jI (m 110 6)), some (jI (-5))]) rfl at_242_83).trans ?_
          refine (S_aload_n rfl at_242_84).trans ?_
          refine (S_getR (ka_109 L _) rfl (f_109_0 L _) at_242_85).trans ?_
          refine (S_bipush at_242_88).trans ?_
          refine (S_dup2RI at_242_90).trans ?_
          refine (H_iaload (ka_110 L _) at_242_91).trans ?_
          refine (if_pos (by decide)).trans ?_
          refine (S_iconst at_242_92).trans ?_
          refine (S_iadd at_242_93).trans ?_
          refine (H_iastore (by omega) (ka_110 L _) at_242_94).trans ?_
          refine (if_pos (by decide)).trans ?_
          refine (S_aload_n rfl at_242_95).trans ?_
          refine (S_getR (ka_109 L _) rfl (f_109_0 L _) at_242_96).trans ?_
          refine (S_bipush at_242_99).trans ?_
          refine (S_iconst at_242_101).trans ?_
          refine (S_iload_n rfl at_242_102).trans ?_
          refine (S_imul at_242_103).trans ?_
          refine (S_iadd at_242_104).trans ?_
          refine (S_iload_n rfl at_242_105).trans ?_
          refine (H_iastore (by omega) (ka_110 L _) at_242_106).trans ?_
          refine ite_congr rfl (fun hi => ?_) (fun _ => rfl)
          refine (S_aload_n rfl at_242_107).trans ?_
          refine (S_getR (ka_109 L _) rfl (f_109_0 L _) at_242_108).trans ?_
          refine (S_bipush at_242_111).trans ?_
          refine (S_iconst at_242_113).trans ?_
          refine (S_iload_n rfl at_242_114).trans ?_
          refine (S_imul at_242_115).trans ?_
          refine (S_iadd at_242_116).trans ?_
          refine (S_iconst at_242_117).trans ?_
          refine (S_iadd at_242_118).trans ?_
          refine (S_iload_n rfl at_242_119).trans ?_
          refine (H_iastore (by omega) (ka_110 L _) at_242_120).trans ?_
          refine ite_congr rfl (fun hi => ?_) (fun _ => rfl)
          refine (S_iload rfl at_242_121).trans ?_
          exact S_ireti rfl at_242_123
        · refine (S_aload_n rfl at_242_95).trans ?_
          refine (S_getR (ka_109 L _) rfl (f_109_0 L _) at_242_96).trans ?_
          refine (S_bipush at_242_99).trans ?_
          refine (S_iconst at_242_101).trans ?_
          refine (S_iload_n rfl at_242_102).trans ?_
          refine (S_imul at_242_103).trans ?_
          refine (S_iadd at_242_104).trans ?_
          refine (S_iload_n rfl at_242_105).trans ?_
          refine (H_iastore (by omega) (ka_110 L _) at_242_106).trans ?_
          refine ite_congr rfl (fun hi => ?_) (fun _ => rfl)
          refine (S_aload_n rfl at_242_107).trans ?_
          refine (S_getR (ka_109 L _) rfl (f_109_0 L _) at_242_108).trans ?_
          refine (S_bipush at_242_111).trans ?_
          refine (S_iconst at_242_113).trans ?_
          refine (S_iload_n rfl at_242_114).trans ?_
          refine (S_imul at_242_115).trans ?_
          refine (S_iadd at_242_116).trans ?_
          refine (S_iconst at_242_117).trans ?_
          refine (S_iadd at_242_118).trans ?_
          refine (S_iload_n rfl at_242_119).trans ?_
          refine (H_iastore (by omega) (ka_110 L _) at_242_120).trans ?_
          refine ite_congr rfl (fun hi => ?_) (fun _ => rfl)
          refine (S_iload rfl at_242_121).trans ?_
          exact S_ireti rfl at_242_123
      · refine (S_aload_n rfl at_242_57).trans ?_
        refine (S_getR (ka_109 L _) rfl (f_109_0 L _) at_242_58).trans ?_
        refine (S_bipush at_242_61).trans ?_
        refine (S_iconst at_242_63).trans ?_
        refine (S_iload_n rfl at_242_64).trans ?_
        refine (S_imul at_242_65).trans ?_
        refine (S_iadd at_242_66).trans ?_
        refine (S_iconst at_242_67).trans ?_
        refine (S_iadd at_242_68).trans ?_
        refine (H_iaload (ka_110 L _) at_242_69).trans ?_
        refine ite_congr rfl (fun hi => ?_) (fun _ => rfl)
        refine (S_istore (l1 := [some (jR 109), some (jI x1), some (jI x2), some (jI s0), some (jI (m 110 (w32 ((w32 (110 + (w32 (2 * s0)))) + 1)).toNat))]) rfl at_242_70).trans ?_
        refine (S_iload_n rfl at_242_72).trans ?_
        refine (S_if_ge at_242_73).trans ?_
        refine ite_congr rfl (fun _ => ?_) (fun _ => ?_)
        · refine (S_aload_n rfl at_242_76).trans ?_
          refine (S_getR (ka_109 L _) rfl (f_109_0 L _) at_242_77).trans ?_
          refine (S_bipush at_242_80).trans ?_
          refine (H_iaload (ka_110 L _) at_242_82).trans ?_
          refine (if_pos (by decide)).trans ?_
          refine (S_istore_n (l1 := [some (jR 109), some (jI x1), some (jI x2), some (jI (m 110 6)), some (jI (m 110 (w32 ((w32 (110 + (w32 (2 * s0)))) + 1)).toNat))]) rfl at_242_83).trans ?_
          refine (S_aload_n rfl at_242_84).trans ?_
          refine (S_getR (ka_109 L _) rfl (f_109_0 L _) at_242_85).trans ?_
          refine (S_bipush at_242_88).trans ?_
          refine (S_dup2RI at_242_90).trans ?_
          refine (H_iaload (ka_110 L _) at_242_91).trans ?_
          refine (if_pos (by decide)).trans ?_
          refine (S_iconst at_242_92).trans ?_
          refine (S_iadd at_242_93).trans ?_
          refine (H_iastore (by omega) (ka_110 L _) at_242_94).trans ?_
          refine (if_pos (by decide)).trans ?_
          refine (S_aload_n rfl at_242_95).trans ?_
          refine (S_getR (ka_109 L _) rfl (f_109_0 L _) at_242_96).trans ?_
          refine (S_bipush at_242_99).trans ?_
          refine (S_iconst at_242_101).trans ?_
          refine (S_iload_n rfl at_242_102).trans ?_
          refine (S_imul at_242_103).trans ?_
          refine (S_iadd at_242_104).trans ?_
          refine (S_iload_n rfl at_242_105).trans ?_
          refine (H_iastore (by omega) (ka_110 L _) at_242_106).trans ?_
          refine ite_congr rfl (fun hi => ?_) (fun _ => rfl)
          refine (S_aload_n rfl at_242_107).trans ?_
          refine (S_getR (ka_109 L _) rfl (f_109_0 L _) at_242_108).trans ?_
          refine (S_bipush at_242_111).trans ?_
          refine (S_iconst at_242_113).trans ?_
          refine (S_iload_n rfl at_242_114).trans ?_
          refine (S_imul at_242_115).trans ?_
          refine (S_iadd at_242_116).trans ?_
          refine (S_iconst at_242_117).trans ?_
          refine (S_iadd at_242_118).trans ?_
          refine (S_iload_n rfl at_242_119).trans ?_
          refine (H_iastore (by omega) (ka_110 L _) at_242_120).trans ?_
          refine ite_congr rfl (fun hi => ?_) (fun _ => rfl)
          refine (S_iload rfl at_242_121).trans ?_
          exact S_ireti rfl at_242_123
        · refine (S_aload_n rfl at_242_95).trans ?_
          refine (S_getR (ka_109 L _) rfl (f_109_0 L _) at_242_96).trans ?_
          refine (S_bipush at_242_99).trans ?_
          refine (S_iconst at_242_101).trans ?_
          refine (S_iload_n rfl at_242_102).trans ?_
          refine (S_imul at_242_103).trans ?_
          refine (S_iadd at_242_104).trans ?_
          refine (S_iload_n rfl at_242_105).trans ?_
          refine (H_iastore (by omega) (ka_110 L _) at_242_106).trans ?_
          refine ite_congr rfl (fun hi => ?_) (fun _ => rfl)
          refine (S_aload_n rfl at_242_107).trans ?_
          refine (S_getR (ka_109 L _) rfl (f_109_0 L _) at_242_108).trans ?_
          refine (S_bipush at_242_111).trans ?_
          refine (S_iconst at_242_113).trans ?_
          refine (S_iload_n rfl at_242_114).trans ?_
          refine (S_imul at_242_115).trans ?_
          refine (S_iadd at_242_116).trans ?_
          refine (S_iconst at_242_117).trans ?_
          refine (S_iadd at_242_118).trans ?_
          refine (S_iload_n rfl at_242_119).trans ?_
          refine (H_iastore (by omega) (ka_110 L _) at_242_120).trans ?_
          refine ite_congr rfl (fun hi => ?_) (fun _ => rfl)
          refine (S_iload rfl at_242_121).trans ?_
          exact S_ireti rfl at_242_123
  · refine (S_iload_n rfl at_242_48).trans ?_
    refine (S_if_ge at_242_49).trans ?_
    refine ite_congr rfl (fun _ => ?_) (fun _ => ?_)
    · refine (S_bipush at_242_52).trans ?_
      refine (S_goto at_242_54).trans ?_
      refine (S_istore (l1 := [some (jR 109), some (jI x1), some (jI x2), some (jI s0), some (jI (-5))]) rfl at_242_70).trans ?_
      refine (S_iload_n rfl at_242_72).trans ?_
      refine (S_if_ge at_242_73).trans ?_
      refine ite_congr rfl (fun _ => ?_) (fun _ => ?_)
      · refine (S_aload_n rfl at_242_76).trans ?_
        refine (S_getR (ka_109 L _) rfl (f_109_0 L _) at_242_77).trans ?_
        refine (S_bipush at_242_80).trans ?_
        refine (H_iaload (ka_110 L _) at_242_82).trans ?_
        refine (if_pos (by decide)).trans ?_
        refine (S_istore_n (l1 := [some (jR 109), some (jI x1), some (jI x2), some (jI (m 110 6)), some (jI (-5))]) rfl at_242_83).trans ?_
        refine (S_aload_n rfl at_242_84).trans ?_
        refine (S_getR (ka_109 L _) rfl (f_109_0 L _) at_242_85).trans ?_
        refine (S_bipush at_242_88).trans ?_
        refine (S_dup2RI at_242_90).trans ?_
        refine (H_iaload (ka_110 L _) at_242_91).trans ?_
        refine (if_pos (by decide)).trans ?_
        refine (S_iconst at_242_92).trans ?_
        refine (S_iadd at_242_93).trans ?_
        refine (H_iastore (by omega) (ka_110 L _) at_242_94).trans ?_
        refine (if_pos (by decide)).trans ?_
        refine (S_aload_n rfl at_242_95).trans ?_
        refine (S_getR (ka_109 L _) rfl (f_109_0 L _) at_242_96).trans ?_
        refine (S_bipush at_242_99).trans ?_
        refine (S_iconst at_242_101).trans ?_
        refine (S_iload_n rfl at_242_102).trans ?_
        refine (S_imul at_242_103).trans ?_
        refine (S_iadd at_242_104).trans ?_
        refine (S_iload_n rfl at_242_105).trans ?_
        refine (H_iastore (by omega) (ka_110 L _) at_242_106).trans ?_
        refine ite_congr rfl (fun hi => ?_) (fun _ => rfl)
        refine (S_aload_n rfl at_242_107).trans ?_
        refine (S_getR (ka_109 L _) rfl (f_109_0 L _) at_242_108).trans ?_
        refine (S_bipush at_242_111).trans ?_
        refine (S_iconst at_242_113).trans ?_
        refine (S_iload_n rfl at_242_114).trans ?_
        refine (S_imul at_242_115).trans ?_
        refine (S_iadd at_242_116).trans ?_
        refine (S_iconst at_242_117).trans ?_
        refine (S_iadd at_242_118).trans ?_
        refine (S_iload_n rfl at_242_119).trans ?_
        refine (H_iastore (by omega) (ka_110 L _) at_242_120).trans ?_
        refine ite_congr rfl (fun hi => ?_) (fun _ => rfl)
        refine (S_iload rfl at_242_121).trans ?_
        exact S_ireti rfl at_242_123
      · refine (S_aload_n rfl at_242_95).trans ?_
        refine (S_getR (ka_109 L _) rfl (f_109_0 L _) at_242_96).trans ?_
        refine (S_bipush at_242_99).trans ?_
        refine (S_iconst at_242_101).trans ?_
        refine (S_iload_n rfl at_242_102).trans ?_
        refine (S_imul at_242_103).trans ?_
        refine (S_iadd at_242_104).trans ?_
        refine (S_iload_n rfl at_242_105).trans ?_
        refine (H_iastore (by omega) (ka_110 L _) at_242_106).trans ?_
        refine ite_congr rfl (fun hi => ?_) (fun _ => rfl)
        refine (S_aload_n rfl at_242_107).trans ?_
        refine (S_getR (ka_109 L _) rfl (f_109_0 L _) at_242_108).trans ?_
        refine (S_bipush at_242_111).trans ?_
        refine (S_iconst at_242_113).trans ?_
        refine (S_iload_n rfl at_242_114).trans ?_
        refine (S_imul at_242_115).trans ?_
        refine (S_iadd at_242_116).trans ?_
        refine (S_iconst at_242_117).trans ?_
        refine (S_iadd at_242_118).trans ?_
        refine (S_iload_n rfl at_242_119).trans ?_
        refine (H_iastore (by omega) (ka_110 L _) at_242_120).trans ?_
        refine ite_congr rfl (fun hi => ?_) (fun _ => rfl)
        refine (S_iload rfl at_242_121).trans ?_
        exact S_ireti rfl at_242_123
    · refine (S_aload_n rfl at_242_57).trans ?_
      refine (S_getR (ka_109 L _) rfl (f_109_0 L _) at_242_58).trans ?_
      refine (S_bipush at_242_61).trans ?_
      refine (S_iconst at_242_63).trans ?_
      refine (S_iload_n rfl at_242_64).trans ?_
      refine (S_imul at_242_65).trans ?_
      refine (S_iadd at_242_66).trans ?_
      refine (S_iconst at_242_67).trans ?_
      refine (S_iadd at_242_68).trans ?_
      refine (H_iaload (ka_110 L _) at_242_69).trans ?_
      refine ite_congr rfl (fun hi => ?_) (fun _ => rfl)
      refine (S_istore (l1 := [some (jR 109), some (jI x1), some (jI x2), some (jI s0), some (jI (m 110 (w32 ((w32 (110 + (w32 (2 * s0)))) + 1)).toNat))]) rfl at_242_70).trans ?_
      refine (S_iload_n rfl at_242_72).trans ?_
      refine (S_if_ge at_242_73).trans ?_
      refine ite_congr rfl (fun _ => ?_) (fun _ => ?_)
      · refine (S_aload_n rfl at_242_76).trans ?_
        refine (S_getR (ka_109 L _) rfl (f_109_0 L _) at_242_77).trans ?_
        refine (S_bipush at_242_80).trans ?_
        refine (H_iaload (ka_110 L _) at_242_82).trans ?_
        refine (if_pos (by decide)).trans ?_
        refine (S_istore_n (l1 := [some (jR 109), some (jI x1), some (jI x2), some (jI (m 110 6)), some (jI (m 110 (w32 ((w32 (110 + (w32 (2 * s0)))) + 1)).toNat))]) rfl at_242_83).trans ?_
        refine (S_aload_n rfl at_242_84).trans ?_
        refine (S_getR (ka_109 L _) rfl (f_109_0 L _) at_242_85).trans ?_
        refine (S_bipush at_242_88).trans ?_
        refine (S_dup2RI at_242_90).trans ?_
        refine (H_iaload (ka_110 L _) at_242_91).trans ?_
        refine (if_pos (by decide)).trans ?_
        refine (S_iconst at_242_92).trans ?_
        refine (S_iadd at_242_93).trans ?_
        refine (H_iastore (by omega) (ka_110 L _) at_242_94).trans ?_
        refine (if_pos (by decide)).trans ?_
        refine (S_aload_n rfl at_242_95).trans ?_
        refine (S_getR (ka_109 L _) rfl (f_109_0 L _) at_242_96).trans ?_
        refine (S_bipush at_242_99).trans ?_
        refine (S_iconst at_242_101).trans ?_
        refine (S_iload_n rfl at_242_102).trans ?_
        refine (S_imul at_242_103).trans ?_
        refine (S_iadd at_242_104).trans ?_
        refine (S_iload_n rfl at_242_105).trans ?_
        refine (H_iastore (by omega) (ka_110 L _) at_242_106).trans ?_
        refine ite_congr rfl (fun hi => ?_) (fun _ => rfl)
        refine (S_aload_n rfl at_242_107).trans ?_
        refine (S_getR (ka_109 L _) rfl (f_109_0 L _) at_242_108).trans ?_
        refine (S_bipush at_242_111).trans ?_
        refine (S_iconst at_242_113).trans ?_
        refine (S_iload_n rfl at_242_114).trans ?_
        refine (S_imul at_242_115).trans ?_
        refine (S_iadd at_242_116).trans ?_
        refine (S_iconst at_242_117).trans ?_
        refine (S_iadd at_242_118).trans ?_
        refine (S_iload_n rfl at_242_119).trans ?_
        refine (H_iastore (by omega) (ka_110 L _) at_242_120).trans ?_
        refine ite_congr rfl (fun hi => ?_) (fun _ => rfl)
        refine (S_iload rfl at_242_121).trans ?_
        exact S_ireti rfl at_242_123
      · refine (S_aload_n rfl at_242_95).trans ?_
        refine (S_getR (ka_109 L _) rfl (f_109_0 L _) at_242_96).trans ?_
        refine (S_bipush at_242_99).trans ?_
        refine (S_iconst at_242_101).trans ?_
        refine (S_iload_n rfl at_242_102).trans ?_
        refine (S_imul at_242_103).trans ?_
        refine (S_iadd at_242_104).trans ?_
        refine (S_iload_n rfl at_242_105).trans ?_
        refine (H_iastore (by omega) (ka_110 L _) at_242_106).trans ?_
        refine ite_congr rfl (fun hi => ?_) (fun _ => rfl)
        refine (S_aload_n rfl at_242_107).trans ?_
        refine (S_getR (ka_109 L _) rfl (f_109_0 L _) at_242_108).trans ?_
        refine (S_bipush at_242_111).trans ?_
        refine (S_iconst at_242_113).trans ?_
        refine (S_iload_n rfl at_242_114).trans ?_
        refine (S_imul at_242_115).trans ?_
        refine (S_iadd at_242_116).trans ?_
        refine (S_iconst at_242_117).trans ?_
        refine (S_iadd at_242_118).trans ?_
        refine (S_iload_n rfl at_242_119).trans ?_
        refine (H_iastore (by omega) (ka_110 L _) at_242_120).trans ?_
        refine ite_congr rfl (fun hi => ?_) (fun _ => rfl)
        refine (S_iload rfl at_242_121).trans ?_
        exact S_ireti rfl at_242_123
theorem T243_0 {C : Nat → List j_V → j_H → Option j_Z} {L : Nat} {m : j_M0} {x1 : Int} {x2 : Int} : j_fin C 243 0 [some (jR 109), some (jI x1), some (jI x2), none] [] (hH L m) = if 0 ≤ (w32 (110 + (w32 (2 * x1)))) ∧ (w32 (110 + (w32 (2 * x1)))) < 150 then (C 213 [jR 109, jI (m 110 (w32 (110 + (w32 (2 * x1)))).toNat)] (hH L m)).bind fun z => j_fin C 243 15 [some (jR 109), some (jI x1), some (jI x2), none] (z.1.toList ++ []) z.2 else none := by
  refine (S_aload_n rfl at_243_0).trans ?_
  refine (S_aload_n rfl at_243_1).trans ?_
  refine (S_getR (ka_109 L _) rfl (f_109_0 L _) at_243_2).trans ?_
  refine (S_bipush at_243_5).trans ?_
  refine (S_iconst at_243_7).trans ?_
  refine (S_iload_n rfl at_243_8).trans ?_
  refine (S_imul at_243_9).trans ?_
  refine (S_iadd at_243_10).trans ?_
  refine (H_iaload (ka_110 L _) at_243_11).trans ?_
  refine ite_congr rfl (fun hi => ?_) (fun _ => rfl)
  refine (S_invv (b := 1) kn_213 rfl (ka_109 L _) (Nat.le_of_ble_eq_true rfl) at_243_12).trans ?_
  rfl
theorem T243_15 {C : Nat → List j_V → j_H → Option j_Z} {L : Nat} {m : j_M0} {x1 : Int} {x2 : Int} {s0 : Int} : j_fin C 243 15 [some (jR 109), some (jI x1), some (jI x2), none] [jI s0] (hH L m) = if 0 ≤ (w32 (110 + (w32 (2 * x2)))) ∧ (w32 (110 + (w32 (2 * x2)))) < 150 then (C 213 [jR 109, jI (m 110 (w32 (110 + (w32 (2 * x2)))).toNat)] (hH L m)).bind fun z => j_fin C 243 30 [some (jR 109), some (jI x1), some (jI x2), none] (z.1.toList ++ [jI s0]) z.2 else none := by
  refine (S_aload_n rfl at_243_15).trans ?_
  refine (S_aload_n rfl at_243_16).trans ?_
  refine (S_getR (ka_109 L _) rfl (f_109_0 L _) at_243_17).trans ?_
  refine (S_bipush at_243_20).trans ?_
  refine (S_iconst at_243_22).trans ?_
  refine (S_iload_n rfl at_243_23).trans ?_
  refine (S_imul at_243_24).trans ?_
  refine (S_iadd at_243_25).trans ?_
  refine (H_iaload (ka_110 L _) at_243_26).trans ?_
  refine ite_congr rfl (fun hi => ?_) (fun _ => rfl)
  refine (S_invv (b := 1) kn_213 rfl (ka_109 L _) (Nat.le_of_ble_eq_true rfl) at_243_27).trans ?_
  rfl
theorem T243_30 {C : Nat → List j_V → j_H → Option j_Z} {L : Nat} {m : j_M0} {x1 : Int} {x2 : Int} {s0 : Int} {s1 : Int} : j_fin C 243 30 [some (jR 109), some (jI x1), some (jI x2), none] [jI s1, jI s0] (hH L m) = if (w32 (s0 - s1)) < 0 then some (some (jI 1), hH L m) else if (w32 (s0 - s1)) = 0 then if 0 ≤ (w32 (110 + (w32 (2 * x1)))) ∧ (w32 (110 + (w32 (2 * x1)))) < 150 then if 0 ≤ (w32 (110 + (w32 (2 * x2)))) ∧ (w32 (110 + (w32 (2 * x2)))) < 150 then if (m 110 (w32 (110 + (w32 (2 * x1)))).toNat) < (m 110 (w32 (110 + (w32 (2 * x2)))).toNat) then some (some (jI 1), hH L m) else some (some (jI 0), hH L m) else none else none else some (some (jI 0), hH L m) := by
  refine (S_isub at_243_30).trans ?_
  refine (S_istore_n (l1 := [some (jR 109), some (jI x1), some (jI x2), some (jI (w32 (s0 - s1)))]) rfl at_243_31).trans ?_
  refine (S_iload_n rfl at_243_32).trans ?_
  refine (S_if_lt at_243_33).trans ?_
  refine ite_congr rfl (fun _ => ?_) (fun _ => ?_)
  · refine (S_iconst at_243_65).trans ?_
    refine (S_goto at_243_66).trans ?_
    exact (S_iretz rfl at_243_70).trans (if_pos (by decide))
  · refine (S_iload_n rfl at_243_36).trans ?_
    refine (S_if_ne at_243_37).trans ?_
    refine ite_congr rfl (fun _ => ?_) (fun _ => ?_)
    · refine (S_aload_n rfl at_243_40).trans ?_
      refine (S_getR (ka_109 L _) rfl (f_109_0 L _) at_243_41).trans ?_
      refine (S_bipush at_243_44).trans ?_
      refine (S_iconst at_243_46).trans ?_
      refine (S_iload_n rfl at_243_47).trans ?_
      refine (S_imul at_243_48).trans ?_
      refine (S_iadd at_243_49).trans ?_
      refine (H_iaload (ka_110 L _) at_243_50).trans ?_
      refine ite_congr rfl (fun hi => ?_) (fun _ => rfl)
      refine (S_aload_n rfl at_243_51).trans ?_
      refine (S_getR (ka_109 L _) rfl (f_109_0 L _) at_243_52).trans ?_
      refine (S_bipush at_243_55).trans ?_
      refine (S_iconst at_243_57).trans ?_
      refine (S_iload_n rfl at_243_58).trans ?_
      refine (S_imul at_243_59).trans ?_
      refine (S_iadd at_243_60).trans ?_
      refine (H_iaload (ka_110 L _) at_243_61).trans ?_
      refine ite_congr rfl (fun hi => ?_) (fun _ => rfl)
      refine (S_icmp_ge at_243_62).trans ?_
      refine ite_congr rfl (fun _ => ?_) (fun _ => ?_)
      · refine (S_iconst at_243_65).trans ?_
        refine (S_goto at_243_66).trans ?_
        exact (S_iretz rfl at_243_70).trans (if_pos (by decide))
      · refine (S_iconst at_243_69).trans ?_
        exact (S_iretz rfl at_243_70).trans (if_pos (by decide))
    · refine (S_iconst at_243_69).trans ?_
      exact (S_iretz rfl at_243_70).trans (if_pos (by decide))
theorem T244_0 {C : Nat → List j_V → j_H → Option j_Z} {L : Nat} {m : j_M0} {x1 : Int} : j_fin C 244 0 [some (jR 109), some (jI x1), none, none] [] (hH L m) = j_fin C 244 4 [some (jR 109), some (jI x1), some (jI 0), some (jI 0)] [] (hH L m) := by
  refine (S_iconst at_244_0).trans ?_
  refine (S_istore_n (l1 := [some (jR 109), some (jI x1), some (jI 0), none]) rfl at_244_1).trans ?_
  refine (S_iconst at_244_2).trans ?_
  refine (S_istore_n (l1 := [some (jR 109), some (jI x1), some (jI 0), some (jI 0)]) rfl at_244_3).trans ?_
  rfl
theorem T244_4 {C : Nat → List j_V → j_H → Option j_Z} {L : Nat} {m : j_M0} {x1 : Int} {x2 : Int} {x3 : Int} : j_fin C 244 4 [some (jR 109), some (jI x1), some (jI x2), some (jI x3)] [] (hH L m) = if x3 < (m 110 6) then (C 243 [jR 109, jI x3, jI x1] (hH L m)).bind fun z => j_fin C 244 22 [some (jR 109), some (jI x1), some (jI x2), some (jI x3)] (z.1.toList ++ [jI x2]) z.2 else some (some (jI x2), hH L m) := by
  refine (S_iload_n rfl at_244_4).trans ?_
  refine (S_aload_n rfl at_244_5).trans ?_
  refine (S_getR (ka_109 L _) rfl (f_109_0 L _) at_244_6).trans ?_
  refine (S_bipush at_244_9).trans ?_
  refine (H_iaload (ka_110 L _) at_244_11).trans ?_
  refine (if_pos (by decide)).trans ?_
  refine (S_icmp_ge at_244_12).trans ?_
  refine ite_congr rfl (fun _ => ?_) (fun _ => ?_)
  · refine (S_iload_n rfl at_244_15).trans ?_
    refine (S_aload_n rfl at_244_16).trans ?_
    refine (S_iload_n rfl at_244_17).trans ?_
    refine (S_iload_n rfl at_244_18).trans ?_
    refine (S_invv (b := 2) kn_243 rfl (ka_109 L _) (Nat.le_of_ble_eq_true rfl) at_244_19).trans ?_
    rfl
  · refine (S_iload_n rfl at_244_38).trans ?_
    exact S_ireti rfl at_244_39
theorem T244_22 {C : Nat → List j_V → j_H → Option j_Z} {L : Nat} {m : j_M0} {x1 : Int} {x2 : Int} {x3 : Int} {s0 : Int} {s1 : Int} : j_fin C 244 22 [some (jR 109), some (jI x1), some (jI x2), some (jI x3)] [jI s1, jI s0] (hH L m) = if s1 = 0 then j_fin C 244 4 [some (jR 109), some (jI x1), some (jI (w32 (s0 + 0))), some (jI (w32 (x3 + 1)))] [] (hH L m) else j_fin C 244 4 [some (jR 109), some (jI x1), some (jI (w32 (s0 + 1))), some (jI (w32 (x3 + 1)))] [] (hH L m) := by
  refine (S_if_eq at_244_22).trans ?_
  refine ite_congr rfl (fun _ => ?_) (fun _ => ?_)
  · refine (S_iconst at_244_29).trans ?_
    refine (S_iadd at_244_30).trans ?_
    refine (S_istore_n (l1 := [some (jR 109), some (jI x1), some (jI (w32 (s0 + 0))), some (jI x3)]) rfl at_244_31).trans ?_
    refine (S_iinc (l1 := [some (jR 109), some (jI x1), some (jI (w32 (s0 + 0))), some (jI (w32 (x3 + 1)))]) rfl rfl at_244_32).trans ?_
    refine (S_goto at_244_35).trans ?_
    rfl
  · refine (S_iconst at_244_25).trans ?_
    refine (S_goto at_244_26).trans ?_
    refine (S_iadd at_244_30).trans ?_
    refine (S_istore_n (l1 := [some (jR 109), some (jI x1), some (jI (w32 (s0 + 1))), some (jI x3)]) rfl at_244_31).trans ?_
    refine (S_iinc (l1 := [some (jR 109), some (jI x1), some (jI (w32 (s0 + 1))), some (jI (w32 (x3 + 1)))]) rfl rfl at_244_32).trans ?_
    refine (S_goto at_244_35).trans ?_
    rfl
theorem T245_0 {C : Nat → List j_V → j_H → Option j_Z} {L : Nat} {m : j_M0} {x1 : Int} {x2 : Int} : j_fin C 245 0 [some (jR 109), some (jI x1), some (jI x2), none] [] (hH L m) = (C 150 [jL x2, jL 0, jL 2] (hH L m)).bind fun z => j_fin C 245 9 [some (jR 109), some (jI x1), some (jI x2), none] (z.1.toList ++ []) z.2 := by
  refine (S_iload_n rfl at_245_0).trans ?_
  refine (S_i2l at_245_1).trans ?_
  refine (S_lconst at_245_2).trans ?_
  refine (S_ldc2_w at_245_3).trans ?_
  refine (S_invs (by decide) (Nat.le_of_ble_eq_true rfl) (Nat.le_of_ble_eq_true rfl) at_245_6).trans ?_
  rfl
theorem T245_9 {C : Nat → List j_V → j_H → Option j_Z} {L : Nat} {m : j_M0} {x1 : Int} {x2 : Int} {s0 : Int} : j_fin C 245 9 [some (jR 109), some (jI x1), some (jI x2), none] [jI s0] (hH L m) = if s0 = 0 then some (some (jI (-1)), hH L m) else j_fin C 245 16 [some (jR 109), some (jI x1), some (jI x2), some (jI 0)] [] (hH L m) := by
  refine (S_if_ne at_245_9).trans ?_
  refine ite_congr rfl (fun _ => ?_) (fun _ => ?_)
  · refine (S_iconst at_245_12).trans ?_
    exact S_ireti rfl at_245_13
  · refine (S_iconst at_245_14).trans ?_
    refine (S_istore_n (l1 := [some (jR 109), some (jI x1), some (jI x2), some (jI 0)]) rfl at_245_15).trans ?_
    rfl
theorem T245_16 {C : Nat → List j_V → j_H → Option j_Z} {L : Nat} {m : j_M0} {x1 : Int} {x2 : Int} {x3 : Int} : j_fin C 245 16 [some (jR 109), some (jI x1), some (jI x2), some (jI x3)] [] (hH L m) = if x3 < (m 110 6) then (C 244 [jR 109, jI x3] (hH L m)).bind fun z => j_fin C 245 32 [some (jR 109), some (jI x1), some (jI x2), some (jI x3)] (z.1.toList ++ []) z.2 else some (some (jI (-2)), hH L m) := by
  refine (S_iload_n rfl at_245_16).trans ?_
  refine (S_aload_n rfl at_245_17).trans ?_
  refine (S_getR (ka_109 L _) rfl (f_109_0 L _) at_245_18).trans ?_
  refine (S_bipush at_245_21).trans ?_
  refine (H_iaload (ka_110 L _) at_245_23).trans ?_
  refine (if_pos (by decide)).trans ?_
  refine (S_icmp_ge at_245_24).trans ?_
  refine ite_congr rfl (fun _ => ?_) (fun _ => ?_)
  · refine (S_aload_n rfl at_245_27).trans ?_
    refine (S_iload_n rfl at_245_28).trans ?_
    refine (S_invv (b := 1) kn_244 rfl (ka_109 L _) (Nat.le_of_ble_eq_true rfl) at_245_29).trans ?_
    rfl
  · refine (S_bipush at_245_79).trans ?_
    exact S_ireti rfl at_245_81
theorem T245_32 {C : Nat → List j_V → j_H → Option j_Z} {L : Nat} {m : j_M0} {x1 : Int} {x2 : Int} {x3 : Int} {s0 : Int} : j_fin C 245 32 [some (jR 109), some (jI x1), some (jI x2), some (jI x3)] [jI s0] (hH L m) = if s0 = x1 then if x2 = 2 then if 0 ≤ (w32 (110 + (w32 (2 * x3)))) ∧ (w32 (110 + (w32 (2 * x3)))) < 150 then (C 213 [jR 109, jI (m 110 (w32 (110 + (w32 (2 * x3)))).toNat)] (hH L m)).bind fun z => j_fin C 245 56 [some (jR 109), some (jI x1), some (jI x2), some (jI x3)] (z.1.toList ++ []) z.2 else none else if 0 ≤ (w32 ((w32 (110 + (w32 (2 * x3)))) + x2)) ∧ (w32 ((w32 (110 + (w32 (2 * x3)))) + x2)) < 150 then some (some (jI (m 110 (w32 ((w32 (110 + (w32 (2 * x3)))) + x2)).toNat)), hH L m) else none else j_fin C 245 16 [some (jR 109), some (jI x1), some (jI x2), some (jI (w32 (x3 + 1)))] [] (hH L m) := by
  refine (S_iload_n rfl at_245_32).trans ?_
  refine (S_icmp_ne at_245_33).trans ?_
  refine ite_congr rfl (fun _ => ?_) (fun _ => ?_)
  · refine (S_iload_n rfl at_245_36).trans ?_
    refine (S_iconst at_245_37).trans ?_
    refine (S_icmp_ne at_245_38).trans ?_
    refine ite_congr rfl (fun _ => ?_) (fun _ => ?_)
    · refine (S_aload_n rfl at_245_41).trans ?_
      refine (S_aload_n rfl at_245_42).trans ?_
      refine (S_getR (ka_109 L _) rfl (f_109_0 L _) at_245_43).trans ?_
      refine (S_bipush at_245_46).trans ?_
      refine (S_iconst at_245_48).trans ?_
      refine (S_iload_n rfl at_245_49).trans ?_
      refine (S_imul at_245_50).trans ?_
      refine (S_iadd at_245_51).trans ?_
      refine (H_iaload (ka_110 L _) at_245_52).trans ?_
      refine ite_congr rfl (fun hi => ?_) (fun _ => rfl)
      refine (S_invv (b := 1) kn_213 rfl (ka_109 L _) (Nat.le_of_ble_eq_true rfl) at_245_53).trans ?_
      rfl
    · refine (S_aload_n rfl at_245_59).trans ?_
      refine (S_getR (ka_109 L _) rfl (f_109_0 L _) at_245_60).trans ?_
      refine (S_bipush at_245_63).trans ?_
      refine (S_iconst at_245_65).trans ?_
      refine (S_iload_n rfl at_245_66).trans ?_
      refine (S_imul at_245_67).trans ?_
      refine (S_iadd at_245_68).trans ?_
      refine (S_iload_n rfl at_245_69).trans ?_
      refine (S_iadd at_245_70).trans ?_
      refine (H_iaload (ka_110 L _) at_245_71).trans ?_
      refine ite_congr rfl (fun hi => ?_) (fun _ => rfl)
      exact S_ireti rfl at_245_72
  · refine (S_iinc (l1 := [some (jR 109), some (jI x1), some (jI x2), some (jI (w32 (x3 + 1)))]) rfl rfl at_245_73).trans ?_
    refine (S_goto at_245_76).trans ?_
    rfl
theorem T245_56 {C : Nat → List j_V → j_H → Option j_Z} {L : Nat} {m : j_M0} {x1 : Int} {x2 : Int} {x3 : Int} {s0 : Int} : j_fin C 245 56 [some (jR 109), some (jI x1), some (jI x2), some (jI x3)] [jI s0] (hH L m) = some (some (jI s0), hH L m) := by
  refine (S_goto at_245_56).trans ?_
  exact S_ireti rfl at_245_72
theorem T246_0 {C : Nat → List j_V → j_H → Option j_Z} {L : Nat} {m : j_M0} {x1 : Int} : j_fin C 246 0 [some (jR 109), some (jI x1), none, none] [] (hH L m) = j_fin C 246 4 [some (jR 109), some (jI x1), some (jI (-1)), some (jI 0)] [] (hH L m) := by
  refine (S_iconst at_246_0).trans ?_
  refine (S_istore_n (l1 := [some (jR 109), some (jI x1), some (jI (-1)), none]) rfl at_246_1).trans ?_
  refine (S_iconst at_246_2).trans ?_
  refine (S_istore_n (l1 := [some (jR 109), some (jI x1), some (jI (-1)), some (jI 0)]) rfl at_246_3).trans ?_
  rfl
theorem T246_4 {C : Nat → List j_V → j_H → Option j_Z} {L : Nat} {m : j_M0} {x1 : Int} {x2 : Int} {x3 : Int} : j_fin C 246 4 [some (jR 109), some (jI x1), some (jI x2), some (jI x3)] [] (hH L m) = if x3 < (m 110 6) then if 0 ≤ (w32 (110 + (w32 (2 * x3)))) ∧ (w32 (110 + (w32 (2 * x3)))) < 150 then (C 213 [jR 109, jI (m 110 (w32 (110 + (w32 (2 * x3)))).toNat)] (hH L m)).bind fun z => j_fin C 246 30 [some (jR 109), some (jI x1), some (jI x2), some (jI x3)] (z.1.toList ++ []) z.2 else none else if x2 < 0 then some (some (jI (-5)), hH L m) else if 0 ≤ (w32 (110 + (w32 (2 * x2)))) ∧ (w32 (110 + (w32 (2 * x2)))) < 150 then some (some (jI (m 110 (w32 (110 + (w32 (2 * x2)))).toNat)), hH L m) else none := by
  refine (S_iload_n rfl at_246_4).trans ?_
  refine (S_aload_n rfl at_246_5).trans ?_
  refine (S_getR (ka_109 L _) rfl (f_109_0 L _) at_246_6).trans ?_
  refine (S_bipush at_246_9).trans ?_
  refine (H_iaload (ka_110 L _) at_246_11).trans ?_
  refine (if_pos (by decide)).trans ?_
  refine (S_icmp_ge at_246_12).trans ?_
  refine ite_congr rfl (fun _ => ?_) (fun _ => ?_)
  · refine (S_aload_n rfl at_246_15).trans ?_
    refine (S_aload_n rfl at_246_16).trans ?_
    refine (S_getR (ka_109 L _) rfl (f_109_0 L _) at_246_17).trans ?_
    refine (S_bipush at_246_20).trans ?_
    refine (S_iconst at_246_22).trans ?_
    refine (S_iload_n rfl at_246_23).trans ?_
    refine (S_imul at_246_24).trans ?_
    refine (S_iadd at_246_25).trans ?_
    refine (H_iaload (ka_110 L _) at_246_26).trans ?_
    refine ite_congr rfl (fun hi => ?_) (fun _ => rfl)
    refine (S_invv (b := 1) kn_213 rfl (ka_109 L _) (Nat.le_of_ble_eq_true rfl) at_246_27).trans ?_
    rfl
  · refine (S_iload_n rfl at_246_55).trans ?_
    refine (S_if_ge at_246_56).trans ?_
    refine ite_congr rfl (fun _ => ?_) (fun _ => ?_)
    · refine (S_bipush at_246_59).trans ?_
      refine (S_goto at_246_61).trans ?_
      exact S_ireti rfl at_246_75
    · refine (S_aload_n rfl at_246_64).trans ?_
      refine (S_getR (ka_109 L _) rfl (f_109_0 L _) at_246_65).trans ?_
      refine (S_bipush at_246_68).trans ?_
      refine (S_iconst at_246_70).trans ?_
      refine (S_iload_n rfl at_246_71).trans ?_
      refine (S_imul at_246_72).trans ?_
      refine (S_iadd at_246_73).trans ?_
      refine (H_iaload (ka_110 L _) at_246_74).trans ?_
      refine ite_congr rfl (fun hi => ?_) (fun _ => rfl)
      exact S_ireti rfl at_246_75
theorem T246_30 {C : Nat → List j_V → j_H → Option j_Z} {L : Nat} {m : j_M0} {x1 : Int} {x2 : Int} {x3 : Int} {s0 : Int} : j_fin C 246 30 [some (jR 109), some (jI x1), some (jI x2), some (jI x3)] [jI s0] (hH L m) = if x1 < s0 then j_fin C 246 4 [some (jR 109), some (jI x1), some (jI x2), some (jI (w32 (x3 + 1)))] [] (hH L m) else if x2 < 0 then j_fin C 246 4 [some (jR 109), some (jI x1), some (jI x3), some (jI (w32 (x3 + 1)))] [] (hH L m) else (C 243 [jR 109, jI x2, jI x3] (hH L m)).bind fun z => j_fin C 246 44 [some (jR 109), some (jI x1), some (jI x2), some (jI x3)] (z.1.toList ++ []) z.2 := by
  refine (S_iload_n rfl at_246_30).trans ?_
  refine (S_icmp_gt at_246_31).trans ?_
  refine ite_congr rfl (fun _ => ?_) (fun _ => ?_)
  · refine (S_iinc (l1 := [some (jR 109), some (jI x1), some (jI x2), some (jI (w32 (x3 + 1)))]) rfl rfl at_246_49).trans ?_
    refine (S_goto at_246_52).trans ?_
    rfl
  · refine (S_iload_n rfl at_246_34).trans ?_
    refine (S_if_lt at_246_35).trans ?_
    refine ite_congr rfl (fun _ => ?_) (fun _ => ?_)
    · refine (S_iload_n rfl at_246_47).trans ?_
      refine (S_istore_n (l1 := [some (jR 109), some (jI x1), some (jI x3), some (jI x3)]) rfl at_246_48).trans ?_
      refine (S_iinc (l1 := [some (jR 109), some (jI x1), some (jI x3), some (jI (w32 (x3 + 1)))]) rfl rfl at_246_49).trans ?_
      refine (S_goto at_246_52).trans ?_
      rfl
    · refine (S_aload_n rfl at_246_38).trans ?_
      refine (S_iload_n rfl at_246_39).trans ?_
      refine (S_iload_n rfl at_246_40).trans ?_
      refine (S_invv (b := 2) kn_243 rfl (ka_109 L _) (Nat.le_of_ble_eq_true rfl) at_246_41).trans ?_
      rfl
theorem T246_44 {C : Nat → List j_V → j_H → Option j_Z} {L : Nat} {m : j_M0} {x1 : Int} {x2 : Int} {x3 : Int} {s0 : Int} : j_fin C 246 44 [some (jR 109), some (jI x1), some (jI x2), some (jI x3)] [jI s0] (hH L m) = if s0 = 0 then j_fin C 246 4 [some (jR 109), some (jI x1), some (jI x2), some (jI (w32 (x3 + 1)))] [] (hH L m) else j_fin C 246 4 [some (jR 109), some (jI x1), some (jI x3), some (jI (w32 (x3 + 1)))] [] (hH L m) := by
  refine (S_if_eq at_246_44).trans ?_
  refine ite_congr rfl (fun _ => ?_) (fun _ => ?_)
  · refine (S_iinc (l1 := [some (jR 109), some (jI x1), some (jI x2), some (jI (w32 (x3 + 1)))]) rfl rfl at_246_49).trans ?_
    refine (S_goto at_246_52).trans ?_
    rfl
  · refine (S_iload_n rfl at_246_47).trans ?_
    refine (S_istore_n (l1 := [some (jR 109), some (jI x1), some (jI x3), some (jI x3)]) rfl at_246_48).trans ?_
    refine (S_iinc (l1 := [some (jR 109), some (jI x1), some (jI x3), some (jI (w32 (x3 + 1)))]) rfl rfl at_246_49).trans ?_
    refine (S_goto at_246_52).trans ?_
    rfl
theorem T247_0 {C : Nat → List j_V → j_H → Option j_Z} {L : Nat} {m : j_M0} {x1 : Int} : j_fin C 247 0 [some (jR 109), some (jI x1)] [] (hH L m) = if 0 ≤ (w32 ((w32 (110 + (w32 (2 * x1)))) + 1)) ∧ (w32 ((w32 (110 + (w32 (2 * x1)))) + 1)) < 150 then if 0 ≤ (w32 (110 + (w32 (2 * x1)))) ∧ (w32 (110 + (w32 (2 * x1)))) < 150 then (C 213 [jR 109, jI (m 110 (w32 (110 + (w32 (2 * x1)))).toNat)] (hH L m)).bind fun z => j_fin C 247 28 [some (jR 109), some (jI x1)] (z.1.toList ++ [jI (m 110 (w32 ((w32 (110 + (w32 (2 * x1)))) + 1)).toNat)]) z.2 else none else none := by
  refine (S_aload_n rfl at_247_0).trans ?_
  refine (S_getR (ka_109 L _) rfl (f_109_0 L _) at_247_1).trans ?_
  refine (S_bipush at_247_4).trans ?_
  refine (S_iconst at_247_6).trans ?_
  refine (S_iload_n rfl at_247_7).trans ?_
  refine (S_imul at_247_8).trans ?_
  refine (S_iadd at_247_9).trans ?_
  refine (S_iconst at_247_10).trans ?_
  refine (S_iadd at_247_11).trans ?_
  refine (H_iaload (ka_110 L _) at_247_12).trans ?_
  refine ite_congr rfl (fun hi => ?_) (fun _ => rfl)
  refine (S_aload_n rfl at_247_13).trans ?_
  refine (S_aload_n rfl at_247_14).trans ?_
  refine (S_getR (ka_109 L _) rfl (f_109_0 L _) at_247_15).trans ?_
  refine (S_bipush at_247_18).trans ?_
  refine (S_iconst at_247_20).trans ?_
  refine (S_iload_n rfl at_247_21).trans ?_
  refine (S_imul at_247_22).trans ?_
  refine (S_iadd at_247_23).trans ?_
  refine (H_iaload (ka_110 L _) at_247_24).trans ?_
  refine ite_congr rfl (fun hi => ?_) (fun _ => rfl)
  refine (S_invv (b := 1) kn_213 rfl (ka_109 L _) (Nat.le_of_ble_eq_true rfl) at_247_25).trans ?_
  rfl
theorem T247_28 {C : Nat → List j_V → j_H → Option j_Z} {L : Nat} {m : j_M0} {x1 : Int} {s0 : Int} {s1 : Int} : j_fin C 247 28 [some (jR 109), some (jI x1)] [jI s1, jI s0] (hH L m) = some (some (jI (w32 (s0 - s1))), hH L m) := by
  refine (S_isub at_247_28).trans ?_
  exact S_ireti rfl at_247_29
theorem T248_0 {C : Nat → List j_V → j_H → Option j_Z} {L : Nat} {m : j_M0} : j_fin C 248 0 [some (jR 109), none, none] [] (hH L m) = j_fin C 248 4 [some (jR 109), some (jI (-1)), some (jI 0)] [] (hH L m) := by
  refine (S_iconst at_248_0).trans ?_
  refine (S_istore_n (l1 := [some (jR 109), some (jI (-1)), none]) rfl at_248_1).trans ?_
  refine (S_iconst at_248_2).trans ?_
  refine (S_istore_n (l1 := [some (jR 109), some (jI (-1)), some (jI 0)]) rfl at_248_3).trans ?_
  rfl
theorem T248_4 {C : Nat → List j_V → j_H → Option j_Z} {L : Nat} {m : j_M0} {x1 : Int} {x2 : Int} : j_fin C 248 4 [some (jR 109), some (jI x1), some (jI x2)] [] (hH L m) = if x2 < (m 110 6) then if x1 < 0 then j_fin C 248 4 [some (jR 109), some (jI x2), some (jI (w32 (x2 + 1)))] [] (hH L m) else (C 247 [jR 109, jI x2] (hH L m)).bind fun z => j_fin C 248 24 [some (jR 109), some (jI x1), some (jI x2)] (z.1.toList ++ []) z.2 else if x1 < 0 then some (some (jI (-5)), hH L m) else if 0 ≤ (w32 (110 + (w32 (2 * x1)))) ∧ (w32 (110 + (w32 (2 * x1)))) < 150 then some (some (jI (m 110 (w32 (110 + (w32 (2 * x1)))).toNat)), hH L m) else none := by
  refine (S_iload_n rfl at_248_4).trans ?_
  refine (S_aload_n rfl at_248_5).trans ?_
  refine (S_getR (ka_109 L _) rfl (f_109_0 L _) at_248_6).trans ?_
  refine (S_bipush at_248_9).trans ?_
  refine (H_iaload (ka_110 L _) at_248_11).trans ?_
  refine (if_pos (by decide)).trans ?_
  refine (S_icmp_ge at_248_12).trans ?_
  refine ite_congr rfl (fun _ => ?_) (fun _ => ?_)
  · refine (S_iload_n rfl at_248_15).trans ?_
    refine (S_if_lt at_248_16).trans ?_
    refine ite_congr rfl (fun _ => ?_) (fun _ => ?_)
    · refine (S_iload_n rfl at_248_54).trans ?_
      refine (S_istore_n (l1 := [some (jR 109), some (jI x2), some (jI x2)]) rfl at_248_55).trans ?_
      refine (S_iinc (l1 := [some (jR 109), some (jI x2), some (jI (w32 (x2 + 1)))]) rfl rfl at_248_56).trans ?_
      refine (S_goto at_248_59).trans ?_
      rfl
    · refine (S_aload_n rfl at_248_19).trans ?_
      refine (S_iload_n rfl at_248_20).trans ?_
      refine (S_invv (b := 1) kn_247 rfl (ka_109 L _) (Nat.le_of_ble_eq_true rfl) at_248_21).trans ?_
      rfl
  · refine (S_iload_n rfl at_248_62).trans ?_
    refine (S_if_ge at_248_63).trans ?_
    refine ite_congr rfl (fun _ => ?_) (fun _ => ?_)
    · refine (S_bipush at_248_66).trans ?_
      refine (S_goto at_248_68).trans ?_
      exact S_ireti rfl at_248_82
    · refine (S_aload_n rfl at_248_71).trans ?_
      refine (S_getR (ka_109 L _) rfl (f_109_0 L _) at_248_72).trans ?_
      refine (S_bipush at_248_75).trans ?_
      refine (S_iconst at_248_77).trans ?_
      refine (S_iload_n rfl at_248_78).trans ?_
      refine (S_imul at_248_79).trans ?_
      refine (S_iadd at_248_80).trans ?_
      refine (H_iaload (ka_110 L _) at_248_81).trans ?_
      refine ite_congr rfl (fun hi => ?_) (fun _ => rfl)
      exact S_ireti rfl at_248_82
theorem T248_24 {C : Nat → List j_V → j_H → Option j_Z} {L : Nat} {m : j_M0} {x1 : Int} {x2 : Int} {s0 : Int} : j_fin C 248 24 [some (jR 109), some (jI x1), some (jI x2)] [jI s0] (hH L m) = (C 247 [jR 109, jI x1] (hH L m)).bind fun z => j_fin C 248 29 [some (jR 109), some (jI x1), some (jI x2)] (z.1.toList ++ [jI s0]) z.2 := by
  refine (S_aload_n rfl at_248_24).trans ?_
  refine (S_iload_n rfl at_248_25).trans ?_
  refine (S_invv (b := 1) kn_247 rfl (ka_109 L _) (Nat.le_of_ble_eq_true rfl) at_248_26).trans ?_
  rfl
theorem T248_29 {C : Nat → List j_V → j_H → Option j_Z} {L : Nat} {m : j_M0} {x1 : Int} {x2 : Int} {s0 : Int} {s1 : Int} : j_fin C 248 29 [some (jR 109), some (jI x1), some (jI x2)] [jI s1, jI s0] (hH L m) = if s1 < s0 then j_fin C 248 4 [some (jR 109), some (jI x2), some (jI (w32 (x2 + 1)))] [] (hH L m) else (C 247 [jR 109, jI x2] (hH L m)).bind fun z => j_fin C 248 37 [some (jR 109), some (jI x1), some (jI x2)] (z.1.toList ++ []) z.2 := by
  refine (S_icmp_gt at_248_29).trans ?_
  refine ite_congr rfl (fun _ => ?_) (fun _ => ?_)
  · refine (S_iload_n rfl at_248_54).trans ?_
    refine (S_istore_n (l1 := [some (jR 109), some (jI x2), some (jI x2)]) rfl at_248_55).trans ?_
    refine (S_iinc (l1 := [some (jR 109), some (jI x2), some (jI (w32 (x2 + 1)))]) rfl rfl at_248_56).trans ?_
    refine (S_goto at_248_59).trans ?_
    rfl
  · refine (S_aload_n rfl at_248_32).trans ?_
    refine (S_iload_n rfl at_248_33).trans ?_
    refine (S_invv (b := 1) kn_247 rfl (ka_109 L _) (Nat.le_of_ble_eq_true rfl) at_248_34).trans ?_
    rfl
theorem T248_37 {C : Nat → List j_V → j_H → Option j_Z} {L : Nat} {m : j_M0} {x1 : Int} {x2 : Int} {s0 : Int} : j_fin C 248 37 [some (jR 109), some (jI x1), some (jI x2)] [jI s0] (hH L m) = (C 247 [jR 109, jI x1] (hH L m)).bind fun z => j_fin C 248 42 [some (jR 109), some (jI x1), some (jI x2)] (z.1.toList ++ [jI s0]) z.2 := by
  refine (S_aload_n rfl at_248_37).trans ?_
  refine (S_iload_n rfl at_248_38).trans ?_
  refine (S_invv (b := 1) kn_247 rfl (ka_109 L _) (Nat.le_of_ble_eq_true rfl) at_248_39).trans ?_
  rfl
theorem T248_42 {C : Nat → List j_V → j_H → Option j_Z} {L : Nat} {m : j_M0} {x1 : Int} {x2 : Int} {s0 : Int} {s1 : Int} : j_fin C 248 42 [some (jR 109), some (jI x1), some (jI x2)] [jI s1, jI s0] (hH L m) = if s0 = s1 then (C 243 [jR 109, jI x2, jI x1] (hH L m)).bind fun z => j_fin C 248 51 [some (jR 109), some (jI x1), some (jI x2)] (z.1.toList ++ []) z.2 else j_fin C 248 4 [some (jR 109), some (jI x1), some (jI (w32 (x2 + 1)))] [] (hH L m) := by
  refine (S_icmp_ne at_248_42).trans ?_
  refine ite_congr rfl (fun _ => ?_) (fun _ => ?_)
  · refine (S_aload_n rfl at_248_45).trans ?_
    refine (S_iload_n rfl at_248_46).trans ?_
    refine (S_iload_n rfl at_248_47).trans ?_
    refine (S_invv (b := 2) kn_243 rfl (ka_109 L _) (Nat.le_of_ble_eq_true rfl) at_248_48).trans ?_
    rfl
  · refine (S_iinc (l1 := [some (jR 109), some (jI x1), some (jI (w32 (x2 + 1)))]) rfl rfl at_248_56).trans ?_
    refine (S_goto at_248_59).trans ?_
    rfl
theorem T248_51 {C : Nat → List j_V → j_H → Option j_Z} {L : Nat} {m : j_M0} {x1 : Int} {x2 : Int} {s0 : Int} : j_fin C 248 51 [some (jR 109), some (jI x1), some (jI x2)] [jI s0] (hH L m) = if s0 = 0 then j_fin C 248 4 [some (jR 109), some (jI x1), some (jI (w32 (x2 + 1)))] [] (hH L m) else j_fin C 248 4 [some (jR 109), some (jI x2), some (jI (w32 (x2 + 1)))] [] (hH L m) := by
  refine (S_if_eq at_248_51).trans ?_
  refine ite_congr rfl (fun _ => ?_) (fun _ => ?_)
  · refine (S_iinc (l1 := [some (jR 109), some (jI x1), some (jI (w32 (x2 + 1)))]) rfl rfl at_248_56).trans ?_
    refine (S_goto at_248_59).trans ?_
    rfl
  · refine (S_iload_n rfl at_248_54).trans ?_
    refine (S_istore_n (l1 := [some (jR 109), some (jI x2), some (jI x2)]) rfl at_248_55).trans ?_
    refine (S_iinc (l1 := [some (jR 109), some (jI x2), some (jI (w32 (x2 + 1)))]) rfl rfl at_248_56).trans ?_
    refine (S_goto at_248_59).trans ?_
    rfl
theorem T249_0 {C : Nat → List j_V → j_H → Option j_Z} {L : Nat} {m : j_M0} {x0 : Int} {x1 : Int} : j_fin C 249 0 [some (jI x0), some (jI x1)] [] (hH L m) = if x0 = 0 then (C 150 [jL x1, jL (-99), jL 999] (hH L m)).bind fun z => j_fin C 249 15 [some (jI x0), some (jI x1)] (z.1.toList ++ []) z.2 else if x0 = 1 then (C 150 [jL x1, jL 0, jL 99] (hH L m)).bind fun z => j_fin C 249 32 [some (jI x0), some (jI x1)] (z.1.toList ++ []) z.2 else (C 150 [jL x1, jL (-9), jL 9] (hH L m)).bind fun z => j_fin C 249 46 [some (jI x0), some (jI x1)] (z.1.toList ++ []) z.2 := by
  refine (S_iload_n rfl at_249_0).trans ?_
  refine (S_if_ne at_249_1).trans ?_
  refine ite_congr rfl (fun _ => ?_) (fun _ => ?_)
  · refine (S_iload_n rfl at_249_4).trans ?_
    refine (S_i2l at_249_5).trans ?_
    refine (S_ldc2_w at_249_6).trans ?_
    refine (S_ldc2_w at_249_9).trans ?_
    refine (S_invs (by decide) (Nat.le_of_ble_eq_true rfl) (Nat.le_of_ble_eq_true rfl) at_249_12).trans ?_
    rfl
  · refine (S_iload_n rfl at_249_18).trans ?_
    refine (S_iconst at_249_19).trans ?_
    refine (S_icmp_ne at_249_20).trans ?_
    refine ite_congr rfl (fun _ => ?_) (fun _ => ?_)
    · refine (S_iload_n rfl at_249_23).trans ?_
      refine (S_i2l at_249_24).trans ?_
      refine (S_lconst at_249_25).trans ?_
      refine (S_ldc2_w at_249_26).trans ?_
      refine (S_invs (by decide) (Nat.le_of_ble_eq_true rfl) (Nat.le_of_ble_eq_true rfl) at_249_29).trans ?_
      rfl
    · refine (S_iload_n rfl at_249_35).trans ?_
      refine (S_i2l at_249_36).trans ?_
      refine (S_ldc2_w at_249_37).trans ?_
      refine (S_ldc2_w at_249_40).trans ?_
      refine (S_invs (by decide) (Nat.le_of_ble_eq_true rfl) (Nat.le_of_ble_eq_true rfl) at_249_43).trans ?_
      rfl
theorem T249_15 {C : Nat → List j_V → j_H → Option j_Z} {L : Nat} {m : j_M0} {x0 : Int} {x1 : Int} {s0 : Int} : j_fin C 249 15 [some (jI x0), some (jI x1)] [jI s0] (hH L m) = j_fin C 249 46 [some (jI x0), some (jI x1)] [jI s0] (hH L m) := by
  refine (S_goto at_249_15).trans ?_
  rfl
theorem T249_32 {C : Nat → List j_V → j_H → Option j_Z} {L : Nat} {m : j_M0} {x0 : Int} {x1 : Int} {s0 : Int} : j_fin C 249 32 [some (jI x0), some (jI x1)] [jI s0] (hH L m) = j_fin C 249 46 [some (jI x0), some (jI x1)] [jI s0] (hH L m) := by
  refine (S_goto at_249_32).trans ?_
  rfl
theorem T249_46 {C : Nat → List j_V → j_H → Option j_Z} {L : Nat} {m : j_M0} {x0 : Int} {x1 : Int} {s0 : Int} : j_fin C 249 46 [some (jI x0), some (jI x1)] [jI s0] (hH L m) = if s0 = 0 ∨ s0 = 1 then some (some (jI s0), hH L m) else none := by
  exact S_iretz rfl at_249_46
theorem T250_0 {C : Nat → List j_V → j_H → Option j_Z} {L : Nat} {m : j_M0} {x1 : Int} {x2 : Int} {x3 : Int} : j_fin C 250 0 [some (jR 109), some (jI x1), some (jI x2), some (jI x3), none] [] (hH L m) = if x1 = (-1) then some (some (jI 0), hH L (j_up m 110 5 0)) else (C 150 [jL x1, jL 0, jL 2] (hH L m)).bind fun z => j_fin C 250 23 [some (jR 109), some (jI x1), some (jI x2), some (jI x3), none] (z.1.toList ++ []) z.2 := by
  refine (S_iload_n rfl at_250_0).trans ?_
  refine (S_iconst at_250_1).trans ?_
  refine (S_icmp_ne at_250_2).trans ?_
  refine ite_congr rfl (fun _ => ?_) (fun _ => ?_)
  · refine (S_aload_n rfl at_250_5).trans ?_
    refine (S_getR (ka_109 L _) rfl (f_109_0 L _) at_250_6).trans ?_
    refine (S_iconst at_250_9).trans ?_
    refine (S_iconst at_250_10).trans ?_
    refine (H_iastore (by omega) (ka_110 L _) at_250_11).trans ?_
    refine (if_pos (by decide)).trans ?_
    refine (S_iconst at_250_12).trans ?_
    exact S_ireti rfl at_250_13
  · refine (S_iload_n rfl at_250_14).trans ?_
    refine (S_i2l at_250_15).trans ?_
    refine (S_lconst at_250_16).trans ?_
    refine (S_ldc2_w at_250_17).trans ?_
    refine (S_invs (by decide) (Nat.le_of_ble_eq_true rfl) (Nat.le_of_ble_eq_true rfl) at_250_20).trans ?_
    rfl
theorem T250_23 {C : Nat → List j_V → j_H → Option j_Z} {L : Nat} {m : j_M0} {x1 : Int} {x2 : Int} {x3 : Int} {s0 : Int} : j_fin C 250 23 [some (jR 109), some (jI x1), some (jI x2), some (jI x3), none] [jI s0] (hH L m) = if s0 = 0 then some (some (jI (-1)), hH L m) else if x1 = 1 then (C 152 [jR 109, jI x2] (hH L m)).bind fun z => j_fin C 250 36 [some (jR 109), some (jI x1), some (jI x2), some (jI x3), none] (z.1.toList ++ []) z.2 else (C 153 [jR 109, jI x2] (hH L m)).bind fun z => j_fin C 250 47 [some (jR 109), some (jI x1), some (jI x2), some (jI x3), none] (z.1.toList ++ []) z.2 := by
  refine (S_if_eq at_250_23).trans ?_
  refine ite_congr rfl (fun _ => ?_) (fun _ => ?_)
  · refine (S_iconst at_250_50).trans ?_
    exact S_ireti rfl at_250_51
  · refine (S_iload_n rfl at_250_26).trans ?_
    refine (S_iconst at_250_27).trans ?_
    refine (S_icmp_ne at_250_28).trans ?_
    refine ite_congr rfl (fun _ => ?_) (fun _ => ?_)
    · refine (S_aload_n rfl at_250_31).trans ?_
      refine (S_iload_n rfl at_250_32).trans ?_
      refine (S_invv (b := 1) kn_152 rfl (ka_109 L _) (Nat.le_of_ble_eq_true rfl) at_250_33).trans ?_
      rfl
    · refine (S_aload_n rfl at_250_42).trans ?_
      refine (S_iload_n rfl at_250_43).trans ?_
      refine (S_invv (b := 1) kn_153 rfl (ka_109 L _) (Nat.le_of_ble_eq_true rfl) at_250_44).trans ?_
      rfl
theorem T250_36 {C : Nat → List j_V → j_H → Option j_Z} {L : Nat} {m : j_M0} {x1 : Int} {x2 : Int} {x3 : Int} {s0 : Int} : j_fin C 250 36 [some (jR 109), some (jI x1), some (jI x2), some (jI x3), none] [jI s0] (hH L m) = if s0 = 0 then some (some (jI (-1)), hH L m) else (C 249 [jI x1, jI x3] (hH L m)).bind fun z => j_fin C 250 57 [some (jR 109), some (jI x1), some (jI x2), some (jI x3), none] (z.1.toList ++ []) z.2 := by
  refine (S_if_ne at_250_36).trans ?_
  refine ite_congr rfl (fun _ => ?_) (fun _ => ?_)
  · refine (S_goto at_250_39).trans ?_
    refine (S_iconst at_250_50).trans ?_
    exact S_ireti rfl at_250_51
  · refine (S_iload_n rfl at_250_52).trans ?_
    refine (S_iload_n rfl at_250_53).trans ?_
    refine (S_invs (by decide) (Nat.le_of_ble_eq_true rfl) (Nat.le_of_ble_eq_true rfl) at_250_54).trans ?_
    rfl
theorem T250_47 {C : Nat → List j_V → j_H → Option j_Z} {L : Nat} {m : j_M0} {x1 : Int} {x2 : Int} {x3 : Int} {s0 : Int} : j_fin C 250 47 [some (jR 109), some (jI x1), some (jI x2), some (jI x3), none] [jI s0] (hH L m) = if s0 = 0 then some (some (jI (-1)), hH L m) else (C 249 [jI x1, jI x3] (hH L m)).bind fun z => j_fin C 250 57 [some (jR 109), some (jI x1), some (jI x2), some (jI x3), none] (z.1.toList ++ []) z.2 := by
  refine (S_if_ne at_250_47).trans ?_
  refine ite_congr rfl (fun _ => ?_) (fun _ => ?_)
  · refine (S_iconst at_250_50).trans ?_
    exact S_ireti rfl at_250_51
  · refine (S_iload_n rfl at_250_52).trans ?_
    refine (S_iload_n rfl at_250_53).trans ?_
    refine (S_invs (by decide) (Nat.le_of_ble_eq_true rfl) (Nat.le_of_ble_eq_true rfl) at_250_54).trans ?_
    rfl
theorem T250_57 {C : Nat → List j_V → j_H → Option j_Z} {L : Nat} {m : j_M0} {x1 : Int} {x2 : Int} {x3 : Int} {s0 : Int} : j_fin C 250 57 [some (jR 109), some (jI x1), some (jI x2), some (jI x3), none] [jI s0] (hH L m) = if s0 = 0 then some (some (jI (-2)), hH L m) else if (m 110 5) = 8 then some (some (jI (-4)), hH L m) else if 0 ≤ (w32 (86 + (w32 (3 * (m 110 5))))) ∧ (w32 (86 + (w32 (3 * (m 110 5))))) < 150 then if 0 ≤ (w32 ((w32 (86 + (w32 (3 * (m 110 5))))) + 1)) ∧ (w32 ((w32 (86 + (w32 (3 * (m 110 5))))) + 1)) < 150 then if 0 ≤ (w32 ((w32 (86 + (w32 (3 * (m 110 5))))) + 2)) ∧ (w32 ((w32 (86 + (w32 (3 * (m 110 5))))) + 2)) < 150 then some (some (jI ((j_up (j_up (j_up (j_up m 110 (w32 (86 + (w32 (3 * (m 110 5))))).toNat x1) 110 (w32 ((w32 (86 + (w32 (3 * (m 110 5))))) + 1)).toNat x2) 110 (w32 ((w32 (86 + (w32 (3 * (m 110 5))))) + 2)).toNat x3) 110 5 (w32 (((j_up (j_up (j_up m 110 (w32 (86 + (w32 (3 * (m 110 5))))).toNat x1) 110 (w32 ((w32 (86 + (w32 (3 * (m 110 5))))) + 1)).toNat x2) 110 (w32 ((w32 (86 + (w32 (3 * (m 110 5))))) + 2)).toNat x3) 110 5) + 1))) 110 5)), hH L (j_up (j_up (j_up (j_up m 110 (w32 (86 + (w32 (3 * (m 110 5))))).toNat x1) 110 (w32 ((w32 (86 + (w32 (3 * (m 110 5))))) + 1)).toNat x2) 110 (w32 ((w32 (86 + (w32 (3 * (m 110 5))))) + 2)).toNat x3) 110 5 (w32 (((j_up (j_up (j_up m 110 (w32 (86 + (w32 (3 * (m 110 5))))).toNat x1) 110 (w32 ((w32 (86 + (w32 (3 * (m 110 5))))) + 1)).toNat x2) 110 (w32 ((w32 (86 + (w32 (3 * (m 110 5))))) + 2)).toNat x3) 110 5) + 1)))) else none else none else none := by
  refine (S_if_ne at_250_57).trans ?_
  refine ite_congr rfl (fun _ => ?_) (fun _ => ?_)
  · refine (S_bipush at_250_60).trans ?_
    exact S_ireti rfl at_250_62
  · refine (S_aload_n rfl at_250_63).trans ?_
    refine (S_getR (ka_109 L _) rfl (f_109_0 L _) at_250_64).trans ?_
    refine (S_iconst at_250_67).trans ?_
    refine (H_iaload (ka_110 L _) at_250_68).trans ?_
    refine (if_pos (by decide)).trans ?_
    refine (S_bipush at_250_69).trans ?_
    refine (S_icmp_ne at_250_71).trans ?_
    refine ite_congr rfl (fun _ => ?_) (fun _ => ?_)
    · refine (S_bipush at_250_74).trans ?_
      exact S_ireti rfl at_250_76
    · refine (S_bipush at_250_77).trans ?_
      refine (S_iconst at_250_79).trans ?_
      refine (S_aload_n rfl at_250_80).trans ?_
      refine (S_getR (ka_109 L _) rfl (f_109_0 L _) at_250_81).trans ?_
      refine (S_iconst at_250_84).trans ?_
      refine (H_iaload (ka_110 L _) at_250_85).trans ?_
      refine (if_pos (by decide)).trans ?_
      refine (S_imul at_250_86).trans ?_
      refine (S_iadd at_250_87).trans ?_
      refine (S_istore (l1 := [some (jR 109), some (jI x1), some (jI x2), some (jI x3), some (jI (w32 (86 + (w32 (3 * (m 110 5))))))]) rfl at_250_88).trans ?_
      refine (S_aload_n rfl at_250_90).trans ?_
      refine (S_getR (ka_109 L _) rfl (f_109_0 L _) at_250_91).trans ?_
      refine (S_iload rfl at_250_94).trans ?_
      refine (S_iload_n rfl at_250_96).trans ?_
      refine (H_iastore (by omega) (ka_110 L _) at_250_97).trans ?_
      refine ite_congr rfl (fun hi => ?_) (fun _ => rfl)
      refine (S_aload_n rfl at_250_98).trans ?_
      refine (S_getR (ka_109 L _) rfl (f_109_0 L _) at_250_99).trans ?_
      refine (S_iload rfl at_250_102).trans ?_
      refine (S_iconst at_250_104).trans ?_
      refine (S_iadd at_250_105).trans ?_
      refine (S_iload_n rfl at_250_106).trans ?_
      refine (H_iastore (by omega) (ka_110 L _) at_250_107).trans ?_
      refine ite_congr rfl (fun hi => ?_) (fun _ => rfl)
      refine (S_aload_n rfl at_250_108).trans ?_
      refine (S_getR (ka_109 L _) rfl (f_109_0 L _) at_250_109).trans ?_
      refine (S_iload rfl at_250_112).trans ?_
      refine (S_iconst at_250_114).trans ?_
      refine (S_iadd at_250_115).trans ?_
      refine (S_iload_n rfl at_250_116).trans ?_
      refine (H_iastore (by omega) (ka_110 L _) at_250_117).trans ?_
      refine ite_congr rfl (fun hi => ?_) (fun _ => rfl)
      refine (S_aload_n rfl at_250_118).trans ?_
      refine (S_getR (ka_109 L _) rfl (f_109_0 L _) at_250_119).trans ?_
      refine (S_iconst at_250_122).trans ?_
      refine (S_dup2RI at_250_123).trans ?_
      refine (H_iaload (ka_110 L _) at_250_124).trans ?_
      refine (if_pos (by decide)).trans ?_
      refine (S_iconst at_250_125).trans ?_
      refine (S_iadd at_250_126).trans ?_
      refine (H_iastore (by omega) (ka_110 L _) at_250_127).trans ?_
      refine (if_pos (by decide)).trans ?_
      refine (S_aload_n rfl at_250_128).trans ?_
      refine (S_getR (ka_109 L _) rfl (f_109_0 L _) at_250_129).trans ?_
      refine (S_iconst at_250_132).trans ?_
      refine (H_iaload (ka_110 L _) at_250_133).trans ?_
      refine (if_pos (by decide)).trans ?_
      exact S_ireti rfl at_250_134
theorem T251_0 {C : Nat → List j_V → j_H → Option j_Z} {L : Nat} {m : j_M0} {x1 : Int} {x2 : Int} {x3 : Int} : j_fin C 251 0 [some (jR 109), some (jI x1), some (jI x2), some (jI x3)] [] (hH L m) = if x1 = 1 then (C 152 [jR 109, jI x2] (hH L m)).bind fun z => j_fin C 251 10 [some (jR 109), some (jI x1), some (jI x2), some (jI x3)] (z.1.toList ++ []) z.2 else if x1 = 1 then some (none, hH L m) else (C 153 [jR 109, jI x2] (hH L m)).bind fun z => j_fin C 251 33 [some (jR 109), some (jI x1), some (jI x2), some (jI x3)] (z.1.toList ++ []) z.2 := by
  refine (S_iload_n rfl at_251_0).trans ?_
  refine (S_iconst at_251_1).trans ?_
  refine (S_icmp_ne at_251_2).trans ?_
  refine ite_congr rfl (fun _ => ?_) (fun _ => ?_)
  · refine (S_aload_n rfl at_251_5).trans ?_
    refine (S_iload_n rfl at_251_6).trans ?_
    refine (S_invv (b := 1) kn_152 rfl (ka_109 L _) (Nat.le_of_ble_eq_true rfl) at_251_7).trans ?_
    rfl
  · refine (S_iload_n rfl at_251_23).trans ?_
    refine (S_iconst at_251_24).trans ?_
    refine (S_icmp_eq at_251_25).trans ?_
    refine ite_congr rfl (fun _ => ?_) (fun _ => ?_)
    · exact S_ret rfl at_251_59
    · refine (S_aload_n rfl at_251_28).trans ?_
      refine (S_iload_n rfl at_251_29).trans ?_
      refine (S_invv (b := 1) kn_153 rfl (ka_109 L _) (Nat.le_of_ble_eq_true rfl) at_251_30).trans ?_
      rfl
theorem T251_10 {C : Nat → List j_V → j_H → Option j_Z} {L : Nat} {m : j_M0} {x1 : Int} {x2 : Int} {x3 : Int} {s0 : Int} : j_fin C 251 10 [some (jR 109), some (jI x1), some (jI x2), some (jI x3)] [jI s0] (hH L m) = if s0 = 0 then if x1 = 1 then some (none, hH L m) else (C 153 [jR 109, jI x2] (hH L m)).bind fun z => j_fin C 251 33 [some (jR 109), some (jI x1), some (jI x2), some (jI x3)] (z.1.toList ++ []) z.2 else if 0 ≤ (w32 (7 + x2)) ∧ (w32 (7 + x2)) < 150 then if x1 = 1 then some (none, hH L (j_up m 110 (w32 (7 + x2)).toNat x3)) else (C 153 [jR 109, jI x2] (hH L (j_up m 110 (w32 (7 + x2)).toNat x3))).bind fun z => j_fin C 251 33 [some (jR 109), some (jI x1), some (jI x2), some (jI x3)] (z.1.toList ++ []) z.2 else none := by
  refine (S_if_eq at_251_10).trans ?_
  refine ite_congr rfl (fun _ => ?_) (fun _ => ?_)
  · refine (S_iload_n rfl at_251_23).trans ?_
    refine (S_iconst at_251_24).trans ?_
    refine (S_icmp_eq at_251_25).trans ?_
    refine ite_congr rfl (fun _ => ?_) (fun _ => ?_)
    · exact S_ret rfl at_251_59
    · refine (S_aload_n rfl at_251_28).trans ?_
      refine (S_iload_n rfl at_251_29).trans ?_
      refine (S_invv (b := 1) kn_153 rfl (ka_109 L _) (Nat.le_of_ble_eq_true rfl) at_251_30).trans ?_
      rfl
  · refine (S_aload_n rfl at_251_13).trans ?_
    refine (S_getR (ka_109 L _) rfl (f_109_0 L _) at_251_14).trans ?_
    refine (S_bipush at_251_17).trans ?_
    refine (S_iload_n rfl at_251_19).trans ?_
    refine (S_iadd at_251_20).trans ?_
    refine (S_iload_n rfl at_251_21).trans ?_
    refine (H_iastore (by omega) (ka_110 L _) at_251_22).trans ?_
    refine ite_congr rfl (fun hi => ?_) (fun _ => rfl)
    refine (S_iload_n rfl at_251_23).trans ?_
    refine (S_iconst at_251_24).trans ?_
    refine (S_icmp_eq at_251_25).trans ?_
    refine ite_congr rfl (fun _ => ?_) (fun _ => ?_)
    · exact S_ret rfl at_251_59
    · refine (S_aload_n rfl at_251_28).trans ?_
      refine (S_iload_n rfl at_251_29).trans ?_
      refine (S_invv (b := 1) kn_153 rfl (ka_109 L _) (Nat.le_of_ble_eq_true rfl) at_251_30).trans ?_
      rfl
theorem T251_33 {C : Nat → List j_V → j_H → Option j_Z} {L : Nat} {m : j_M0} {x1 : Int} {x2 : Int} {x3 : Int} {s0 : Int} : j_fin C 251 33 [some (jR 109), some (jI x1), some (jI x2), some (jI x3)] [jI s0] (hH L m) = if s0 = 0 then some (none, hH L m) else if x1 = 0 then if 0 ≤ (w32 ((w32 (12 + (w32 (7 * x2)))) + 1)) ∧ (w32 ((w32 (12 + (w32 (7 * x2)))) + 1)) < 150 then some (none, hH L (j_up m 110 (w32 ((w32 (12 + (w32 (7 * x2)))) + 1)).toNat x3)) else none else if 0 ≤ (w32 ((w32 (12 + (w32 (7 * x2)))) + 2)) ∧ (w32 ((w32 (12 + (w32 (7 * x2)))) + 2)) < 150 then some (none, hH L (j_up m 110 (w32 ((w32 (12 + (w32 (7 * x2)))) + 2)).toNat x3)) else none := by
  refine (S_if_eq at_251_33).trans ?_
  refine ite_congr rfl (fun _ => ?_) (fun _ => ?_)
  · exact S_ret rfl at_251_59
  · refine (S_aload_n rfl at_251_36).trans ?_
    refine (S_getR (ka_109 L _) rfl (f_109_0 L _) at_251_37).trans ?_
    refine (S_bipush at_251_40).trans ?_
    refine (S_bipush at_251_42).trans ?_
    refine (S_iload_n rfl at_251_44).trans ?_
    refine (S_imul at_251_45).trans ?_
    refine (S_iadd at_251_46).trans ?_
    refine (S_iload_n rfl at_251_47).trans ?_
    refine (S_if_ne at_251_48).trans ?_
    refine ite_congr rfl (fun _ => ?_) (fun _ => ?_)
    · refine (S_iconst at_251_51).trans ?_
      refine (S_goto at_251_52).trans ?_
      refine (S_iadd at_251_56).trans ?_
      refine (S_iload_n rfl at_251_57).trans ?_
      refine (H_iastore (by omega) (ka_110 L _) at_251_58).trans ?_
      refine ite_congr rfl (fun hi => ?_) (fun _ => rfl)
      exact S_ret rfl at_251_59
    · refine (S_iconst at_251_55).trans ?_
      refine (S_iadd at_251_56).trans ?_
      refine (S_iload_n rfl at_251_57).trans ?_
      refine (H_iastore (by omega) (ka_110 L _) at_251_58).trans ?_
      refine ite_congr rfl (fun hi => ?_) (fun _ => rfl)
      exact S_ret rfl at_251_59
theorem T252_0 {C : Nat → List j_V → j_H → Option j_Z} {L : Nat} {m : j_M0} : j_fin C 252 0 [some (jR 109), none] [] (hH L m) = (C 237 [jR 109] (hH L m)).bind fun z => j_fin C 252 4 [some (jR 109), none] (z.1.toList ++ []) z.2 := by
  refine (S_aload_n rfl at_252_0).trans ?_
  refine (S_invv (b := 0) kn_237 rfl (ka_109 L _) (Nat.le_of_ble_eq_true rfl) at_252_1).trans ?_
  rfl
theorem T252_4 {C : Nat → List j_V → j_H → Option j_Z} {L : Nat} {m : j_M0} : j_fin C 252 4 [some (jR 109), none] [] (hH L m) = j_fin C 252 6 [some (jR 109), some (jI 0)] [] (hH L m) := by
  refine (S_iconst at_252_4).trans ?_
  refine (S_istore_n (l1 := [some (jR 109), some (jI 0)]) rfl at_252_5).trans ?_
  rfl
theorem T252_6 {C : Nat → List j_V → j_H → Option j_Z} {L : Nat} {m : j_M0} {x1 : Int} : j_fin C 252 6 [some (jR 109), some (jI x1)] [] (hH L m) = if x1 < (m 112 5) then if 0 ≤ (w32 (86 + (w32 (3 * x1)))) ∧ (w32 (86 + (w32 (3 * x1)))) < 150 then if 0 ≤ (w32 ((w32 (86 + (w32 (3 * x1)))) + 1)) ∧ (w32 ((w32 (86 + (w32 (3 * x1)))) + 1)) < 150 then if 0 ≤ (w32 ((w32 (86 + (w32 (3 * x1)))) + 2)) ∧ (w32 ((w32 (86 + (w32 (3 * x1)))) + 2)) < 150 then (C 251 [jR 109, jI (m 112 (w32 (86 + (w32 (3 * x1)))).toNat), jI (m 112 (w32 ((w32 (86 + (w32 (3 * x1)))) + 1)).toNat), jI (m 112 (w32 ((w32 (86 + (w32 (3 * x1)))) + 2)).toNat)] (hH L m)).bind fun z => j_fin C 252 57 [some (jR 109), some (jI x1)] (z.1.toList ++ []) z.2 else none else none else none else (C 192 [jR 109] (hH L m)).bind fun z => j_fin C 252 67 [some (jR 109), some (jI x1)] (z.1.toList ++ []) z.2 := by
  refine (S_iload_n rfl at_252_6).trans ?_
  refine (S_aload_n rfl at_252_7).trans ?_
  refine (S_getR (ka_109 L _) rfl (f_109_2 L _) at_252_8).trans ?_
  refine (S_iconst at_252_11).trans ?_
  refine (H_iaload (ka_112 L _) at_252_12).trans ?_
  refine (if_pos (by decide)).trans ?_
  refine (S_icmp_ge at_252_13).trans ?_
  refine ite_congr rfl (fun _ => ?_) (fun _ => ?_)
  · refine (S_aload_n rfl at_252_16).trans ?_
    refine (S_aload_n rfl at_252_17).trans ?_
    refine (S_getR (ka_109 L _) rfl (f_109_2 L _) at_252_18).trans ?_
    refine (S_bipush at_252_21).trans ?_
    refine (S_iconst at_252_23).trans ?_
    refine (S_iload_n rfl at_252_24).trans ?_
    refine (S_imul at_252_25).trans ?_
    refine (S_iadd at_252_26).trans ?_
    refine (H_iaload (ka_112 L _) at_252_27).trans ?_
    refine ite_congr rfl (fun hi => ?_) (fun _ => rfl)
    refine (S_aload_n rfl at_252_28).trans ?_
    refine (S_getR (ka_109 L _) rfl (f_109_2 L _) at_252_29).trans ?_
    refine (S_bipush at_252_32).trans ?_
    refine (S_iconst at_252_34).trans ?_
    refine (S_iload_n rfl at_252_35).trans ?_
    refine (S_imul at_252_36).trans ?_
    refine (S_iadd at_252_37).trans ?_
    refine (S_iconst at_252_38).trans ?_
    refine (S_iadd at_252_39).trans ?_
    refine (H_iaload (ka_112 L _) at_252_40).trans ?_
    refine ite_congr rfl (fun hi => ?_) (fun _ => rfl)
    refine (S_aload_n rfl at_252_41).trans ?_
    refine (S_getR (ka_109 L _) rfl (f_109_2 L _) at_252_42).trans ?_
    refine (S_bipush at_252_45).trans ?_
    refine (S_iconst at_252_47).trans ?_
    refine (S_iload_n rfl at_252_48).trans ?_
    refine (S_imul at_252_49).trans ?_
    refine (S_iadd at_252_50).trans ?_
    refine (S_iconst at_252_51).trans ?_
    refine (S_iadd at_252_52).trans ?_
    refine (H_iaload (ka_112 L _) at_252_53).trans ?_
    refine ite_congr rfl (fun hi => ?_) (fun _ => rfl)
    refine (S_invv (b := 3) kn_251 rfl (ka_109 L _) (Nat.le_of_ble_eq_true rfl) at_252_54).trans ?_
    rfl
  · refine (S_aload_n rfl at_252_63).trans ?_
    refine (S_invv (b := 0) kn_192 rfl (ka_109 L _) (Nat.le_of_ble_eq_true rfl) at_252_64).trans ?_
    rfl
theorem T252_57 {C : Nat → List j_V → j_H → Option j_Z} {L : Nat} {m : j_M0} {x1 : Int} : j_fin C 252 57 [some (jR 109), some (jI x1)] [] (hH L m) = j_fin C 252 6 [some (jR 109), some (jI (w32 (x1 + 1)))] [] (hH L m) := by
  refine (S_iinc (l1 := [some (jR 109), some (jI (w32 (x1 + 1)))]) rfl rfl at_252_57).trans ?_
  refine (S_goto at_252_60).trans ?_
  rfl
theorem T252_67 {C : Nat → List j_V → j_H → Option j_Z} {L : Nat} {m : j_M0} {x1 : Int} {s0 : Int} : j_fin C 252 67 [some (jR 109), some (jI x1)] [jI s0] (hH L m) = (C 238 [jR 109] (hH L m)).bind fun z => j_fin C 252 72 [some (jR 109), some (jI s0)] (z.1.toList ++ []) z.2 := by
  refine (S_istore_n (l1 := [some (jR 109), some (jI s0)]) rfl at_252_67).trans ?_
  refine (S_aload_n rfl at_252_68).trans ?_
  refine (S_invv (b := 0) kn_238 rfl (ka_109 L _) (Nat.le_of_ble_eq_true rfl) at_252_69).trans ?_
  rfl
theorem T252_72 {C : Nat → List j_V → j_H → Option j_Z} {L : Nat} {m : j_M0} {x1 : Int} : j_fin C 252 72 [some (jR 109), some (jI x1)] [] (hH L m) = some (some (jI x1), hH L m) := by
  refine (S_iload_n rfl at_252_72).trans ?_
  exact S_ireti rfl at_252_73
theorem T253_0 {C : Nat → List j_V → j_H → Option j_Z} {L : Nat} {m : j_M0} {x0 : Int} : j_fin C 253 0 [some (jI x0)] [] (hH L m) = (C 150 [jL x0, jL 0, jL 5] (hH L m)).bind fun z => j_fin C 253 9 [some (jI x0)] (z.1.toList ++ []) z.2 := by
  refine (S_iload_n rfl at_253_0).trans ?_
  refine (S_i2l at_253_1).trans ?_
  refine (S_lconst at_253_2).trans ?_
  refine (S_ldc2_w at_253_3).trans ?_
  refine (S_invs (by decide) (Nat.le_of_ble_eq_true rfl) (Nat.le_of_ble_eq_true rfl) at_253_6).trans ?_
  rfl
theorem T253_9 {C : Nat → List j_V → j_H → Option j_Z} {L : Nat} {m : j_M0} {x0 : Int} {s0 : Int} : j_fin C 253 9 [some (jI x0)] [jI s0] (hH L m) = if s0 = 0 ∨ s0 = 1 then some (some (jI s0), hH L m) else none := by
  exact S_iretz rfl at_253_9
theorem T254_0 {C : Nat → List j_V → j_H → Option j_Z} {L : Nat} {m : j_M0} {x1 : Int} {x2 : Int} : j_fin C 254 0 [some (jR 109), some (jI x1), some (jI x2), none] [] (hH L m) = (C 253 [jI x1] (hH L m)).bind fun z => j_fin C 254 4 [some (jR 109), some (jI x1), some (jI x2), none] (z.1.toList ++ []) z.2 := by
  refine (S_iload_n rfl at_254_0).trans ?_
  refine (S_invs (by decide) (Nat.le_of_ble_eq_true rfl) (Nat.le_of_ble_eq_true rfl) at_254_1).trans ?_
  rfl
theorem T254_4 {C : Nat → List j_V → j_H → Option j_Z} {L : Nat} {m : j_M0} {x1 : Int} {x2 : Int} {s0 : Int} : j_fin C 254 4 [some (jR 109), some (jI x1), some (jI x2), none] [jI s0] (hH L m) = if s0 = 0 then some (some (jI (-1)), hH L m) else if 0 ≤ x1 ∧ x1 < 6 then if (m 151 x1.toNat) < 0 then if (m 115 18) = 0 then some (some (jI (-3)), hH L m) else if (m 115 19) = 0 then some (some (jI (-3)), hH L m) else j_fin C 254 56 [some (jR 109), some (jI x1), some (jI x2), some (jI 0)] [] (hH L m) else if 0 ≤ x1 ∧ x1 < 6 then if (m 151 x1.toNat) = 2 then if (m 115 18) = 0 then some (some (jI (-3)), hH L m) else if (m 115 19) = 0 then some (some (jI (-3)), hH L m) else j_fin C 254 56 [some (jR 109), some (jI x1), some (jI x2), some (jI 0)] [] (hH L m) else some (some (jI (-12)), hH L m) else none else none := by
  refine (S_if_ne at_254_4).trans ?_
  refine ite_congr rfl (fun _ => ?_) (fun _ => ?_)
  · refine (S_iconst at_254_7).trans ?_
    exact S_ireti rfl at_254_8
  · refine (S_aload_n rfl at_254_9).trans ?_
    refine (S_getR (ka_109 L _) rfl (f_109_25 L _) at_254_10).trans ?_
    refine (S_iload_n rfl at_254_13).trans ?_
    refine (H_iaload (ka_151 L _) at_254_14).trans ?_
    refine ite_congr rfl (fun hi => ?_) (fun _ => rfl)
    refine (S_if_lt at_254_15).trans ?_
    refine ite_congr rfl (fun _ => ?_) (fun _ => ?_)
    · refine (S_aload_n rfl at_254_31).trans ?_
      refine (S_getR (ka_109 L _) rfl (f_109_9 L _) at_254_32).trans ?_
      refine (H_get2 (ka_115 L _) rfl at_254_35).trans ?_
      refine (S_if_eq at_254_38).trans ?_
      refine ite_congr rfl (fun _ => ?_) (fun _ => ?_)
      · refine (S_bipush at_254_51).trans ?_
        exact S_ireti rfl at_254_53
      · refine (S_aload_n rfl at_254_41).trans ?_
        refine (S_getR (ka_109 L _) rfl (f_109_9 L _) at_254_42).trans ?_
        refine (H_get2 (ka_115 L _) rfl at_254_45).trans ?_
        refine (S_if_ne at_254_48).trans ?_
        refine ite_congr rfl (fun _ => ?_) (fun _ => ?_)
        · refine (S_bipush at_254_51).trans ?_
          exact S_ireti rfl at_254_53
        · refine (S_iconst at_254_54).trans ?_
          refine (S_istore_n (l1 := [some (jR 109), some (jI x1), some (jI x2), some (jI 0)]) rfl at_254_55).trans ?_
          rfl
    · refine (S_aload_n rfl at_254_18).trans ?_
      refine (S_getR (ka_109 L _) rfl (f_109_25 L _) at_254_19).trans ?_
      refine (S_iload_n rfl at_254_22).trans ?_
      refine (H_iaload (ka_151 L _) at_254_23).trans ?_
      refine ite_congr rfl (fun hi => ?_) (fun _ => rfl)
      refine (S_iconst at_254_24).trans ?_
      refine (S_icmp_eq at_254_25).trans ?_
      refine ite_congr rfl (fun _ => ?_) (fun _ => ?_)
      · refine (S_aload_n rfl at_254_31).trans ?_
        refine (S_getR (ka_109 L _) rfl (f_109_9 L _) at_254_32).trans ?_
        refine (H_get2 (ka_115 L _) rfl at_254_35).trans ?_
        refine (S_if_eq at_254_38).trans ?_
        refine ite_congr rfl (fun _ => ?_) (fun _ => ?_)
        · refine (S_bipush at_254_51).trans ?_
          exact S_ireti rfl at_254_53
        · refine (S_aload_n rfl at_254_41).trans ?_
          refine (S_getR (ka_109 L _) rfl (f_109_9 L _) at_254_42).trans ?_
          refine (H_get2 (ka_115 L _) rfl at_254_45).trans ?_
          refine (S_if_ne at_254_48).trans ?_
          refine ite_congr rfl (fun _ => ?_) (fun _ => ?_)
          · refine (S_bipush at_254_51).trans ?_
            exact S_ireti rfl at_254_53
          · refine (S_iconst at_254_54).trans ?_
            refine (S_istore_n (l1 := [some (jR 109), some (jI x1), some (jI x2), some (jI 0)]) rfl at_254_55).trans ?_
            rfl
      · refine (S_bipush at_254_28).trans ?_
        exact S_ireti rfl at_254_30
theorem T254_56 {C : Nat → List j_V → j_H → Option j_Z} {L : Nat} {m : j_M0} {x1 : Int} {x2 : Int} {x3 : Int} : j_fin C 254 56 [some (jR 109), some (jI x1), some (jI x2), some (jI x3)] [] (hH L m) = (C 151 [jR 109] (hH L m)).bind fun z => j_fin C 254 61 [some (jR 109), some (jI x1), some (jI x2), some (jI x3)] (z.1.toList ++ [jI x3]) z.2 := by
  refine (S_iload_n rfl at_254_56).trans ?_
  refine (S_aload_n rfl at_254_57).trans ?_
  refine (S_invv (b := 0) kn_151 rfl (ka_109 L _) (Nat.le_of_ble_eq_true rfl) at_254_58).trans ?_
  rfl
theorem T254_61 {C : Nat → List j_V → j_H → Option j_Z} {L : Nat} {m : j_M0} {x1 : Int} {x2 : Int} {x3 : Int} {s0 : Int} {s1 : Int} : j_fin C 254 61 [some (jR 109), some (jI x1), some (jI x2), some (jI x3)] [jI s1, jI s0] (hH L m) = if s0 < s1 then if x2 < 0 then some (some (jI (w32 (100 + x3))), hH L m) else if 0 ≤ x1 ∧ x1 < 6 then if (m 151 x1.toNat) < 0 then some (some (jI (w32 (100 + x3))), hH L m) else if 0 ≤ x1 ∧ x1 < 6 then if x2 < (w32 ((m 152 x1.toNat) - x3)) then if 0 ≤ (w32 ((w32 ((w32 (60 * x1)) + x2)) + x3)) ∧ (w32 ((w32 ((w32 (60 * x1)) + x2)) + x3)) < 360 then (C 197 [jR 109, jR 115, jI x3] (hH L m)).bind fun z => j_fin C 254 124 [some (jR 109), some (jI x1), some (jI x2), some (jI x3)] (z.1.toList ++ [jL (w64 ((m 153 (w32 ((w32 ((w32 (60 * x1)) + x2)) + x3)).toNat) * (m 115 13)))]) z.2 else none else some (some (jI (w32 (100 + x3))), hH L m) else none else none else some (some (jI (-5)), hH L m) := by
  refine (S_icmp_ge at_254_61).trans ?_
  refine ite_congr rfl (fun _ => ?_) (fun _ => ?_)
  · refine (S_iload_n rfl at_254_64).trans ?_
    refine (S_if_lt at_254_65).trans ?_
    refine ite_congr rfl (fun _ => ?_) (fun _ => ?_)
    · refine (S_bipush at_254_89).trans ?_
      refine (S_iload_n rfl at_254_91).trans ?_
      refine (S_iadd at_254_92).trans ?_
      exact S_ireti rfl at_254_93
    · refine (S_aload_n rfl at_254_68).trans ?_
      refine (S_getR (ka_109 L _) rfl (f_109_25 L _) at_254_69).trans ?_
      refine (S_iload_n rfl at_254_72).trans ?_
      refine (H_iaload (ka_151 L _) at_254_73).trans ?_
      refine ite_congr rfl (fun hi => ?_) (fun _ => rfl)
      refine (S_if_lt at_254_74).trans ?_
      refine ite_congr rfl (fun _ => ?_) (fun _ => ?_)
      · refine (S_bipush at_254_89).trans ?_
        refine (S_iload_n rfl at_254_91).trans ?_
        refine (S_iadd at_254_92).trans ?_
        exact S_ireti rfl at_254_93
      · refine (S_iload_n rfl at_254_77).trans ?_
        refine (S_aload_n rfl at_254_78).trans ?_
        refine (S_getR (ka_109 L _) rfl (f_109_26 L _) at_254_79).trans ?_
        refine (S_iload_n rfl at_254_82).trans ?_
        refine (H_iaload (ka_152 L _) at_254_83).trans ?_
        refine ite_congr rfl (fun hi => ?_) (fun _ => rfl)
        refine (S_iload_n rfl at_254_84).trans ?_
        refine (S_isub at_254_85).trans ?_
        refine (S_icmp_lt at_254_86).trans ?_
        refine ite_congr rfl (fun _ => ?_) (fun _ => ?_)
        · refine (S_aload_n rfl at_254_94).trans ?_
          refine (S_getR (ka_109 L _) rfl (f_109_27 L _) at_254_95).trans ?_
          refine (S_bipush at_254_98).trans ?_
          refine (S_iload_n rfl at_254_100).trans ?_
          refine (S_imul at_254_101).trans ?_
          refine (S_iload_n rfl at_254_102).trans ?_
          refine (S_iadd at_254_103).trans ?_
          refine (S_iload_n rfl at_254_104).trans ?_
          refine (S_iadd at_254_105).trans ?_
          refine (H_laload (ka_153 L _) at_254_106).trans ?_
          refine ite_congr rfl (fun hi => ?_) (fun _ => rfl)
          refine (S_aload_n rfl at_254_107).trans ?_
          refine (S_getR (ka_109 L _) rfl (f_109_9 L _) at_254_108).trans ?_
          refine (H_get1 (ka_115 L _) rfl at_254_111).trans ?_
          refine (S_lmul at_254_114).trans ?_
          refine (S_aload_n rfl at_254_115).trans ?_
          refine (S_aload_n rfl at_254_116).trans ?_
          refine (S_getR (ka_109 L _) rfl (f_109_9 L _) at_254_117).trans ?_
          refine (S_iload_n rfl at_254_120).trans ?_
          refine (S_invv (b := 2) kn_197 rfl (ka_109 L _) (Nat.le_of_ble_eq_true rfl) at_254_121).trans ?_
          rfl
        · refine (S_bipush at_254_89).trans ?_
          refine (S_iload_n rfl at_254_91).trans ?_
          refine (S_iadd at_254_92).trans ?_
          exact S_ireti rfl at_254_93
  · refine (S_bipush at_254_136).trans ?_
    exact S_ireti rfl at_254_138
theorem T254_124 {C : Nat → List j_V → j_H → Option j_Z} {L : Nat} {m : j_M0} {x1 : Int} {x2 : Int} {x3 : Int} {t0 : Int} {t1 : Int} : j_fin C 254 124 [some (jR 109), some (jI x1), some (jI x2), some (jI x3)] [jL t1, jL t0] (hH L m) = if (j_cmp t0 t1) = 0 then j_fin C 254 56 [some (jR 109), some (jI x1), some (jI x2), some (jI (w32 (x3 + 1)))] [] (hH L m) else some (some (jI x3), hH L m) := by
  refine (S_lcmp at_254_124).trans ?_
  refine (S_if_eq at_254_125).trans ?_
  refine ite_congr rfl (fun _ => ?_) (fun _ => ?_)
  · refine (S_iinc (l1 := [some (jR 109), some (jI x1), some (jI x2), some (jI (w32 (x3 + 1)))]) rfl rfl at_254_130).trans ?_
    refine (S_goto at_254_133).trans ?_
    rfl
  · refine (S_iload_n rfl at_254_128).trans ?_
    exact S_ireti rfl at_254_129
theorem T255_0 {C : Nat → List j_V → j_H → Option j_Z} {L : Nat} {m : j_M0} : j_fin C 255 0 [some (jR 109), none] [] (hH L m) = j_fin C 255 2 [some (jR 109), some (jI 0)] [] (hH L m) := by
  refine (S_iconst at_255_0).trans ?_
  refine (S_istore_n (l1 := [some (jR 109), some (jI 0)]) rfl at_255_1).trans ?_
  rfl
theorem T255_2 {C : Nat → List j_V → j_H → Option j_Z} {L : Nat} {m : j_M0} {x1 : Int} : j_fin C 255 2 [some (jR 109), some (jI x1)] [] (hH L m) = if x1 < 150 then if 0 ≤ x1 ∧ x1 < 150 then if 0 ≤ x1 ∧ x1 < 150 then j_fin C 255 2 [some (jR 109), some (jI (w32 (x1 + 1)))] [] (hH L (j_up m 111 x1.toNat (m 110 x1.toNat))) else none else none else some (some (jI ((j_up m 109 3 1) 110 1)), hH L (j_up m 109 3 1)) := by
  refine (S_iload_n rfl at_255_2).trans ?_
  refine (S_sipush at_255_3).trans ?_
  refine (S_icmp_ge at_255_6).trans ?_
  refine ite_congr rfl (fun _ => ?_) (fun _ => ?_)
  · refine (S_aload_n rfl at_255_9).trans ?_
    refine (S_getR (ka_109 L _) rfl (f_109_1 L _) at_255_10).trans ?_
    refine (S_iload_n rfl at_255_13).trans ?_
    refine (S_aload_n rfl at_255_14).trans ?_
    refine (S_getR (ka_109 L _) rfl (f_109_0 L _) at_255_15).trans ?_
    refine (S_iload_n rfl at_255_18).trans ?_
    refine (H_iaload (ka_110 L _) at_255_19).trans ?_
    refine ite_congr rfl (fun hi => ?_) (fun _ => rfl)
    refine (H_iastore (by omega) (ka_111 L _) at_255_20).trans ?_
    refine ite_congr rfl (fun hi => ?_) (fun _ => rfl)
    refine (S_iinc (l1 := [some (jR 109), some (jI (w32 (x1 + 1)))]) rfl rfl at_255_21).trans ?_
    refine (S_goto at_255_24).trans ?_
    rfl
  · refine (S_aload_n rfl at_255_27).trans ?_
    refine (S_iconst at_255_28).trans ?_
    refine (H_put2 (ka_109 L _) rfl at_255_29).trans ?_
    refine (if_pos (by decide)).trans ?_
    refine (S_aload_n rfl at_255_32).trans ?_
    refine (S_getR (ka_109 L _) rfl (f_109_0 L _) at_255_33).trans ?_
    refine (S_iconst at_255_36).trans ?_
    refine (H_iaload (ka_110 L _) at_255_37).trans ?_
    refine (if_pos (by decide)).trans ?_
    exact S_ireti rfl at_255_38
theorem T256_0 {C : Nat → List j_V → j_H → Option j_Z} {L : Nat} {m : j_M0} : j_fin C 256 0 [some (jR 109), none] [] (hH L m) = if (m 109 3) = 0 then some (some (jI (-3)), hH L m) else j_fin C 256 12 [some (jR 109), some (jI 0)] [] (hH L m) := by
  refine (S_aload_n rfl at_256_0).trans ?_
  refine (H_get2 (ka_109 L _) rfl at_256_1).trans ?_
  refine (S_if_ne at_256_4).trans ?_
  refine ite_congr rfl (fun _ => ?_) (fun _ => ?_)
  · refine (S_bipush at_256_7).trans ?_
    exact S_ireti rfl at_256_9
  · refine (S_iconst at_256_10).trans ?_
    refine (S_istore_n (l1 := [some (jR 109), some (jI 0)]) rfl at_256_11).trans ?_
    rfl
theorem T256_12 {C : Nat → List j_V → j_H → Option j_Z} {L : Nat} {m : j_M0} {x1 : Int} : j_fin C 256 12 [some (jR 109), some (jI x1)] [] (hH L m) = if x1 < 150 then if 0 ≤ x1 ∧ x1 < 150 then if 0 ≤ x1 ∧ x1 < 150 then j_fin C 256 12 [some (jR 109), some (jI (w32 (x1 + 1)))] [] (hH L (j_up m 110 x1.toNat (m 111 x1.toNat))) else none else none else some (some (jI ((j_up m 115 18 0) 110 1)), hH L (j_up m 115 18 0)) := by
  refine (S_iload_n rfl at_256_12).trans ?_
  refine (S_sipush at_256_13).trans ?_
  refine (S_icmp_ge at_256_16).trans ?_
  refine ite_congr rfl (fun _ => ?_) (fun _ => ?_)
  · refine (S_aload_n rfl at_256_19).trans ?_
    refine (S_getR (ka_109 L _) rfl (f_109_0 L _) at_256_20).trans ?_
    refine (S_iload_n rfl at_256_23).trans ?_
    refine (S_aload_n rfl at_256_24).trans ?_
    refine (S_getR (ka_109 L _) rfl (f_109_1 L _) at_256_25).trans ?_
    refine (S_iload_n rfl at_256_28).trans ?_
    refine (H_iaload (ka_111 L _) at_256_29).trans ?_
    refine ite_congr rfl (fun hi => ?_) (fun _ => rfl)
    refine (H_iastore (by omega) (ka_110 L _) at_256_30).trans ?_
    refine ite_congr rfl (fun hi => ?_) (fun _ => rfl)
    refine (S_iinc (l1 := [some (jR 109), some (jI (w32 (x1 + 1)))]) rfl rfl at_256_31).trans ?_
    refine (S_goto at_256_34).trans ?_
    rfl
  · refine (S_aload_n rfl at_256_37).trans ?_
    refine (S_getR (ka_109 L _) rfl (f_109_9 L _) at_256_38).trans ?_
    refine (S_iconst at_256_41).trans ?_
    refine (H_put2 (ka_115 L _) rfl at_256_42).trans ?_
    refine (if_pos (by decide)).trans ?_
    refine (S_aload_n rfl at_256_45).trans ?_
    refine (S_getR (ka_109 L _) rfl (f_109_0 L _) at_256_46).trans ?_
    refine (S_iconst at_256_49).trans ?_
    refine (H_iaload (ka_110 L _) at_256_50).trans ?_
    refine (if_pos (by decide)).trans ?_
    exact S_ireti rfl at_256_51
theorem T257_0 {C : Nat → List j_V → j_H → Option j_Z} {L : Nat} {m : j_M0} {x1 : Int} : j_fin C 257 0 [some (jR 109), some (jI x1), none] [] (hH L m) = if x1 = 0 then (C 151 [jR 109] (hH L m)).bind fun z => j_fin C 257 68 [some (jR 109), some (jI x1), some (jI (m 115 18))] (z.1.toList ++ []) z.2 else if x1 = 1 then some (some (jI (m 110 1)), hH L m) else if x1 = 2 then if (m 115 18) = 0 then some (some (jI 0), hH L m) else some (some (jI (m 115 15)), hH L m) else if x1 = 3 then if (m 115 18) = 0 then some (some (jI 0), hH L m) else some (some (jI (m 115 16)), hH L m) else if x1 = 4 then if (m 115 18) = 0 then some (some (jI 0), hH L m) else some (some (jI (m 115 17)), hH L m) else if x1 = 5 then some (some (jI (m 110 4)), hH L m) else if x1 = 6 then some (some (jI (m 110 5)), hH L m) else if x1 = 7 then some (some (jI (m 110 6)), hH L m) else if x1 = 8 then some (some (jI (m 109 6)), hH L m) else if x1 = 9 then some (some (jI (m 110 3)), hH L m) else some (some (jI (-2)), hH L m) := by
  refine (S_aload_n rfl at_257_0).trans ?_
  refine (S_getR (ka_109 L _) rfl (f_109_9 L _) at_257_1).trans ?_
  refine (H_get2 (ka_115 L _) rfl at_257_4).trans ?_
  refine (S_istore_n (l1 := [some (jR 109), some (jI x1), some (jI (m 115 18))]) rfl at_257_7).trans ?_
  refine (S_iload_n rfl at_257_8).trans ?_
  refine (tsw_257_9 _).trans ?_
  refine ite_congr rfl (fun _ => ?_) (fun _ => ?_)
  · refine (S_aload_n rfl at_257_64).trans ?_
    refine (S_invv (b := 0) kn_151 rfl (ka_109 L _) (Nat.le_of_ble_eq_true rfl) at_257_65).trans ?_
    rfl
  refine ite_congr rfl (fun _ => ?_) (fun _ => ?_)
  · refine (S_aload_n rfl at_257_69).trans ?_
    refine (S_getR (ka_109 L _) rfl (f_109_0 L _) at_257_70).trans ?_
    refine (S_iconst at_257_73).trans ?_
    refine (H_iaload (ka_110 L _) at_257_74).trans ?_
    refine (if_pos (by decide)).trans ?_
    exact S_ireti rfl at_257_75
  refine ite_congr rfl (fun _ => ?_) (fun _ => ?_)
  · refine (S_iload_n rfl at_257_76).trans ?_
    refine (S_if_eq at_257_77).trans ?_
    refine ite_congr rfl (fun _ => ?_) (fun _ => ?_)
    · refine (S_iconst at_257_90).trans ?_
      exact S_ireti rfl at_257_91
    · refine (S_aload_n rfl at_257_80).trans ?_
      refine (S_getR (ka_109 L _) rfl (f_109_9 L _) at_257_81).trans ?_
      refine (H_get0 (ka_115 L _) rfl at_257_84).trans ?_
      refine (S_goto at_257_87).trans ?_
      exact S_ireti rfl at_257_91
  refine ite_congr rfl (fun _ => ?_) (fun _ => ?_)
  · refine (S_iload_n rfl at_257_92).trans ?_
    refine (S_if_eq at_257_93).trans ?_
    refine ite_congr rfl (fun _ => ?_) (fun _ => ?_)
    · refine (S_iconst at_257_106).trans ?_
      exact S_ireti rfl at_257_107
    · refine (S_aload_n rfl at_257_96).trans ?_
      refine (S_getR (ka_109 L _) rfl (f_109_9 L _) at_257_97).trans ?_
      refine (H_get0 (ka_115 L _) rfl at_257_100).trans ?_
      refine (S_goto at_257_103).trans ?_
      exact S_ireti rfl at_257_107
  refine ite_congr rfl (fun _ => ?_) (fun _ => ?_)
  · refine (S_iload_n rfl at_257_108).trans ?_
    refine (S_if_eq at_257_109).trans ?_
    refine ite_congr rfl (fun _ => ?_) (fun _ => ?_)
    · refine (S_iconst at_257_122).trans ?_
      exact S_ireti rfl at_257_123
    · refine (S_aload_n rfl at_257_112).trans ?_
      refine (S_getR (ka_109 L _) rfl (f_109_9 L _) at_257_113).trans ?_
      refine (H_get0 (ka_115 L _) rfl at_257_116).trans ?_
      refine (S_goto at_257_119).trans ?_
      exact S_ireti rfl at_257_123
  refine ite_congr rfl (fun _ => ?_) (fun _ => ?_)
  · refine (S_aload_n rfl at_257_124).trans ?_
    refine (S_getR (ka_109 L _) rfl (f_109_0 L _) at_257_125).trans ?_
    refine (S_iconst at_257_128).trans ?_
    refine (H_iaload (ka_110 L _) at_257_129).trans ?_
    refine (if_pos (by decide)).trans ?_
    exact S_ireti rfl at_257_130
  refine ite_congr rfl (fun _ => ?_) (fun _ => ?_)
  · refine (S_aload_n rfl at_257_131).trans ?_
    refine (S_getR (ka_109 L _) rfl (f_109_0 L _) at_257_132).trans ?_
    refine (S_iconst at_257_135).trans ?_
    refine (H_iaload (ka_110 L _) at_257_136).trans ?_
    refine (if_pos (by decide)).trans ?_
    exact S_ireti rfl at_257_137
  refine ite_congr rfl (fun _ => ?_) (fun _ => ?_)
  · refine (S_aload_n rfl at_257_138).trans ?_
    refine (S_getR (ka_109 L _) rfl (f_109_0 L _) at_257_139).trans ?_
    refine (S_bipush at_257_142).trans ?_
    refine (H_iaload (ka_110 L _) at_257_144).trans ?_
    refine (if_pos (by decide)).trans ?_
    exact S_ireti rfl at_257_145
  refine ite_congr rfl (fun _ => ?_) (fun _ => ?_)
  · refine (S_aload_n rfl at_257_146).trans ?_
    refine (H_get0 (ka_109 L _) rfl at_257_147).trans ?_
    exact S_ireti rfl at_257_150
  refine ite_congr rfl (fun _ => ?_) (fun _ => ?_)
  · refine (S_aload_n rfl at_257_151).trans ?_
    refine (S_getR (ka_109 L _) rfl (f_109_0 L _) at_257_152).trans ?_
    refine (S_iconst at_257_155).trans ?_
    refine (H_iaload (ka_110 L _) at_257_156).trans ?_
    refine (if_pos (by decide)).trans ?_
    exact S_ireti rfl at_257_157
  refine (S_bipush at_257_158).trans ?_
  exact S_ireti rfl at_257_160
theorem T257_68 {C : Nat → List j_V → j_H → Option j_Z} {L : Nat} {m : j_M0} {x1 : Int} {x2 : Int} {s0 : Int} : j_fin C 257 68 [some (jR 109), some (jI x1), some (jI x2)] [jI s0] (hH L m) = some (some (jI s0), hH L m) := by
  exact S_ireti rfl at_257_68
theorem T258_0 {C : Nat → List j_V → j_H → Option j_Z} {L : Nat} {m : j_M0} {x1 : Int} {x2 : Int} {x3 : Int} : j_fin C 258 0 [some (jR 109), some (jI x1), some (jI x2), some (jI x3), none] [] (hH L m) = (C 253 [jI x1] (hH L m)).bind fun z => j_fin C 258 4 [some (jR 109), some (jI x1), some (jI x2), some (jI x3), none] (z.1.toList ++ []) z.2 := by
  refine (S_iload_n rfl at_258_0).trans ?_
  refine (S_invs (by decide) (Nat.le_of_ble_eq_true rfl) (Nat.le_of_ble_eq_true rfl) at_258_1).trans ?_
  rfl
theorem T258_4 {C : Nat → List j_V → j_H → Option j_Z} {L : Nat} {m : j_M0} {x1 : Int} {x2 : Int} {x3 : Int} {s0 : Int} : j_fin C 258 4 [some (jR 109), some (jI x1), some (jI x2), some (jI x3), none] [jI s0] (hH L m) = if s0 = 0 then some (some (jI (-1)), hH L m) else (C 150 [jL x2, jL (-1), jL 4] (hH L m)).bind fun z => j_fin C 258 20 [some (jR 109), some (jI x1), some (jI x2), some (jI x3), none] (z.1.toList ++ []) z.2 := by
  refine (S_if_ne at_258_4).trans ?_
  refine ite_congr rfl (fun _ => ?_) (fun _ => ?_)
  · refine (S_iconst at_258_7).trans ?_
    exact S_ireti rfl at_258_8
  · refine (S_iload_n rfl at_258_9).trans ?_
    refine (S_i2l at_258_10).trans ?_
    refine (S_ldc2_w at_258_11).trans ?_
    refine (S_ldc2_w at_258_14).trans ?_
    refine (S_invs (by decide) (Nat.le_of_ble_eq_true rfl) (Nat.le_of_ble_eq_true rfl) at_258_17).trans ?_
    rfl
theorem T258_20 {C : Nat → List j_V → j_H → Option j_Z} {L : Nat} {m : j_M0} {x1 : Int} {x2 : Int} {x3 : Int} {s0 : Int} : j_fin C 258 20 [some (jR 109), some (jI x1), some (jI x2), some (jI x3), none] [jI s0] (hH L m) = if s0 = 0 then some (some (jI (-2)), hH L m) else if x2 < 0 then if x2 < 0 then if 0 ≤ x1 ∧ x1 < 6 then if x2 < 0 then if 0 ≤ x1 ∧ x1 < 6 then j_fin C 258 72 [some (jR 109), some (jI x1), some (jI x2), some (jI x3), some (jI 0)] [] (hH L (j_up (j_up m 151 x1.toNat x2) 152 x1.toNat 0)) else none else if 0 ≤ x1 ∧ x1 < 6 then j_fin C 258 72 [some (jR 109), some (jI x1), some (jI x2), some (jI x3), some (jI 0)] [] (hH L (j_up (j_up m 151 x1.toNat x2) 152 x1.toNat x3)) else none else none else if x3 < 0 then some (some (jI (-14)), hH L m) else if 0 ≤ x1 ∧ x1 < 6 then if x2 < 0 then if 0 ≤ x1 ∧ x1 < 6 then j_fin C 258 72 [some (jR 109), some (jI x1), some (jI x2), some (jI x3), some (jI 0)] [] (hH L (j_up (j_up m 151 x1.toNat x2) 152 x1.toNat 0)) else none else if 0 ≤ x1 ∧ x1 < 6 then j_fin C 258 72 [some (jR 109), some (jI x1), some (jI x2), some (jI x3), some (jI 0)] [] (hH L (j_up (j_up m 151 x1.toNat x2) 152 x1.toNat x3)) else none else none else if 60 < x3 then some (some (jI (-2)), hH L m) else if x2 < 0 then if 0 ≤ x1 ∧ x1 < 6 then if x2 < 0 then if 0 ≤ x1 ∧ x1 < 6 then j_fin C 258 72 [some (jR 109), some (jI x1), some (jI x2), some (jI x3), some (jI 0)] [] (hH L (j_up (j_up m 151 x1.toNat x2) 152 x1.toNat 0)) else none else if 0 ≤ x1 ∧ x1 < 6 then j_fin C 258 72 [some (jR 109), some (jI x1), some (jI x2), some (jI x3), some (jI 0)] [] (hH L (j_up (j_up m 151 x1.toNat x2) 152 x1.toNat x3)) else none else none else if x3 < 0 then some (some (jI (-14)), hH L m) else if 0 ≤ x1 ∧ x1 < 6 then if x2 < 0 then if 0 ≤ x1 ∧ x1 < 6 then j_fin C 258 72 [some (jR 109), some (jI x1), some (jI x2), some (jI x3), some (jI 0)] [] (hH L (j_up (j_up m 151 x1.toNat x2) 152 x1.toNat 0)) else none else if 0 ≤ x1 ∧ x1 < 6 then j_fin C 258 72 [some (jR 109), some (jI x1), some (jI x2), some (jI x3), some (jI 0)] [] (hH L (j_up (j_up m 151 x1.toNat x2) 152 x1.toNat x3)) else none else none := by
  refine (S_if_eq at_258_20).trans ?_
  refine ite_congr rfl (fun _ => ?_) (fun _ => ?_)
  · refine (S_bipush at_258_33).trans ?_
    exact S_ireti rfl at_258_35
  · refine (S_iload_n rfl at_258_23).trans ?_
    refine (S_if_lt at_258_24).trans ?_
    refine ite_congr rfl (fun _ => ?_) (fun _ => ?_)
    · refine (S_iload_n rfl at_258_36).trans ?_
      refine (S_if_lt at_258_37).trans ?_
      refine ite_congr rfl (fun _ => ?_) (fun _ => ?_)
      · refine (S_aload_n rfl at_258_47).trans ?_
        refine (S_getR (ka_109 L _) rfl (f_109_25 L _) at_258_48).trans ?_
        refine (S_iload_n rfl at_258_51).trans ?_
        refine (S_iload_n rfl at_258_52).trans ?_
        refine (H_iastore (by omega) (ka_151 L _) at_258_53).trans ?_
        refine ite_congr rfl (fun hi => ?_) (fun _ => rfl)
        refine (S_aload_n rfl at_258_54).trans ?_
        refine (S_getR (ka_109 L _) rfl (f_109_26 L _) at_258_55).trans ?_
        refine (S_iload_n rfl at_258_58).trans ?_
        refine (S_iload_n rfl at_258_59).trans ?_
        refine (S_if_ge at_258_60).trans ?_
        refine ite_congr rfl (fun _ => ?_) (fun _ => ?_)
        · refine (S_iconst at_258_63).trans ?_
          refine (S_goto at_258_64).trans ?_
          refine (H_iastore (by omega) (ka_152 L _) at_258_68).trans ?_
          refine ite_congr rfl (fun hi => ?_) (fun _ => rfl)
          refine (S_iconst at_258_69).trans ?_
          refine (S_istore (l1 := [some (jR 109), some (jI x1), some (jI x2), some (jI x3), some (jI 0)]) rfl at_258_70).trans ?_
          rfl
        · refine (S_iload_n rfl at_258_67).trans ?_
          refine (H_iastore (by omega) (ka_152 L _) at_258_68).trans ?_
          refine ite_congr rfl (fun hi => ?_) (fun _ => rfl)
          refine (S_iconst at_258_69).trans ?_
          refine (S_istore (l1 := [some (jR 109), some (jI x1), some (jI x2), some (jI x3), some (jI 0)]) rfl at_258_70).trans ?_
          rfl
      · refine (S_iload_n rfl at_258_40).trans ?_
        refine (S_if_ge at_258_41).trans ?_
        refine ite_congr rfl (fun _ => ?_) (fun _ => ?_)
        · refine (S_bipush at_258_44).trans ?_
          exact S_ireti rfl at_258_46
        · refine (S_aload_n rfl at_258_47).trans ?_
          refine (S_getR (ka_109 L _) rfl (f_109_25 L _) at_258_48).trans ?_
          refine (S_iload_n rfl at_258_51).trans ?_
          refine (S_iload_n rfl at_258_52).trans ?_
          refine (H_iastore (by omega) (ka_151 L _) at_258_53).trans ?_
          refine ite_congr rfl (fun hi => ?_) (fun _ => rfl)
          refine (S_aload_n rfl at_258_54).trans ?_
          refine (S_getR (ka_109 L _) rfl (f_109_26 L _) at_258_55).trans ?_
          refine (S_iload_n rfl at_258_58).trans ?_
          refine (S_iload_n rfl at_258_59).trans ?_
          refine (S_if_ge at_258_60).trans ?_
          refine ite_congr rfl (fun _ => ?_) (fun _ => ?_)
          · refine (S_iconst at_258_63).trans ?_
            refine (S_goto at_258_64).trans ?_
            refine (H_iastore (by omega) (ka_152 L _) at_258_68).trans ?_
            refine ite_congr rfl (fun hi => ?_) (fun _ => rfl)
            refine (S_iconst at_258_69).trans ?_
            refine (S_istore (l1 := [some (jR 109), some (jI x1), some (jI x2), some (jI x3), some (jI 0)]) rfl at_258_70).trans ?_
            rfl
          · refine (S_iload_n rfl at_258_67).trans ?_
            refine (H_iastore (by omega) (ka_152 L _) at_258_68).trans ?_
            refine ite_congr rfl (fun hi => ?_) (fun _ => rfl)
            refine (S_iconst at_258_69).trans ?_
            refine (S_istore (l1 := [some (jR 109), some (jI x1), some (jI x2), some (jI x3), some (jI 0)]) rfl at_258_70).trans ?_
            rfl
    · refine (S_iload_n rfl at_258_27).trans ?_
      refine (S_bipush at_258_28).trans ?_
      refine (S_icmp_le at_258_30).trans ?_
      refine ite_congr rfl (fun _ => ?_) (fun _ => ?_)
      · refine (S_bipush at_258_33).trans ?_
        exact S_ireti rfl at_258_35
      · refine (S_iload_n rfl at_258_36).trans ?_
        refine (S_if_lt at_258_37).trans ?_
        refine ite_congr rfl (fun _ => ?_) (fun _ => ?_)
        · refine (S_aload_n rfl at_258_47).trans ?_
          refine (S_getR (ka_109 L _) rfl (f_109_25 L _) at_258_48).trans ?_
          refine (S_iload_n rfl at_258_51).trans ?_
          refine (S_iload_n rfl at_258_52).trans ?_
          refine (H_iastore (by omega) (ka_151 L _) at_258_53).trans ?_
          refine ite_congr rfl (fun hi => ?_) (fun _ => rfl)
          refine (S_aload_n rfl at_258_54).trans ?_
          refine (S_getR (ka_109 L _) rfl (f_109_26 L _) at_258_55).trans ?_
          refine (S_iload_n rfl at_258_58).trans ?_
          refine (S_iload_n rfl at_258_59).trans ?_
          refine (S_if_ge at_258_60).trans ?_
          refine ite_congr rfl (fun _ => ?_) (fun _ => ?_)
          · refine (S_iconst at_258_63).trans ?_
            refine (S_goto at_258_64).trans ?_
            refine (H_iastore (by omega) (ka_152 L _) at_258_68).trans ?_
            refine ite_congr rfl (fun hi => ?_) (fun _ => rfl)
            refine (S_iconst at_258_69).trans ?_
            refine (S_istore (l1 := [some (jR 109), some (jI x1), some (jI x2), some (jI x3), some (jI 0)]) rfl at_258_70).trans ?_
            rfl
          · refine (S_iload_n rfl at_258_67).trans ?_
            refine (H_iastore (by omega) (ka_152 L _) at_258_68).trans ?_
            refine ite_congr rfl (fun hi => ?_) (fun _ => rfl)
            refine (S_iconst at_258_69).trans ?_
            refine (S_istore (l1 := [some (jR 109), some (jI x1), some (jI x2), some (jI x3), some (jI 0)]) rfl at_258_70).trans ?_
            rfl
        · refine (S_iload_n rfl at_258_40).trans ?_
          refine (S_if_ge at_258_41).trans ?_
          refine ite_congr rfl (fun _ => ?_) (fun _ => ?_)
          · refine (S_bipush at_258_44).trans ?_
            exact S_ireti rfl at_258_46
          · refine (S_aload_n rfl at_258_47).trans ?_
            refine (S_getR (ka_109 L _) rfl (f_109_25 L _) at_258_48).trans ?_
            refine (S_iload_n rfl at_258_51).trans ?_
            refine (S_iload_n rfl at_258_52).trans ?_
            refine (H_iastore (by omega) (ka_151 L _) at_258_53).trans ?_
            refine ite_congr rfl (fun hi => ?_) (fun _ => rfl)
            refine (S_aload_n rfl at_258_54).trans ?_
            refine (S_getR (ka_109 L _) rfl (f_109_26 L _) at_258_55).trans ?_
            refine (S_iload_n rfl at_258_58).trans ?_
            refine (S_iload_n rfl at_258_59).trans ?_
            refine (S_if_ge at_258_60).trans ?_
            refine ite_congr rfl (fun _ => ?_) (fun _ => ?_)
            · refine (S_iconst at_258_63).trans ?_
              refine (S_goto at_258_64).trans ?_
              refine (H_iastore (by omega) (ka_152 L _) at_258_68).trans ?_
              refine ite_congr rfl (fun hi => ?_) (fun _ => rfl)
              refine (S_iconst at_258_69).trans ?_
              refine (S_istore (l1 := [some (jR 109), some (jI x1), some (jI x2), some (jI x3), some (jI 0)]) rfl at_258_70).trans ?_
              rfl
            · refine (S_iload_n rfl at_258_67).trans ?_
              refine (H_iastore (by omega) (ka_152 L _) at_258_68).trans ?_
              refine ite_congr rfl (fun hi => ?_) (fun _ => rfl)
              refine (S_iconst at_258_69).trans ?_
              refine (S_istore (l1 := [some (jR 109), some (jI x1), some (jI x2), some (jI x3), some (jI 0)]) rfl at_258_70).trans ?_
              rfl
theorem T258_72 {C : Nat → List j_V → j_H → Option j_Z} {L : Nat} {m : j_M0} {x1 : Int} {x2 : Int} {x3 : Int} {x4 : Int} : j_fin C 258 72 [some (jR 109), some (jI x1), some (jI x2), some (jI x3), some (jI x4)] [] (hH L m) = if 0 ≤ x1 ∧ x1 < 6 then if x4 < (m 152 x1.toNat) then if 0 ≤ (w32 ((w32 (60 * x1)) + x4)) ∧ (w32 ((w32 (60 * x1)) + x4)) < 360 then j_fin C 258 72 [some (jR 109), some (jI x1), some (jI x2), some (jI x3), some (jI (w32 (x4 + 1)))] [] (hH L (j_up m 153 (w32 ((w32 (60 * x1)) + x4)).toNat 0)) else none else some (some (jI 1), hH L m) else none := by
  refine (S_iload rfl at_258_72).trans ?_
  refine (S_aload_n rfl at_258_74).trans ?_
  refine (S_getR (ka_109 L _) rfl (f_109_26 L _) at_258_75).trans ?_
  refine (S_iload_n rfl at_258_78).trans ?_
  refine (H_iaload (ka_152 L _) at_258_79).trans ?_
  refine ite_congr rfl (fun hi => ?_) (fun _ => rfl)
  refine (S_icmp_ge at_258_80).trans ?_
  refine ite_congr rfl (fun _ => ?_) (fun _ => ?_)
  · refine (S_aload_n rfl at_258_83).trans ?_
    refine (S_getR (ka_109 L _) rfl (f_109_27 L _) at_258_84).trans ?_
    refine (S_bipush at_258_87).trans ?_
    refine (S_iload_n rfl at_258_89).trans ?_
    refine (S_imul at_258_90).trans ?_
    refine (S_iload rfl at_258_91).trans ?_
    refine (S_iadd at_258_93).trans ?_
    refine (S_lconst at_258_94).trans ?_
    refine (H_lastore (by omega) (ka_153 L _) at_258_95).trans ?_
    refine ite_congr rfl (fun hi => ?_) (fun _ => rfl)
    refine (S_iinc (l1 := [some (jR 109), some (jI x1), some (jI x2), some (jI x3), some (jI (w32 (x4 + 1)))]) rfl rfl at_258_96).trans ?_
    refine (S_goto at_258_99).trans ?_
    rfl
  · refine (S_iconst at_258_102).trans ?_
    exact S_ireti rfl at_258_103
theorem T259_0 {C : Nat → List j_V → j_H → Option j_Z} {L : Nat} {m : j_M0} {x0 : Int} {y1 : Int} : j_fin C 259 0 [some (jI x0), some (jL y1), none] [] (hH L m) = if x0 = 0 then some (some (jL (w8 (w32 y1))), hH L m) else if x0 = 1 then some (some (jL (w16 (w32 y1))), hH L m) else if x0 = 2 then some (some (jL (w32 y1)), hH L m) else if x0 = 3 then some (some (jL y1), hH L m) else if (j_cmp y1 0) = 0 then some (some (jL 0), hH L m) else some (some (jL 1), hH L m) := by
  refine (S_iload_n rfl at_259_0).trans ?_
  refine (tsw_259_1 _).trans ?_
  refine ite_congr rfl (fun _ => ?_) (fun _ => ?_)
  · refine (S_lload_n rfl at_259_32).trans ?_
    refine (S_l2i at_259_33).trans ?_
    refine (S_i2b at_259_34).trans ?_
    refine (S_i2l at_259_35).trans ?_
    exact S_lret rfl at_259_36
  refine ite_congr rfl (fun _ => ?_) (fun _ => ?_)
  · refine (S_lload_n rfl at_259_37).trans ?_
    refine (S_l2i at_259_38).trans ?_
    refine (S_i2s at_259_39).trans ?_
    refine (S_i2l at_259_40).trans ?_
    exact S_lret rfl at_259_41
  refine ite_congr rfl (fun _ => ?_) (fun _ => ?_)
  · refine (S_lload_n rfl at_259_42).trans ?_
    refine (S_l2i at_259_43).trans ?_
    refine (S_i2l at_259_44).trans ?_
    exact S_lret rfl at_259_45
  refine ite_congr rfl (fun _ => ?_) (fun _ => ?_)
  · refine (S_lload_n rfl at_259_46).trans ?_
    exact S_lret rfl at_259_47
  refine (S_lload_n rfl at_259_48).trans ?_
  refine (S_lconst at_259_49).trans ?_
  refine (S_lcmp at_259_50).trans ?_
  refine (S_if_eq at_259_51).trans ?_
  refine ite_congr rfl (fun _ => ?_) (fun _ => ?_)
  · refine (S_lconst at_259_58).trans ?_
    exact S_lret rfl at_259_59
  · refine (S_lconst at_259_54).trans ?_
    refine (S_goto at_259_55).trans ?_
    exact S_lret rfl at_259_59
theorem T260_0 {C : Nat → List j_V → j_H → Option j_Z} {L : Nat} {m : j_M0} {x1 : Int} {x2 : Int} {y3 : Int} : j_fin C 260 0 [some (jR 109), some (jI x1), some (jI x2), some (jL y3), none] [] (hH L m) = (C 253 [jI x1] (hH L m)).bind fun z => j_fin C 260 4 [some (jR 109), some (jI x1), some (jI x2), some (jL y3), none] (z.1.toList ++ []) z.2 := by
  refine (S_iload_n rfl at_260_0).trans ?_
  refine (S_invs (by decide) (Nat.le_of_ble_eq_true rfl) (Nat.le_of_ble_eq_true rfl) at_260_1).trans ?_
  rfl
theorem T260_4 {C : Nat → List j_V → j_H → Option j_Z} {L : Nat} {m : j_M0} {x1 : Int} {x2 : Int} {y3 : Int} {s0 : Int} : j_fin C 260 4 [some (jR 109), some (jI x1), some (jI x2), some (jL y3), none] [jI s0] (hH L m) = if s0 = 0 then some (some (jI (-1)), hH L m) else if 0 ≤ x1 ∧ x1 < 6 then if (m 151 x1.toNat) < 0 then some (some (jI (-11)), hH L m) else if 0 ≤ x1 ∧ x1 < 6 then (C 150 [jL x2, jL 0, jL (w32 ((m 152 x1.toNat) - 1))] (hH L m)).bind fun z => j_fin C 260 36 [some (jR 109), some (jI x1), some (jI x2), some (jL y3), none] (z.1.toList ++ []) z.2 else none else none := by
  refine (S_if_ne at_260_4).trans ?_
  refine ite_congr rfl (fun _ => ?_) (fun _ => ?_)
  · refine (S_iconst at_260_7).trans ?_
    exact S_ireti rfl at_260_8
  · refine (S_aload_n rfl at_260_9).trans ?_
    refine (S_getR (ka_109 L _) rfl (f_109_25 L _) at_260_10).trans ?_
    refine (S_iload_n rfl at_260_13).trans ?_
    refine (H_iaload (ka_151 L _) at_260_14).trans ?_
    refine ite_congr rfl (fun hi => ?_) (fun _ => rfl)
    refine (S_if_ge at_260_15).trans ?_
    refine ite_congr rfl (fun _ => ?_) (fun _ => ?_)
    · refine (S_bipush at_260_18).trans ?_
      exact S_ireti rfl at_260_20
    · refine (S_iload_n rfl at_260_21).trans ?_
      refine (S_i2l at_260_22).trans ?_
      refine (S_lconst at_260_23).trans ?_
      refine (S_aload_n rfl at_260_24).trans ?_
      refine (S_getR (ka_109 L _) rfl (f_109_26 L _) at_260_25).trans ?_
      refine (S_iload_n rfl at_260_28).trans ?_
      refine (H_iaload (ka_152 L _) at_260_29).trans ?_
      refine ite_congr rfl (fun hi => ?_) (fun _ => rfl)
      refine (S_iconst at_260_30).trans ?_
      refine (S_isub at_260_31).trans ?_
      refine (S_i2l at_260_32).trans ?_
      refine (S_invs (by decide) (Nat.le_of_ble_eq_true rfl) (Nat.le_of_ble_eq_true rfl) at_260_33).trans ?_
      rfl
theorem T260_36 {C : Nat → List j_V → j_H → Option j_Z} {L : Nat} {m : j_M0} {x1 : Int} {x2 : Int} {y3 : Int} {s0 : Int} : j_fin C 260 36 [some (jR 109), some (jI x1), some (jI x2), some (jL y3), none] [jI s0] (hH L m) = if s0 = 0 then some (some (jI (-13)), hH L m) else if 0 ≤ x1 ∧ x1 < 6 then (C 259 [jI (m 151 x1.toNat), jL y3] (hH L m)).bind fun z => j_fin C 260 62 [some (jR 109), some (jI x1), some (jI x2), some (jL y3), none] (z.1.toList ++ [jI (w32 ((w32 (60 * x1)) + x2)), jR 153]) z.2 else none := by
  refine (S_if_ne at_260_36).trans ?_
  refine ite_congr rfl (fun _ => ?_) (fun _ => ?_)
  · refine (S_bipush at_260_39).trans ?_
    exact S_ireti rfl at_260_41
  · refine (S_aload_n rfl at_260_42).trans ?_
    refine (S_getR (ka_109 L _) rfl (f_109_27 L _) at_260_43).trans ?_
    refine (S_bipush at_260_46).trans ?_
    refine (S_iload_n rfl at_260_48).trans ?_
    refine (S_imul at_260_49).trans ?_
    refine (S_iload_n rfl at_260_50).trans ?_
    refine (S_iadd at_260_51).trans ?_
    refine (S_aload_n rfl at_260_52).trans ?_
    refine (S_getR (ka_109 L _) rfl (f_109_25 L _) at_260_53).trans ?_
    refine (S_iload_n rfl at_260_56).trans ?_
    refine (H_iaload (ka_151 L _) at_260_57).trans ?_
    refine ite_congr rfl (fun hi => ?_) (fun _ => rfl)
    refine (S_lload_n rfl at_260_58).trans ?_
    refine (S_invs (by decide) (Nat.le_of_ble_eq_true rfl) (Nat.le_of_ble_eq_true rfl) at_260_59).trans ?_
    rfl
theorem T260_62 {C : Nat → List j_V → j_H → Option j_Z} {L : Nat} {m : j_M0} {x1 : Int} {x2 : Int} {y3 : Int} {s1 : Int} {t2 : Int} : j_fin C 260 62 [some (jR 109), some (jI x1), some (jI x2), some (jL y3), none] [jL t2, jI s1, jR 153] (hH L m) = if 0 ≤ s1 ∧ s1 < 360 then some (some (jI 1), hH L (j_up m 153 s1.toNat t2)) else none := by
  refine (H_lastore (by omega) (ka_153 L _) at_260_62).trans ?_
  refine ite_congr rfl (fun hi => ?_) (fun _ => rfl)
  refine (S_iconst at_260_63).trans ?_
  exact S_ireti rfl at_260_64
theorem T261_0 {C : Nat → List j_V → j_H → Option j_Z} {L : Nat} {m : j_M0} {x1 : Int} {x2 : Int} : j_fin C 261 0 [some (jR 109), some (jI x1), some (jI x2)] [] (hH L m) = (C 253 [jI x1] (hH L m)).bind fun z => j_fin C 261 4 [some (jR 109), some (jI x1), some (jI x2)] (z.1.toList ++ []) z.2 := by
  refine (S_iload_n rfl at_261_0).trans ?_
  refine (S_invs (by decide) (Nat.le_of_ble_eq_true rfl) (Nat.le_of_ble_eq_true rfl) at_261_1).trans ?_
  rfl
theorem T261_4 {C : Nat → List j_V → j_H → Option j_Z} {L : Nat} {m : j_M0} {x1 : Int} {x2 : Int} {s0 : Int} : j_fin C 261 4 [some (jR 109), some (jI x1), some (jI x2)] [jI s0] (hH L m) = if s0 = 0 then some (some (jL (-9223372036854775808)), hH L m) else if 0 ≤ x1 ∧ x1 < 6 then if (m 151 x1.toNat) < 0 then some (some (jL (-9223372036854775808)), hH L m) else if 0 ≤ x1 ∧ x1 < 6 then (C 150 [jL x2, jL 0, jL (w32 ((m 152 x1.toNat) - 1))] (hH L m)).bind fun z => j_fin C 261 31 [some (jR 109), some (jI x1), some (jI x2)] (z.1.toList ++ []) z.2 else none else none := by
  refine (S_if_eq at_261_4).trans ?_
  refine ite_congr rfl (fun _ => ?_) (fun _ => ?_)
  · refine (S_ldc2_w at_261_48).trans ?_
    exact S_lret rfl at_261_51
  · refine (S_aload_n rfl at_261_7).trans ?_
    refine (S_getR (ka_109 L _) rfl (f_109_25 L _) at_261_8).trans ?_
    refine (S_iload_n rfl at_261_11).trans ?_
    refine (H_iaload (ka_151 L _) at_261_12).trans ?_
    refine ite_congr rfl (fun hi => ?_) (fun _ => rfl)
    refine (S_if_lt at_261_13).trans ?_
    refine ite_congr rfl (fun _ => ?_) (fun _ => ?_)
    · refine (S_ldc2_w at_261_48).trans ?_
      exact S_lret rfl at_261_51
    · refine (S_iload_n rfl at_261_16).trans ?_
      refine (S_i2l at_261_17).trans ?_
      refine (S_lconst at_261_18).trans ?_
      refine (S_aload_n rfl at_261_19).trans ?_
      refine (S_getR (ka_109 L _) rfl (f_109_26 L _) at_261_20).trans ?_
      refine (S_iload_n rfl at_261_23).trans ?_
      refine (H_iaload (ka_152 L _) at_261_24).trans ?_
      refine ite_congr rfl (fun hi => ?_) (fun _ => rfl)
      refine (S_iconst at_261_25).trans ?_
      refine (S_isub at_261_26).trans ?_
      refine (S_i2l at_261_27).trans ?_
      refine (S_invs (by decide) (Nat.le_of_ble_eq_true rfl) (Nat.le_of_ble_eq_true rfl) at_261_28).trans ?_
      rfl
theorem T261_31 {C : Nat → List j_V → j_H → Option j_Z} {L : Nat} {m : j_M0} {x1 : Int} {x2 : Int} {s0 : Int} : j_fin C 261 31 [some (jR 109), some (jI x1), some (jI x2)] [jI s0] (hH L m) = if s0 = 0 then some (some (jL (-9223372036854775808)), hH L m) else if 0 ≤ (w32 ((w32 (60 * x1)) + x2)) ∧ (w32 ((w32 (60 * x1)) + x2)) < 360 then some (some (jL (m 153 (w32 ((w32 (60 * x1)) + x2)).toNat)), hH L m) else none := by
  refine (S_if_eq at_261_31).trans ?_
  refine ite_congr rfl (fun _ => ?_) (fun _ => ?_)
  · refine (S_ldc2_w at_261_48).trans ?_
    exact S_lret rfl at_261_51
  · refine (S_aload_n rfl at_261_34).trans ?_
    refine (S_getR (ka_109 L _) rfl (f_109_27 L _) at_261_35).trans ?_
    refine (S_bipush at_261_38).trans ?_
    refine (S_iload_n rfl at_261_40).trans ?_
    refine (S_imul at_261_41).trans ?_
    refine (S_iload_n rfl at_261_42).trans ?_
    refine (S_iadd at_261_43).trans ?_
    refine (H_laload (ka_153 L _) at_261_44).trans ?_
    refine ite_congr rfl (fun hi => ?_) (fun _ => rfl)
    refine (S_goto at_261_45).trans ?_
    exact S_lret rfl at_261_51
theorem T262_0 {C : Nat → List j_V → j_H → Option j_Z} {L : Nat} {m : j_M0} {x1 : Int} {x2 : Int} {x3 : Int} {x4 : Int} {x5 : Int} : j_fin C 262 0 [some (jR 109), some (jI x1), some (jI x2), some (jI x3), some (jI x4), some (jI x5), none] [] (hH L m) = (C 253 [jI x1] (hH L m)).bind fun z => j_fin C 262 4 [some (jR 109), some (jI x1), some (jI x2), some (jI x3), some (jI x4), some (jI x5), none] (z.1.toList ++ []) z.2 := by
  refine (S_iload_n rfl at_262_0).trans ?_
  refine (S_invs (by decide) (Nat.le_of_ble_eq_true rfl) (Nat.le_of_ble_eq_true rfl) at_262_1).trans ?_
  rfl
theorem T262_4 {C : Nat → List j_V → j_H → Option j_Z} {L : Nat} {m : j_M0} {x1 : Int} {x2 : Int} {x3 : Int} {x4 : Int} {x5 : Int} {s0 : Int} : j_fin C 262 4 [some (jR 109), some (jI x1), some (jI x2), some (jI x3), some (jI x4), some (jI x5), none] [jI s0] (hH L m) = if s0 = 0 then some (some (jI (-1)), hH L m) else (C 253 [jI x3] (hH L m)).bind fun z => j_fin C 262 11 [some (jR 109), some (jI x1), some (jI x2), some (jI x3), some (jI x4), some (jI x5), none] (z.1.toList ++ []) z.2 := by
  refine (S_if_eq at_262_4).trans ?_
  refine ite_congr rfl (fun _ => ?_) (fun _ => ?_)
  · refine (S_iconst at_262_14).trans ?_
    exact S_ireti rfl at_262_15
  · refine (S_iload_n rfl at_262_7).trans ?_
    refine (S_invs (by decide) (Nat.le_of_ble_eq_true rfl) (Nat.le_of_ble_eq_true rfl) at_262_8).trans ?_
    rfl
theorem T262_11 {C : Nat → List j_V → j_H → Option j_Z} {L : Nat} {m : j_M0} {x1 : Int} {x2 : Int} {x3 : Int} {x4 : Int} {x5 : Int} {s0 : Int} : j_fin C 262 11 [some (jR 109), some (jI x1), some (jI x2), some (jI x3), some (jI x4), some (jI x5), none] [jI s0] (hH L m) = if s0 = 0 then some (some (jI (-1)), hH L m) else if 0 ≤ x1 ∧ x1 < 6 then if (m 151 x1.toNat) < 0 then some (some (jI (-11)), hH L m) else if 0 ≤ x3 ∧ x3 < 6 then if (m 151 x3.toNat) < 0 then some (some (jI (-11)), hH L m) else if 0 ≤ x1 ∧ x1 < 6 then if 0 ≤ x3 ∧ x3 < 6 then if (m 151 x1.toNat) = (m 151 x3.toNat) then if x5 < 0 then some (some (jI (-13)), hH L m) else if x2 < 0 then some (some (jI (-13)), hH L m) else if x4 < 0 then some (some (jI (-13)), hH L m) else if 0 ≤ x1 ∧ x1 < 6 then if (w32 ((m 152 x1.toNat) - x5)) < x2 then some (some (jI (-13)), hH L m) else if 0 ≤ x3 ∧ x3 < 6 then if (w32 ((m 152 x3.toNat) - x5)) < x4 then some (some (jI (-13)), hH L m) else j_fin C 262 102 [some (jR 109), some (jI x1), some (jI x2), some (jI x3), some (jI x4), some (jI x5), some (jI 0)] [] (hH L m) else none else none else some (some (jI (-12)), hH L m) else none else none else none else none := by
  refine (S_if_ne at_262_11).trans ?_
  refine ite_congr rfl (fun _ => ?_) (fun _ => ?_)
  · refine (S_iconst at_262_14).trans ?_
    exact S_ireti rfl at_262_15
  · refine (S_aload_n rfl at_262_16).trans ?_
    refine (S_getR (ka_109 L _) rfl (f_109_25 L _) at_262_17).trans ?_
    refine (S_iload_n rfl at_262_20).trans ?_
    refine (H_iaload (ka_151 L _) at_262_21).trans ?_
    refine ite_congr rfl (fun hi => ?_) (fun _ => rfl)
    refine (S_if_lt at_262_22).trans ?_
    refine ite_congr rfl (fun _ => ?_) (fun _ => ?_)
    · refine (S_bipush at_262_34).trans ?_
      exact S_ireti rfl at_262_36
    · refine (S_aload_n rfl at_262_25).trans ?_
      refine (S_getR (ka_109 L _) rfl (f_109_25 L _) at_262_26).trans ?_
      refine (S_iload_n rfl at_262_29).trans ?_
      refine (H_iaload (ka_151 L _) at_262_30).trans ?_
      refine ite_congr rfl (fun hi => ?_) (fun _ => rfl)
      refine (S_if_ge at_262_31).trans ?_
      refine ite_congr rfl (fun _ => ?_) (fun _ => ?_)
      · refine (S_bipush at_262_34).trans ?_
        exact S_ireti rfl at_262_36
      · refine (S_aload_n rfl at_262_37).trans ?_
        refine (S_getR (ka_109 L _) rfl (f_109_25 L _) at_262_38).trans ?_
        refine (S_iload_n rfl at_262_41).trans ?_
        refine (H_iaload (ka_151 L _) at_262_42).trans ?_
        refine ite_congr rfl (fun hi => ?_) (fun _ => rfl)
        refine (S_aload_n rfl at_262_43).trans ?_
        refine (S_getR (ka_109 L _) rfl (f_109_25 L _) at_262_44).trans ?_
        refine (S_iload_n rfl at_262_47).trans ?_
        refine (H_iaload (ka_151 L _) at_262_48).trans ?_
        refine ite_congr rfl (fun hi => ?_) (fun _ => rfl)
        refine (S_icmp_eq at_262_49).trans ?_
        refine ite_congr rfl (fun _ => ?_) (fun _ => ?_)
        · refine (S_iload rfl at_262_55).trans ?_
          refine (S_if_lt at_262_57).trans ?_
          refine ite_congr rfl (fun _ => ?_) (fun _ => ?_)
          · refine (S_bipush at_262_96).trans ?_
            exact S_ireti rfl at_262_98
          · refine (S_iload_n rfl at_262_60).trans ?_
            refine (S_if_lt at_262_61).trans ?_
            refine ite_congr rfl (fun _ => ?_) (fun _ => ?_)
            · refine (S_bipush at_262_96).trans ?_
              exact S_ireti rfl at_262_98
            · refine (S_iload rfl at_262_64).trans ?_
              refine (S_if_lt at_262_66).trans ?_
              refine ite_congr rfl (fun _ => ?_) (fun _ => ?_)
              · refine (S_bipush at_262_96).trans ?_
                exact S_ireti rfl at_262_98
              · refine (S_iload_n rfl at_262_69).trans ?_
                refine (S_aload_n rfl at_262_70).trans ?_
                refine (S_getR (ka_109 L _) rfl (f_109_26 L _) at_262_71).trans ?_
                refine (S_iload_n rfl at_262_74).trans ?_
                refine (H_iaload (ka_152 L _) at_262_75).trans ?_
                refine ite_congr rfl (fun hi => ?_) (fun _ => rfl)
                refine (S_iload rfl at_262_76).trans ?_
                refine (S_isub at_262_78).trans ?_
                refine (S_icmp_gt at_262_79).trans ?_
                refine ite_congr rfl (fun _ => ?_) (fun _ => ?_)
                · refine (S_bipush at_262_96).trans ?_
                  exact S_ireti rfl at_262_98
                · refine (S_iload rfl at_262_82).trans ?_
                  refine (S_aload_n rfl at_262_84).trans ?_
                  refine (S_getR (ka_109 L _) rfl (f_109_26 L _) at_262_85).trans ?_
                  refine (S_iload_n rfl at_262_88).trans ?_
                  refine (H_iaload (ka_152 L _) at_262_89).trans ?_
                  refine ite_congr rfl (fun hi => ?_) (fun _ => rfl)
                  refine (S_iload rfl at_262_90).trans ?_
                  refine (S_isub at_262_92).trans ?_
                  refine (S_icmp_le at_262_93).trans ?_
                  refine ite_congr rfl (fun _ => ?_) (fun _ => ?_)
                  · refine (S_bipush at_262_96).trans ?_
                    exact S_ireti rfl at_262_98
                  · refine (S_iconst at_262_99).trans ?_
                    refine (S_istore (l1 := [some (jR 109), some (jI x1), some (jI x2), some (jI x3), some (jI x4), some (jI x5), some (jI 0)]) rfl at_262_100).trans ?_
                    rfl
        · refine (S_bipush at_262_52).trans ?_
          exact S_ireti rfl at_262_54
theorem T262_102 {C : Nat → List j_V → j_H → Option j_Z} {L : Nat} {m : j_M0} {x1 : Int} {x2 : Int} {x3 : Int} {x4 : Int} {x5 : Int} {x6 : Int} : j_fin C 262 102 [some (jR 109), some (jI x1), some (jI x2), some (jI x3), some (jI x4), some (jI x5), some (jI x6)] [] (hH L m) = if x6 < x5 then if 0 ≤ (w32 ((w32 ((w32 (60 * x1)) + x2)) + x6)) ∧ (w32 ((w32 ((w32 (60 * x1)) + x2)) + x6)) < 360 then if 0 ≤ x6 ∧ x6 < 60 then j_fin C 262 102 [some (jR 109), some (jI x1), some (jI x2), some (jI x3), some (jI x4), some (jI x5), some (jI (w32 (x6 + 1)))] [] (hH L (j_up m 154 x6.toNat (m 153 (w32 ((w32 ((w32 (60 * x1)) + x2)) + x6)).toNat))) else none else none else j_fin C 262 139 [some (jR 109), some (jI x1), some (jI x2), some (jI x3), some (jI x4), some (jI x5), some (jI 0)] [] (hH L m) := by
  refine (S_iload rfl at_262_102).trans ?_
  refine (S_iload rfl at_262_104).trans ?_
  refine (S_icmp_ge at_262_106).trans ?_
  refine ite_congr rfl (fun _ => ?_) (fun _ => ?_)
  · refine (S_aload_n rfl at_262_109).trans ?_
    refine (S_getR (ka_109 L _) rfl (f_109_28 L _) at_262_110).trans ?_
    refine (S_iload rfl at_262_113).trans ?_
    refine (S_aload_n rfl at_262_115).trans ?_
    refine (S_getR (ka_109 L _) rfl (f_109_27 L _) at_262_116).trans ?_
    refine (S_bipush at_262_119).trans ?_
    refine (S_iload_n rfl at_262_121).trans ?_
    refine (S_imul at_262_122).trans ?_
    refine (S_iload_n rfl at_262_123).trans ?_
    refine (S_iadd at_262_124).trans ?_
    refine (S_iload rfl at_262_125).trans ?_
    refine (S_iadd at_262_127).trans ?_
    refine (H_laload (ka_153 L _) at_262_128).trans ?_
    refine ite_congr rfl (fun hi => ?_) (fun _ => rfl)
    refine (H_lastore (by omega) (ka_154 L _) at_262_129).trans ?_
    refine ite_congr rfl (fun hi => ?_) (fun _ => rfl)
    refine (S_iinc (l1 := [some (jR 109), some (jI x1), some (jI x2), some (jI x3), some (jI x4), some (jI x5), some (jI (w32 (x6 + 1)))]) rfl rfl at_262_130).trans ?_
    refine (S_goto at_262_133).trans ?_
    rfl
  · refine (S_iconst at_262_136).trans ?_
    refine (S_istore (l1 := [some (jR 109), some (jI x1), some (jI x2), some (jI x3), some (jI x4), some (jI x5), some (jI 0)]) rfl at_262_137).trans ?_
    rfl
theorem T262_139 {C : Nat → List j_V → j_H → Option j_Z} {L : Nat} {m : j_M0} {x1 : Int} {x2 : Int} {x3 : Int} {x4 : Int} {x5 : Int} {x6 : Int} : j_fin C 262 139 [some (jR 109), some (jI x1), some (jI x2), some (jI x3), some (jI x4), some (jI x5), some (jI x6)] [] (hH L m) = if x6 < x5 then if 0 ≤ x6 ∧ x6 < 60 then if 0 ≤ (w32 ((w32 ((w32 (60 * x3)) + x4)) + x6)) ∧ (w32 ((w32 ((w32 (60 * x3)) + x4)) + x6)) < 360 then j_fin C 262 139 [some (jR 109), some (jI x1), some (jI x2), some (jI x3), some (jI x4), some (jI x5), some (jI (w32 (x6 + 1)))] [] (hH L (j_up m 153 (w32 ((w32 ((w32 (60 * x3)) + x4)) + x6)).toNat (m 154 x6.toNat))) else none else none else some (some (jI x5), hH L m) := by
  refine (S_iload rfl at_262_139).trans ?_
  refine (S_iload rfl at_262_141).trans ?_
  refine (S_icmp_ge at_262_143).trans ?_
  refine ite_congr rfl (fun _ => ?_) (fun _ => ?_)
  · refine (S_aload_n rfl at_262_146).trans ?_
    refine (S_getR (ka_109 L _) rfl (f_109_27 L _) at_262_147).trans ?_
    refine (S_bipush at_262_150).trans ?_
    refine (S_iload_n rfl at_262_152).trans ?_
    refine (S_imul at_262_153).trans ?_
    refine (S_iload rfl at_262_154).trans ?_
    refine (S_iadd at_262_156).trans ?_
    refine (S_iload rfl at_262_157).trans ?_
    refine (S_iadd at_262_159).trans ?_
    refine (S_aload_n rfl at_262_160).trans ?_
    refine (S_getR (ka_109 L _) rfl (f_109_28 L _) at_262_161).trans ?_
    refine (S_iload rfl at_262_164).trans ?_
    refine (H_laload (ka_154 L _) at_262_166).trans ?_
    refine ite_congr rfl (fun hi => ?_) (fun _ => rfl)
    refine (H_lastore (by omega) (ka_153 L _) at_262_167).trans ?_
    refine ite_congr rfl (fun hi => ?_) (fun _ => rfl)
    refine (S_iinc (l1 := [some (jR 109), some (jI x1), some (jI x2), some (jI x3), some (jI x4), some (jI x5), some (jI (w32 (x6 + 1)))]) rfl rfl at_262_168).trans ?_
    refine (S_goto at_262_171).trans ?_
    rfl
  · refine (S_iload rfl at_262_174).trans ?_
    exact S_ireti rfl at_262_176
theorem T263_0 {C : Nat → List j_V → j_H → Option j_Z} {L : Nat} {m : j_M0} {x0 : Int} {x1 : Int} : j_fin C 263 0 [some (jI x0), some (jI x1), none] [] (hH L m) = if x1 = 0 then none else if (j_xor x0 x1) < 0 then if (w32 ((w32 (Int.tdiv x0 x1)) * x1)) = x0 then some (some (jI (w32 (Int.tdiv x0 x1))), hH L m) else some (some (jI (w32 ((w32 (Int.tdiv x0 x1)) - 1))), hH L m) else some (some (jI (w32 (Int.tdiv x0 x1))), hH L m) := by
  refine (S_iload_n rfl at_263_0).trans ?_
  refine (S_iload_n rfl at_263_1).trans ?_
  refine (S_idiv at_263_2).trans ?_
  refine ite_congr rfl (fun _ => rfl) (fun hz => ?_)
  refine (S_istore_n (l1 := [some (jI x0), some (jI x1), some (jI (w32 (Int.tdiv x0 x1)))]) rfl at_263_3).trans ?_
  refine (S_iload_n rfl at_263_4).trans ?_
  refine (S_iload_n rfl at_263_5).trans ?_
  refine (S_ixor at_263_6).trans ?_
  refine (S_if_ge at_263_7).trans ?_
  refine ite_congr rfl (fun _ => ?_) (fun _ => ?_)
  · refine (S_iload_n rfl at_263_10).trans ?_
    refine (S_iload_n rfl at_263_11).trans ?_
    refine (S_imul at_263_12).trans ?_
    refine (S_iload_n rfl at_263_13).trans ?_
    refine (S_icmp_eq at_263_14).trans ?_
    refine ite_congr rfl (fun _ => ?_) (fun _ => ?_)
    · refine (S_iload_n rfl at_263_21).trans ?_
      exact S_ireti rfl at_263_22
    · refine (S_iload_n rfl at_263_17).trans ?_
      refine (S_iconst at_263_18).trans ?_
      refine (S_isub at_263_19).trans ?_
      exact S_ireti rfl at_263_20
  · refine (S_iload_n rfl at_263_21).trans ?_
    exact S_ireti rfl at_263_22
theorem T264_0 {C : Nat → List j_V → j_H → Option j_Z} {L : Nat} {m : j_M0} {y0 : Int} {x2 : Int} : j_fin C 264 0 [some (jL y0), none, some (jI x2)] [] (hH L m) = (C 265 [jL y0, jL x2] (hH L m)).bind fun z => j_fin C 264 6 [some (jL y0), none, some (jI x2)] (z.1.toList ++ []) z.2 := by
  refine (S_lload_n rfl at_264_0).trans ?_
  refine (S_iload_n rfl at_264_1).trans ?_
  refine (S_i2l at_264_2).trans ?_
  refine (S_invs (by decide) (Nat.le_of_ble_eq_true rfl) (Nat.le_of_ble_eq_true rfl) at_264_3).trans ?_
  rfl
theorem T264_6 {C : Nat → List j_V → j_H → Option j_Z} {L : Nat} {m : j_M0} {y0 : Int} {x2 : Int} {t0 : Int} : j_fin C 264 6 [some (jL y0), none, some (jI x2)] [jL t0] (hH L m) = some (some (jL t0), hH L m) := by
  exact S_lret rfl at_264_6
theorem T265_0 {C : Nat → List j_V → j_H → Option j_Z} {L : Nat} {m : j_M0} {y0 : Int} {y2 : Int} : j_fin C 265 0 [some (jL y0), none, some (jL y2), none, none, none] [] (hH L m) = if y2 = 0 then none else if (j_cmp (j_lxor y0 y2) 0) < 0 then if (j_cmp (w64 ((w64 (Int.tdiv y0 y2)) * y2)) y0) = 0 then some (some (jL (w64 (Int.tdiv y0 y2))), hH L m) else some (some (jL (w64 ((w64 (Int.tdiv y0 y2)) - 1))), hH L m) else some (some (jL (w64 (Int.tdiv y0 y2))), hH L m) := by
  refine (S_lload_n rfl at_265_0).trans ?_
  refine (S_lload_n rfl at_265_1).trans ?_
  refine (S_ldiv at_265_2).trans ?_
  refine ite_congr rfl (fun _ => rfl) (fun hz => ?_)
  refine (S_lstore (l1 := [some (jL y0), none, some (jL y2), none, some (jL (w64 (Int.tdiv y0 y2))), none]) rfl at_265_3).trans ?_
  refine (S_lload_n rfl at_265_5).trans ?_
  refine (S_lload_n rfl at_265_6).trans ?_
  refine (S_lxor at_265_7).trans ?_
  refine (S_lconst at_265_8).trans ?_
  refine (S_lcmp at_265_9).trans ?_
  refine (S_if_ge at_265_10).trans ?_
  refine ite_congr rfl (fun _ => ?_) (fun _ => ?_)
  · refine (S_lload rfl at_265_13).trans ?_
    refine (S_lload_n rfl at_265_15).trans ?_
    refine (S_lmul at_265_16).trans ?_
    refine (S_lload_n rfl at_265_17).trans ?_
    refine (S_lcmp at_265_18).trans ?_
    refine (S_if_eq at_265_19).trans ?_
    refine ite_congr rfl (fun _ => ?_) (fun _ => ?_)
    · refine (S_lload rfl at_265_27).trans ?_
      exact S_lret rfl at_265_29
    · refine (S_lload rfl at_265_22).trans ?_
      refine (S_lconst at_265_24).trans ?_
      refine (S_lsub at_265_25).trans ?_
      exact S_lret rfl at_265_26
  · refine (S_lload rfl at_265_27).trans ?_
    exact S_lret rfl at_265_29
theorem T266_0 {C : Nat → List j_V → j_H → Option j_Z} {L : Nat} {m : j_M0} {y0 : Int} {y2 : Int} : j_fin C 266 0 [some (jL y0), none, some (jL y2), none, none, none] [] (hH L m) = if y2 = 0 then none else if (j_cmp (j_lxor y0 y2) 0) < 0 then if (j_cmp (Int.tmod y0 y2) 0) = 0 then some (some (jL (Int.tmod y0 y2)), hH L m) else some (some (jL (w64 ((Int.tmod y0 y2) + y2))), hH L m) else some (some (jL (Int.tmod y0 y2)), hH L m) := by
  refine (S_lload_n rfl at_266_0).trans ?_
  refine (S_lload_n rfl at_266_1).trans ?_
  refine (S_lrem at_266_2).trans ?_
  refine ite_congr rfl (fun _ => rfl) (fun hz => ?_)
  refine (S_lstore (l1 := [some (jL y0), none, some (jL y2), none, some (jL (Int.tmod y0 y2)), none]) rfl at_266_3).trans ?_
  refine (S_lload_n rfl at_266_5).trans ?_
  refine (S_lload_n rfl at_266_6).trans ?_
  refine (S_lxor at_266_7).trans ?_
  refine (S_lconst at_266_8).trans ?_
  refine (S_lcmp at_266_9).trans ?_
  refine (S_if_ge at_266_10).trans ?_
  refine ite_congr rfl (fun _ => ?_) (fun _ => ?_)
  · refine (S_lload rfl at_266_13).trans ?_
    refine (S_lconst at_266_15).trans ?_
    refine (S_lcmp at_266_16).trans ?_
    refine (S_if_eq at_266_17).trans ?_
    refine ite_congr rfl (fun _ => ?_) (fun _ => ?_)
    · refine (S_lload rfl at_266_25).trans ?_
      exact S_lret rfl at_266_27
    · refine (S_lload rfl at_266_20).trans ?_
      refine (S_lload_n rfl at_266_22).trans ?_
      refine (S_ladd at_266_23).trans ?_
      exact S_lret rfl at_266_24
  · refine (S_lload rfl at_266_25).trans ?_
    exact S_lret rfl at_266_27
theorem T267_0 {C : Nat → List j_V → j_H → Option j_Z} {L : Nat} {m : j_M0} {y0 : Int} : j_fin C 267 0 [some (jL y0), none] [] (hH L m) = if (j_cmp y0 0) < 0 then some (some (jL (w64 (-y0))), hH L m) else some (some (jL y0), hH L m) := by
  refine (S_lload_n rfl at_267_0).trans ?_
  refine (S_lconst at_267_1).trans ?_
  refine (S_lcmp at_267_2).trans ?_
  refine (S_if_ge at_267_3).trans ?_
  refine ite_congr rfl (fun _ => ?_) (fun _ => ?_)
  · refine (S_lload_n rfl at_267_6).trans ?_
    refine (S_lneg at_267_7).trans ?_
    refine (S_goto at_267_8).trans ?_
    exact S_lret rfl at_267_12
  · refine (S_lload_n rfl at_267_11).trans ?_
    exact S_lret rfl at_267_12
theorem T268_0 {C : Nat → List j_V → j_H → Option j_Z} {L : Nat} {m : j_M0} {x0 : Int} {x1 : Int} : j_fin C 268 0 [some (jI x0), some (jI x1)] [] (hH L m) = if x1 < x0 then some (some (jI x1), hH L m) else some (some (jI x0), hH L m) := by
  refine (S_iload_n rfl at_268_0).trans ?_
  refine (S_iload_n rfl at_268_1).trans ?_
  refine (S_icmp_gt at_268_2).trans ?_
  refine ite_congr rfl (fun _ => ?_) (fun _ => ?_)
  · refine (S_iload_n rfl at_268_9).trans ?_
    exact S_ireti rfl at_268_10
  · refine (S_iload_n rfl at_268_5).trans ?_
    refine (S_goto at_268_6).trans ?_
    exact S_ireti rfl at_268_10
theorem T269_0 {C : Nat → List j_V → j_H → Option j_Z} {L : Nat} {m : j_M0} {k0 : Nat} {y1 : Int} (hk0 : k0 < 6) : j_fin C 269 0 [some (jR (102 + k0)), some (jL y1), none, none, none] [] (hH L m) = j_fin C 269 6 [some (jR (102 + k0)), some (jL y1), none, some (jI 0), some (jI 60)] [] (hH L m) := by
  refine (S_iconst at_269_0).trans ?_
  refine (S_istore_n (l1 := [some (jR (102 + k0)), some (jL y1), none, some (jI 0), none]) rfl at_269_1).trans ?_
  refine (S_aload_n rfl at_269_2).trans ?_
  refine (S_alen (ka_tp hk0) (by decide) at_269_3).trans ?_
  refine (S_istore (l1 := [some (jR (102 + k0)), some (jL y1), none, some (jI 0), some (jI 60)]) rfl at_269_4).trans ?_
  rfl
theorem T269_6 {C : Nat → List j_V → j_H → Option j_Z} {L : Nat} {m : j_M0} {k0 : Nat} {y1 : Int} {x3 : Int} {x4 : Int} (hk0 : k0 < 6) : j_fin C 269 6 [some (jR (102 + k0)), some (jL y1), none, some (jI x3), some (jI x4)] [] (hH L m) = if x3 < x4 then if 0 ≤ x3 ∧ x3 < 60 then j_fin C 269 6 [some (jR (102 + k0)), some (jL y1), none, some (jI (w32 (x3 + 1))), some (jI x4)] [] (hH L (j_up m (102 + k0) x3.toNat y1)) else none else some (none, hH L m) := by
  refine (S_iload_n rfl at_269_6).trans ?_
  refine (S_iload rfl at_269_7).trans ?_
  refine (S_icmp_ge at_269_9).trans ?_
  refine ite_congr rfl (fun _ => ?_) (fun _ => ?_)
  · refine (S_aload_n rfl at_269_12).trans ?_
    refine (S_iload_n rfl at_269_13).trans ?_
    refine (S_lload_n rfl at_269_14).trans ?_
    refine (H_lastore (by omega) (ka_tp hk0) at_269_15).trans ?_
    refine ite_congr rfl (fun hi => ?_) (fun _ => rfl)
    refine (S_iinc (l1 := [some (jR (102 + k0)), some (jL y1), none, some (jI (w32 (x3 + 1))), some (jI x4)]) rfl rfl at_269_16).trans ?_
    refine (S_goto at_269_19).trans ?_
    rfl
  · exact S_ret rfl at_269_22
theorem T270_0_13 {C : Nat → List j_V → j_H → Option j_Z} {L : Nat} {m : j_M0} {x1 : Int} : j_fin C 270 0 [some (jR 13), some (jI x1), none, none] [] (hH L m) = j_fin C 270 5 [some (jR 13), some (jI x1), some (jI 0), some (jI 8)] [] (hH L m) := by
  refine (S_iconst at_270_0).trans ?_
  refine (S_istore_n (l1 := [some (jR 13), some (jI x1), some (jI 0), none]) rfl at_270_1).trans ?_
  refine (S_aload_n rfl at_270_2).trans ?_
  refine (S_alen (ka_13 L _) (by decide) at_270_3).trans ?_
  refine (S_istore_n (l1 := [some (jR 13), some (jI x1), some (jI 0), some (jI 8)]) rfl at_270_4).trans ?_
  rfl
theorem T270_5_13 {C : Nat → List j_V → j_H → Option j_Z} {L : Nat} {m : j_M0} {x1 : Int} {x2 : Int} {x3 : Int} : j_fin C 270 5 [some (jR 13), some (jI x1), some (jI x2), some (jI x3)] [] (hH L m) = if x2 < x3 then if 0 ≤ x2 ∧ x2 < 8 then j_fin C 270 5 [some (jR 13), some (jI x1), some (jI (w32 (x2 + 1))), some (jI x3)] [] (hH L (j_up m 13 x2.toNat x1)) else none else some (none, hH L m) := by
  refine (S_iload_n rfl at_270_5).trans ?_
  refine (S_iload_n rfl at_270_6).trans ?_
  refine (S_icmp_ge at_270_7).trans ?_
  refine ite_congr rfl (fun _ => ?_) (fun _ => ?_)
  · refine (S_aload_n rfl at_270_10).trans ?_
    refine (S_iload_n rfl at_270_11).trans ?_
    refine (S_iload_n rfl at_270_12).trans ?_
    refine (H_iastore (by omega) (ka_13 L _) at_270_13).trans ?_
    refine ite_congr rfl (fun hi => ?_) (fun _ => rfl)
    refine (S_iinc (l1 := [some (jR 13), some (jI x1), some (jI (w32 (x2 + 1))), some (jI x3)]) rfl rfl at_270_14).trans ?_
    refine (S_goto at_270_17).trans ?_
    rfl
  · exact S_ret rfl at_270_20
theorem T270_0_5 {C : Nat → List j_V → j_H → Option j_Z} {L : Nat} {m : j_M0} {x1 : Int} : j_fin C 270 0 [some (jR 5), some (jI x1), none, none] [] (hH L m) = j_fin C 270 5 [some (jR 5), some (jI x1), some (jI 0), some (jI 5)] [] (hH L m) := by
  refine (S_iconst at_270_0).trans ?_
  refine (S_istore_n (l1 := [some (jR 5), some (jI x1), some (jI 0), none]) rfl at_270_1).trans ?_
  refine (S_aload_n rfl at_270_2).trans ?_
  refine (S_alen (ka_5 L _) (by decide) at_270_3).trans ?_
  refine (S_istore_n (l1 := [some (jR 5), some (jI x1), some (jI 0), some (jI 5)]) rfl at_270_4).trans ?_
  rfl
theorem T270_5_5 {C : Nat → List j_V → j_H → Option j_Z} {L : Nat} {m : j_M0} {x1 : Int} {x2 : Int} {x3 : Int} : j_fin C 270 5 [some (jR 5), some (jI x1), some (jI x2), some (jI x3)] [] (hH L m) = if x2 < x3 then if 0 ≤ x2 ∧ x2 < 5 then j_fin C 270 5 [some (jR 5), some (jI x1), some (jI (w32 (x2 + 1))), some (jI x3)] [] (hH L (j_up m 5 x2.toNat x1)) else none else some (none, hH L m) := by
  refine (S_iload_n rfl at_270_5).trans ?_
  refine (S_iload_n rfl at_270_6).trans ?_
  refine (S_icmp_ge at_270_7).trans ?_
  refine ite_congr rfl (fun _ => ?_) (fun _ => ?_)
  · refine (S_aload_n rfl at_270_10).trans ?_
    refine (S_iload_n rfl at_270_11).trans ?_
    refine (S_iload_n rfl at_270_12).trans ?_
    refine (H_iastore (by omega) (ka_5 L _) at_270_13).trans ?_
    refine ite_congr rfl (fun hi => ?_) (fun _ => rfl)
    refine (S_iinc (l1 := [some (jR 5), some (jI x1), some (jI (w32 (x2 + 1))), some (jI x3)]) rfl rfl at_270_14).trans ?_
    refine (S_goto at_270_17).trans ?_
    rfl
  · exact S_ret rfl at_270_20
