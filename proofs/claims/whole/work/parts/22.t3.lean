theorem T160_0 {C : Nat → List j_V → j_H → Option j_Z} {L : Nat} {m : j_M0} {x1 : Int} {x2 : Int} : j_fin C 160 0 [some (jR 109), some (jI x1), some (jI x2), none] [] (hH L m) = (C 152 [jR 109, jI x1] (hH L m)).bind fun z => j_fin C 160 5 [some (jR 109), some (jI x1), some (jI x2), none] (z.1.toList ++ []) z.2 := by
  refine (S_aload_n rfl at_160_0).trans ?_
  refine (S_iload_n rfl at_160_1).trans ?_
  refine (S_invv (b := 1) kn_152 rfl (ka_109 L _) (Nat.le_of_ble_eq_true rfl) at_160_2).trans ?_
  rfl
theorem T160_5 {C : Nat → List j_V → j_H → Option j_Z} {L : Nat} {m : j_M0} {x1 : Int} {x2 : Int} {s0 : Int} : j_fin C 160 5 [some (jR 109), some (jI x1), some (jI x2), none] [jI s0] (hH L m) = if s0 = 0 then some (some (jI (-1)), hH L m) else (C 150 [jL x2, jL 0, jL 99] (hH L m)).bind fun z => j_fin C 160 19 [some (jR 109), some (jI x1), some (jI x2), none] (z.1.toList ++ []) z.2 := by
  refine (S_if_ne at_160_5).trans ?_
  refine ite_congr rfl (fun _ => ?_) (fun _ => ?_)
  · refine (S_iconst at_160_8).trans ?_
    exact S_ireti rfl at_160_9
  · refine (S_iload_n rfl at_160_10).trans ?_
    refine (S_i2l at_160_11).trans ?_
    refine (S_lconst at_160_12).trans ?_
    refine (S_ldc2_w at_160_13).trans ?_
    refine (S_invs (by decide) (Nat.le_of_ble_eq_true rfl) (Nat.le_of_ble_eq_true rfl) at_160_16).trans ?_
    rfl
theorem T160_19 {C : Nat → List j_V → j_H → Option j_Z} {L : Nat} {m : j_M0} {x1 : Int} {x2 : Int} {s0 : Int} : j_fin C 160 19 [some (jR 109), some (jI x1), some (jI x2), none] [jI s0] (hH L m) = if s0 = 0 then some (some (jI (-2)), hH L m) else if 0 ≤ (w32 (7 + x1)) ∧ (w32 (7 + x1)) < 150 then if 0 ≤ (w32 (7 + x1)) ∧ (w32 (7 + x1)) < 150 then some (some (jI (m 110 (w32 (7 + x1)).toNat)), hH L (j_up (j_up (j_up m 110 (w32 (7 + x1)).toNat x2) 110 6 0) 115 18 0)) else none else none := by
  refine (S_if_ne at_160_19).trans ?_
  refine ite_congr rfl (fun _ => ?_) (fun _ => ?_)
  · refine (S_bipush at_160_22).trans ?_
    exact S_ireti rfl at_160_24
  · refine (S_aload_n rfl at_160_25).trans ?_
    refine (S_getR (ka_109 L _) rfl (f_109_0 L _) at_160_26).trans ?_
    refine (S_bipush at_160_29).trans ?_
    refine (S_iload_n rfl at_160_31).trans ?_
    refine (S_iadd at_160_32).trans ?_
    refine (H_iaload (ka_110 L _) at_160_33).trans ?_
    refine ite_congr rfl (fun hi => ?_) (fun _ => rfl)
    refine (S_istore_n (l1 := [some (jR 109), some (jI x1), some (jI x2), some (jI (m 110 (w32 (7 + x1)).toNat))]) rfl at_160_34).trans ?_
    refine (S_aload_n rfl at_160_35).trans ?_
    refine (S_getR (ka_109 L _) rfl (f_109_0 L _) at_160_36).trans ?_
    refine (S_bipush at_160_39).trans ?_
    refine (S_iload_n rfl at_160_41).trans ?_
    refine (S_iadd at_160_42).trans ?_
    refine (S_iload_n rfl at_160_43).trans ?_
    refine (H_iastore (by omega) (ka_110 L _) at_160_44).trans ?_
    refine ite_congr rfl (fun hi => ?_) (fun _ => rfl)
    refine (S_aload_n rfl at_160_45).trans ?_
    refine (S_getR (ka_109 L _) rfl (f_109_0 L _) at_160_46).trans ?_
    refine (S_bipush at_160_49).trans ?_
    refine (S_iconst at_160_51).trans ?_
    refine (H_iastore (by omega) (ka_110 L _) at_160_52).trans ?_
    refine (if_pos (by decide)).trans ?_
    refine (S_aload_n rfl at_160_53).trans ?_
    refine (S_getR (ka_109 L _) rfl (f_109_9 L _) at_160_54).trans ?_
    refine (S_iconst at_160_57).trans ?_
    refine (H_put2 (ka_115 L _) rfl at_160_58).trans ?_
    refine (if_pos (by decide)).trans ?_
    refine (S_iload_n rfl at_160_61).trans ?_
    exact S_ireti rfl at_160_62
theorem T161_0 {C : Nat → List j_V → j_H → Option j_Z} {L : Nat} {m : j_M0} {x1 : Int} {x2 : Int} : j_fin C 161 0 [some (jR 109), some (jI x1), some (jI x2), none, none] [] (hH L m) = if 0 ≤ (w32 (12 + (w32 (7 * (m 110 1))))) ∧ (w32 (12 + (w32 (7 * (m 110 1))))) < 150 then if 0 ≤ (w32 ((w32 (12 + (w32 (7 * (m 110 1))))) + 1)) ∧ (w32 ((w32 (12 + (w32 (7 * (m 110 1))))) + 1)) < 150 then j_fin C 161 32 [some (jR 109), some (jI x1), some (jI x2), some (jI (w32 (12 + (w32 (7 * (m 110 1)))))), some (jI 0)] [] (hH L (j_up (j_up m 110 (w32 (12 + (w32 (7 * (m 110 1))))).toNat x1) 110 (w32 ((w32 (12 + (w32 (7 * (m 110 1))))) + 1)).toNat x2)) else none else none := by
  refine (S_bipush at_161_0).trans ?_
  refine (S_bipush at_161_2).trans ?_
  refine (S_aload_n rfl at_161_4).trans ?_
  refine (S_getR (ka_109 L _) rfl (f_109_0 L _) at_161_5).trans ?_
  refine (S_iconst at_161_8).trans ?_
  refine (H_iaload (ka_110 L _) at_161_9).trans ?_
  refine (if_pos (by decide)).trans ?_
  refine (S_imul at_161_10).trans ?_
  refine (S_iadd at_161_11).trans ?_
  refine (S_istore_n (l1 := [some (jR 109), some (jI x1), some (jI x2), some (jI (w32 (12 + (w32 (7 * (m 110 1)))))), none]) rfl at_161_12).trans ?_
  refine (S_aload_n rfl at_161_13).trans ?_
  refine (S_getR (ka_109 L _) rfl (f_109_0 L _) at_161_14).trans ?_
  refine (S_iload_n rfl at_161_17).trans ?_
  refine (S_iload_n rfl at_161_18).trans ?_
  refine (H_iastore (by omega) (ka_110 L _) at_161_19).trans ?_
  refine ite_congr rfl (fun hi => ?_) (fun _ => rfl)
  refine (S_aload_n rfl at_161_20).trans ?_
  refine (S_getR (ka_109 L _) rfl (f_109_0 L _) at_161_21).trans ?_
  refine (S_iload_n rfl at_161_24).trans ?_
  refine (S_iconst at_161_25).trans ?_
  refine (S_iadd at_161_26).trans ?_
  refine (S_iload_n rfl at_161_27).trans ?_
  refine (H_iastore (by omega) (ka_110 L _) at_161_28).trans ?_
  refine ite_congr rfl (fun hi => ?_) (fun _ => rfl)
  refine (S_iconst at_161_29).trans ?_
  refine (S_istore (l1 := [some (jR 109), some (jI x1), some (jI x2), some (jI (w32 (12 + (w32 (7 * (m 110 1)))))), some (jI 0)]) rfl at_161_30).trans ?_
  rfl
theorem T161_32 {C : Nat → List j_V → j_H → Option j_Z} {L : Nat} {m : j_M0} {x1 : Int} {x2 : Int} {x3 : Int} {x4 : Int} : j_fin C 161 32 [some (jR 109), some (jI x1), some (jI x2), some (jI x3), some (jI x4)] [] (hH L m) = if x4 < 5 then if 0 ≤ (w32 ((w32 (x3 + 2)) + x4)) ∧ (w32 ((w32 (x3 + 2)) + x4)) < 150 then j_fin C 161 32 [some (jR 109), some (jI x1), some (jI x2), some (jI x3), some (jI (w32 (x4 + 1)))] [] (hH L (j_up m 110 (w32 ((w32 (x3 + 2)) + x4)).toNat 0)) else none else some (none, hH L (j_up (j_up m 110 1 (w32 ((m 110 1) + 1))) 115 18 0)) := by
  refine (S_iload rfl at_161_32).trans ?_
  refine (S_iconst at_161_34).trans ?_
  refine (S_icmp_ge at_161_35).trans ?_
  refine ite_congr rfl (fun _ => ?_) (fun _ => ?_)
  · refine (S_aload_n rfl at_161_38).trans ?_
    refine (S_getR (ka_109 L _) rfl (f_109_0 L _) at_161_39).trans ?_
    refine (S_iload_n rfl at_161_42).trans ?_
    refine (S_iconst at_161_43).trans ?_
    refine (S_iadd at_161_44).trans ?_
    refine (S_iload rfl at_161_45).trans ?_
    refine (S_iadd at_161_47).trans ?_
    refine (S_iconst at_161_48).trans ?_
    refine (H_iastore (by omega) (ka_110 L _) at_161_49).trans ?_
    refine ite_congr rfl (fun hi => ?_) (fun _ => rfl)
    refine (S_iinc (l1 := [some (jR 109), some (jI x1), some (jI x2), some (jI x3), some (jI (w32 (x4 + 1)))]) rfl rfl at_161_50).trans ?_
    refine (S_goto at_161_53).trans ?_
    rfl
  · refine (S_aload_n rfl at_161_56).trans ?_
    refine (S_getR (ka_109 L _) rfl (f_109_0 L _) at_161_57).trans ?_
    refine (S_iconst at_161_60).trans ?_
    refine (S_dup2RI at_161_61).trans ?_
    refine (H_iaload (ka_110 L _) at_161_62).trans ?_
    refine (if_pos (by decide)).trans ?_
    refine (S_iconst at_161_63).trans ?_
    refine (S_iadd at_161_64).trans ?_
    refine (H_iastore (by omega) (ka_110 L _) at_161_65).trans ?_
    refine (if_pos (by decide)).trans ?_
    refine (S_aload_n rfl at_161_66).trans ?_
    refine (S_getR (ka_109 L _) rfl (f_109_9 L _) at_161_67).trans ?_
    refine (S_iconst at_161_70).trans ?_
    refine (H_put2 (ka_115 L _) rfl at_161_71).trans ?_
    refine (if_pos (by decide)).trans ?_
    exact S_ret rfl at_161_74
theorem T162_0 {C : Nat → List j_V → j_H → Option j_Z} {L : Nat} {m : j_M0} {x1 : Int} {x2 : Int} : j_fin C 162 0 [some (jR 109), some (jI x1), some (jI x2)] [] (hH L m) = (C 150 [jL x1, jL 0, jL 1] (hH L m)).bind fun z => j_fin C 162 7 [some (jR 109), some (jI x1), some (jI x2)] (z.1.toList ++ []) z.2 := by
  refine (S_iload_n rfl at_162_0).trans ?_
  refine (S_i2l at_162_1).trans ?_
  refine (S_lconst at_162_2).trans ?_
  refine (S_lconst at_162_3).trans ?_
  refine (S_invs (by decide) (Nat.le_of_ble_eq_true rfl) (Nat.le_of_ble_eq_true rfl) at_162_4).trans ?_
  rfl
theorem T162_7 {C : Nat → List j_V → j_H → Option j_Z} {L : Nat} {m : j_M0} {x1 : Int} {x2 : Int} {s0 : Int} : j_fin C 162 7 [some (jR 109), some (jI x1), some (jI x2)] [jI s0] (hH L m) = if s0 = 0 then some (some (jI (-2)), hH L m) else (C 150 [jL x2, jL (-99), jL 999] (hH L m)).bind fun z => j_fin C 162 21 [some (jR 109), some (jI x1), some (jI x2)] (z.1.toList ++ []) z.2 := by
  refine (S_if_eq at_162_7).trans ?_
  refine ite_congr rfl (fun _ => ?_) (fun _ => ?_)
  · refine (S_bipush at_162_24).trans ?_
    exact S_ireti rfl at_162_26
  · refine (S_iload_n rfl at_162_10).trans ?_
    refine (S_i2l at_162_11).trans ?_
    refine (S_ldc2_w at_162_12).trans ?_
    refine (S_ldc2_w at_162_15).trans ?_
    refine (S_invs (by decide) (Nat.le_of_ble_eq_true rfl) (Nat.le_of_ble_eq_true rfl) at_162_18).trans ?_
    rfl
theorem T162_21 {C : Nat → List j_V → j_H → Option j_Z} {L : Nat} {m : j_M0} {x1 : Int} {x2 : Int} {s0 : Int} : j_fin C 162 21 [some (jR 109), some (jI x1), some (jI x2)] [jI s0] (hH L m) = if s0 = 0 then some (some (jI (-2)), hH L m) else if (m 110 1) = 8 then some (some (jI (-4)), hH L m) else (C 161 [jR 109, jI x1, jI x2] (hH L m)).bind fun z => j_fin C 162 47 [some (jR 109), some (jI x1), some (jI x2)] (z.1.toList ++ []) z.2 := by
  refine (S_if_ne at_162_21).trans ?_
  refine ite_congr rfl (fun _ => ?_) (fun _ => ?_)
  · refine (S_bipush at_162_24).trans ?_
    exact S_ireti rfl at_162_26
  · refine (S_aload_n rfl at_162_27).trans ?_
    refine (S_getR (ka_109 L _) rfl (f_109_0 L _) at_162_28).trans ?_
    refine (S_iconst at_162_31).trans ?_
    refine (H_iaload (ka_110 L _) at_162_32).trans ?_
    refine (if_pos (by decide)).trans ?_
    refine (S_bipush at_162_33).trans ?_
    refine (S_icmp_ne at_162_35).trans ?_
    refine ite_congr rfl (fun _ => ?_) (fun _ => ?_)
    · refine (S_bipush at_162_38).trans ?_
      exact S_ireti rfl at_162_40
    · refine (S_aload_n rfl at_162_41).trans ?_
      refine (S_iload_n rfl at_162_42).trans ?_
      refine (S_iload_n rfl at_162_43).trans ?_
      refine (S_invv (b := 2) kn_161 rfl (ka_109 L _) (Nat.le_of_ble_eq_true rfl) at_162_44).trans ?_
      rfl
theorem T162_47 {C : Nat → List j_V → j_H → Option j_Z} {L : Nat} {m : j_M0} {x1 : Int} {x2 : Int} : j_fin C 162 47 [some (jR 109), some (jI x1), some (jI x2)] [] (hH L m) = some (some (jI (w32 ((m 110 1) - 1))), hH L m) := by
  refine (S_aload_n rfl at_162_47).trans ?_
  refine (S_getR (ka_109 L _) rfl (f_109_0 L _) at_162_48).trans ?_
  refine (S_iconst at_162_51).trans ?_
  refine (H_iaload (ka_110 L _) at_162_52).trans ?_
  refine (if_pos (by decide)).trans ?_
  refine (S_iconst at_162_53).trans ?_
  refine (S_isub at_162_54).trans ?_
  exact S_ireti rfl at_162_55
theorem T163_0 {C : Nat → List j_V → j_H → Option j_Z} {L : Nat} {m : j_M0} {x1 : Int} {x2 : Int} {x3 : Int} : j_fin C 163 0 [some (jR 109), some (jI x1), some (jI x2), some (jI x3), none] [] (hH L m) = (C 153 [jR 109, jI x1] (hH L m)).bind fun z => j_fin C 163 5 [some (jR 109), some (jI x1), some (jI x2), some (jI x3), none] (z.1.toList ++ []) z.2 := by
  refine (S_aload_n rfl at_163_0).trans ?_
  refine (S_iload_n rfl at_163_1).trans ?_
  refine (S_invv (b := 1) kn_153 rfl (ka_109 L _) (Nat.le_of_ble_eq_true rfl) at_163_2).trans ?_
  rfl
theorem T163_5 {C : Nat → List j_V → j_H → Option j_Z} {L : Nat} {m : j_M0} {x1 : Int} {x2 : Int} {x3 : Int} {s0 : Int} : j_fin C 163 5 [some (jR 109), some (jI x1), some (jI x2), some (jI x3), none] [jI s0] (hH L m) = if s0 = 0 then some (some (jI (-1)), hH L m) else (C 152 [jR 109, jI x2] (hH L m)).bind fun z => j_fin C 163 13 [some (jR 109), some (jI x1), some (jI x2), some (jI x3), none] (z.1.toList ++ []) z.2 := by
  refine (S_if_eq at_163_5).trans ?_
  refine ite_congr rfl (fun _ => ?_) (fun _ => ?_)
  · refine (S_iconst at_163_16).trans ?_
    exact S_ireti rfl at_163_17
  · refine (S_aload_n rfl at_163_8).trans ?_
    refine (S_iload_n rfl at_163_9).trans ?_
    refine (S_invv (b := 1) kn_152 rfl (ka_109 L _) (Nat.le_of_ble_eq_true rfl) at_163_10).trans ?_
    rfl
theorem T163_13 {C : Nat → List j_V → j_H → Option j_Z} {L : Nat} {m : j_M0} {x1 : Int} {x2 : Int} {x3 : Int} {s0 : Int} : j_fin C 163 13 [some (jR 109), some (jI x1), some (jI x2), some (jI x3), none] [jI s0] (hH L m) = if s0 = 0 then some (some (jI (-1)), hH L m) else (C 150 [jL x3, jL (-9), jL 9] (hH L m)).bind fun z => j_fin C 163 29 [some (jR 109), some (jI x1), some (jI x2), some (jI x3), none] (z.1.toList ++ []) z.2 := by
  refine (S_if_ne at_163_13).trans ?_
  refine ite_congr rfl (fun _ => ?_) (fun _ => ?_)
  · refine (S_iconst at_163_16).trans ?_
    exact S_ireti rfl at_163_17
  · refine (S_iload_n rfl at_163_18).trans ?_
    refine (S_i2l at_163_19).trans ?_
    refine (S_ldc2_w at_163_20).trans ?_
    refine (S_ldc2_w at_163_23).trans ?_
    refine (S_invs (by decide) (Nat.le_of_ble_eq_true rfl) (Nat.le_of_ble_eq_true rfl) at_163_26).trans ?_
    rfl
theorem T163_29 {C : Nat → List j_V → j_H → Option j_Z} {L : Nat} {m : j_M0} {x1 : Int} {x2 : Int} {x3 : Int} {s0 : Int} : j_fin C 163 29 [some (jR 109), some (jI x1), some (jI x2), some (jI x3), none] [jI s0] (hH L m) = if s0 = 0 then some (some (jI (-2)), hH L m) else (C 156 [jR 109, jI x1, jI x2] (hH L m)).bind fun z => j_fin C 163 41 [some (jR 109), some (jI x1), some (jI x2), some (jI x3), none] (z.1.toList ++ []) z.2 := by
  refine (S_if_ne at_163_29).trans ?_
  refine ite_congr rfl (fun _ => ?_) (fun _ => ?_)
  · refine (S_bipush at_163_32).trans ?_
    exact S_ireti rfl at_163_34
  · refine (S_aload_n rfl at_163_35).trans ?_
    refine (S_iload_n rfl at_163_36).trans ?_
    refine (S_iload_n rfl at_163_37).trans ?_
    refine (S_invv (b := 2) kn_156 rfl (ka_109 L _) (Nat.le_of_ble_eq_true rfl) at_163_38).trans ?_
    rfl
theorem T163_41 {C : Nat → List j_V → j_H → Option j_Z} {L : Nat} {m : j_M0} {x1 : Int} {x2 : Int} {x3 : Int} {s0 : Int} : j_fin C 163 41 [some (jR 109), some (jI x1), some (jI x2), some (jI x3), none] [jI s0] (hH L m) = if 0 ≤ (w32 ((w32 ((w32 (12 + (w32 (7 * x1)))) + 2)) + x2)) ∧ (w32 ((w32 ((w32 (12 + (w32 (7 * x1)))) + 2)) + x2)) < 150 then some (some (jI (w32 (100 + s0))), hH L (j_up (j_up m 110 (w32 ((w32 ((w32 (12 + (w32 (7 * x1)))) + 2)) + x2)).toNat x3) 115 18 0)) else none := by
  refine (S_istore (l1 := [some (jR 109), some (jI x1), some (jI x2), some (jI x3), some (jI s0)]) rfl at_163_41).trans ?_
  refine (S_aload_n rfl at_163_43).trans ?_
  refine (S_getR (ka_109 L _) rfl (f_109_0 L _) at_163_44).trans ?_
  refine (S_bipush at_163_47).trans ?_
  refine (S_bipush at_163_49).trans ?_
  refine (S_iload_n rfl at_163_51).trans ?_
  refine (S_imul at_163_52).trans ?_
  refine (S_iadd at_163_53).trans ?_
  refine (S_iconst at_163_54).trans ?_
  refine (S_iadd at_163_55).trans ?_
  refine (S_iload_n rfl at_163_56).trans ?_
  refine (S_iadd at_163_57).trans ?_
  refine (S_iload_n rfl at_163_58).trans ?_
  refine (H_iastore (by omega) (ka_110 L _) at_163_59).trans ?_
  refine ite_congr rfl (fun hi => ?_) (fun _ => rfl)
  refine (S_aload_n rfl at_163_60).trans ?_
  refine (S_getR (ka_109 L _) rfl (f_109_9 L _) at_163_61).trans ?_
  refine (S_iconst at_163_64).trans ?_
  refine (H_put2 (ka_115 L _) rfl at_163_65).trans ?_
  refine (if_pos (by decide)).trans ?_
  refine (S_bipush at_163_68).trans ?_
  refine (S_iload rfl at_163_70).trans ?_
  refine (S_iadd at_163_72).trans ?_
  exact S_ireti rfl at_163_73
theorem T164_0 {C : Nat → List j_V → j_H → Option j_Z} {L : Nat} {m : j_M0} {x1 : Int} {x2 : Int} : j_fin C 164 0 [some (jR 109), some (jI x1), some (jI x2), none] [] (hH L m) = (C 153 [jR 109, jI x1] (hH L m)).bind fun z => j_fin C 164 5 [some (jR 109), some (jI x1), some (jI x2), none] (z.1.toList ++ []) z.2 := by
  refine (S_aload_n rfl at_164_0).trans ?_
  refine (S_iload_n rfl at_164_1).trans ?_
  refine (S_invv (b := 1) kn_153 rfl (ka_109 L _) (Nat.le_of_ble_eq_true rfl) at_164_2).trans ?_
  rfl
theorem T164_5 {C : Nat → List j_V → j_H → Option j_Z} {L : Nat} {m : j_M0} {x1 : Int} {x2 : Int} {s0 : Int} : j_fin C 164 5 [some (jR 109), some (jI x1), some (jI x2), none] [jI s0] (hH L m) = if s0 = 0 then some (some (jI (-1)), hH L m) else (C 150 [jL x2, jL (-99), jL 999] (hH L m)).bind fun z => j_fin C 164 21 [some (jR 109), some (jI x1), some (jI x2), none] (z.1.toList ++ []) z.2 := by
  refine (S_if_ne at_164_5).trans ?_
  refine ite_congr rfl (fun _ => ?_) (fun _ => ?_)
  · refine (S_iconst at_164_8).trans ?_
    exact S_ireti rfl at_164_9
  · refine (S_iload_n rfl at_164_10).trans ?_
    refine (S_i2l at_164_11).trans ?_
    refine (S_ldc2_w at_164_12).trans ?_
    refine (S_ldc2_w at_164_15).trans ?_
    refine (S_invs (by decide) (Nat.le_of_ble_eq_true rfl) (Nat.le_of_ble_eq_true rfl) at_164_18).trans ?_
    rfl
theorem T164_21 {C : Nat → List j_V → j_H → Option j_Z} {L : Nat} {m : j_M0} {x1 : Int} {x2 : Int} {s0 : Int} : j_fin C 164 21 [some (jR 109), some (jI x1), some (jI x2), none] [jI s0] (hH L m) = if s0 = 0 then some (some (jI (-2)), hH L m) else (C 155 [jR 109, jI x1] (hH L m)).bind fun z => j_fin C 164 32 [some (jR 109), some (jI x1), some (jI x2), none] (z.1.toList ++ []) z.2 := by
  refine (S_if_ne at_164_21).trans ?_
  refine ite_congr rfl (fun _ => ?_) (fun _ => ?_)
  · refine (S_bipush at_164_24).trans ?_
    exact S_ireti rfl at_164_26
  · refine (S_aload_n rfl at_164_27).trans ?_
    refine (S_iload_n rfl at_164_28).trans ?_
    refine (S_invv (b := 1) kn_155 rfl (ka_109 L _) (Nat.le_of_ble_eq_true rfl) at_164_29).trans ?_
    rfl
theorem T164_32 {C : Nat → List j_V → j_H → Option j_Z} {L : Nat} {m : j_M0} {x1 : Int} {x2 : Int} {s0 : Int} : j_fin C 164 32 [some (jR 109), some (jI x1), some (jI x2), none] [jI s0] (hH L m) = if 0 ≤ (w32 ((w32 (12 + (w32 (7 * x1)))) + 1)) ∧ (w32 ((w32 (12 + (w32 (7 * x1)))) + 1)) < 150 then some (some (jI (w32 (1000 + s0))), hH L (j_up (j_up m 110 (w32 ((w32 (12 + (w32 (7 * x1)))) + 1)).toNat x2) 115 18 0)) else none := by
  refine (S_istore_n (l1 := [some (jR 109), some (jI x1), some (jI x2), some (jI s0)]) rfl at_164_32).trans ?_
  refine (S_aload_n rfl at_164_33).trans ?_
  refine (S_getR (ka_109 L _) rfl (f_109_0 L _) at_164_34).trans ?_
  refine (S_bipush at_164_37).trans ?_
  refine (S_bipush at_164_39).trans ?_
  refine (S_iload_n rfl at_164_41).trans ?_
  refine (S_imul at_164_42).trans ?_
  refine (S_iadd at_164_43).trans ?_
  refine (S_iconst at_164_44).trans ?_
  refine (S_iadd at_164_45).trans ?_
  refine (S_iload_n rfl at_164_46).trans ?_
  refine (H_iastore (by omega) (ka_110 L _) at_164_47).trans ?_
  refine ite_congr rfl (fun hi => ?_) (fun _ => rfl)
  refine (S_aload_n rfl at_164_48).trans ?_
  refine (S_getR (ka_109 L _) rfl (f_109_9 L _) at_164_49).trans ?_
  refine (S_iconst at_164_52).trans ?_
  refine (H_put2 (ka_115 L _) rfl at_164_53).trans ?_
  refine (if_pos (by decide)).trans ?_
  refine (S_sipush at_164_56).trans ?_
  refine (S_iload_n rfl at_164_59).trans ?_
  refine (S_iadd at_164_60).trans ?_
  exact S_ireti rfl at_164_61
theorem T165_0 {C : Nat → List j_V → j_H → Option j_Z} {L : Nat} {m : j_M0} : j_fin C 165 0 [some (jR 109)] [] (hH L m) = if (m 110 1) = 0 then some (some (jI (-3)), hH L m) else if 0 ≤ (w32 (68 + ((j_up m 110 1 (w32 ((m 110 1) - 1))) 110 1))) ∧ (w32 (68 + ((j_up m 110 1 (w32 ((m 110 1) - 1))) 110 1))) < 150 then some (some (jI ((j_up (j_up (j_up m 110 1 (w32 ((m 110 1) - 1))) 110 (w32 (68 + ((j_up m 110 1 (w32 ((m 110 1) - 1))) 110 1))).toNat 0) 115 18 0) 110 1)), hH L (j_up (j_up (j_up m 110 1 (w32 ((m 110 1) - 1))) 110 (w32 (68 + ((j_up m 110 1 (w32 ((m 110 1) - 1))) 110 1))).toNat 0) 115 18 0)) else none := by
  refine (S_aload_n rfl at_165_0).trans ?_
  refine (S_getR (ka_109 L _) rfl (f_109_0 L _) at_165_1).trans ?_
  refine (S_iconst at_165_4).trans ?_
  refine (H_iaload (ka_110 L _) at_165_5).trans ?_
  refine (if_pos (by decide)).trans ?_
  refine (S_if_ne at_165_6).trans ?_
  refine ite_congr rfl (fun _ => ?_) (fun _ => ?_)
  · refine (S_bipush at_165_9).trans ?_
    exact S_ireti rfl at_165_11
  · refine (S_aload_n rfl at_165_12).trans ?_
    refine (S_getR (ka_109 L _) rfl (f_109_0 L _) at_165_13).trans ?_
    refine (S_iconst at_165_16).trans ?_
    refine (S_dup2RI at_165_17).trans ?_
    refine (H_iaload (ka_110 L _) at_165_18).trans ?_
    refine (if_pos (by decide)).trans ?_
    refine (S_iconst at_165_19).trans ?_
    refine (S_isub at_165_20).trans ?_
    refine (H_iastore (by omega) (ka_110 L _) at_165_21).trans ?_
    refine (if_pos (by decide)).trans ?_
    refine (S_aload_n rfl at_165_22).trans ?_
    refine (S_getR (ka_109 L _) rfl (f_109_0 L _) at_165_23).trans ?_
    refine (S_bipush at_165_26).trans ?_
    refine (S_aload_n rfl at_165_28).trans ?_
    refine (S_getR (ka_109 L _) rfl (f_109_0 L _) at_165_29).trans ?_
    refine (S_iconst at_165_32).trans ?_
    refine (H_iaload (ka_110 L _) at_165_33).trans ?_
    refine (if_pos (by decide)).trans ?_
    refine (S_iadd at_165_34).trans ?_
    refine (S_iconst at_165_35).trans ?_
    refine (H_iastore (by omega) (ka_110 L _) at_165_36).trans ?_
    refine ite_congr rfl (fun hi => ?_) (fun _ => rfl)
    refine (S_aload_n rfl at_165_37).trans ?_
    refine (S_getR (ka_109 L _) rfl (f_109_9 L _) at_165_38).trans ?_
    refine (S_iconst at_165_41).trans ?_
    refine (H_put2 (ka_115 L _) rfl at_165_42).trans ?_
    refine (if_pos (by decide)).trans ?_
    refine (S_aload_n rfl at_165_45).trans ?_
    refine (S_getR (ka_109 L _) rfl (f_109_0 L _) at_165_46).trans ?_
    refine (S_iconst at_165_49).trans ?_
    refine (H_iaload (ka_110 L _) at_165_50).trans ?_
    refine (if_pos (by decide)).trans ?_
    exact S_ireti rfl at_165_51
theorem T166_0 {C : Nat → List j_V → j_H → Option j_Z} {L : Nat} {m : j_M0} {x1 : Int} {x2 : Int} : j_fin C 166 0 [some (jR 109), some (jI x1), some (jI x2)] [] (hH L m) = (C 153 [jR 109, jI x1] (hH L m)).bind fun z => j_fin C 166 5 [some (jR 109), some (jI x1), some (jI x2)] (z.1.toList ++ []) z.2 := by
  refine (S_aload_n rfl at_166_0).trans ?_
  refine (S_iload_n rfl at_166_1).trans ?_
  refine (S_invv (b := 1) kn_153 rfl (ka_109 L _) (Nat.le_of_ble_eq_true rfl) at_166_2).trans ?_
  rfl
theorem T166_5 {C : Nat → List j_V → j_H → Option j_Z} {L : Nat} {m : j_M0} {x1 : Int} {x2 : Int} {s0 : Int} : j_fin C 166 5 [some (jR 109), some (jI x1), some (jI x2)] [jI s0] (hH L m) = if s0 = 0 then some (some (jI (-1)), hH L m) else (C 151 [jR 109] (hH L m)).bind fun z => j_fin C 166 16 [some (jR 109), some (jI x1), some (jI x2)] (z.1.toList ++ [jI 1, jL 0, jL x2]) z.2 := by
  refine (S_if_eq at_166_5).trans ?_
  refine ite_congr rfl (fun _ => ?_) (fun _ => ?_)
  · refine (S_iconst at_166_45).trans ?_
    exact S_ireti rfl at_166_46
  · refine (S_iload_n rfl at_166_8).trans ?_
    refine (S_i2l at_166_9).trans ?_
    refine (S_lconst at_166_10).trans ?_
    refine (S_iconst at_166_11).trans ?_
    refine (S_aload_n rfl at_166_12).trans ?_
    refine (S_invv (b := 0) kn_151 rfl (ka_109 L _) (Nat.le_of_ble_eq_true rfl) at_166_13).trans ?_
    rfl
theorem T166_16 {C : Nat → List j_V → j_H → Option j_Z} {L : Nat} {m : j_M0} {x1 : Int} {x2 : Int} {t0 : Int} {t1 : Int} {s2 : Int} {s3 : Int} : j_fin C 166 16 [some (jR 109), some (jI x1), some (jI x2)] [jI s3, jI s2, jL t1, jL t0] (hH L m) = (C 150 [jL t0, jL t1, jL (w32 (s2 + s3))] (hH L m)).bind fun z => j_fin C 166 21 [some (jR 109), some (jI x1), some (jI x2)] (z.1.toList ++ []) z.2 := by
  refine (S_iadd at_166_16).trans ?_
  refine (S_i2l at_166_17).trans ?_
  refine (S_invs (by decide) (Nat.le_of_ble_eq_true rfl) (Nat.le_of_ble_eq_true rfl) at_166_18).trans ?_
  rfl
theorem T166_21 {C : Nat → List j_V → j_H → Option j_Z} {L : Nat} {m : j_M0} {x1 : Int} {x2 : Int} {s0 : Int} : j_fin C 166 21 [some (jR 109), some (jI x1), some (jI x2)] [jI s0] (hH L m) = if s0 = 0 then some (some (jI (-1)), hH L m) else if 0 ≤ (w32 ((w32 (12 + (w32 (7 * x1)))) + x2)) ∧ (w32 ((w32 (12 + (w32 (7 * x1)))) + x2)) < 150 then some (some (jI (w32 (1000 + (m 110 (w32 ((w32 (12 + (w32 (7 * x1)))) + x2)).toNat)))), hH L m) else none := by
  refine (S_if_eq at_166_21).trans ?_
  refine ite_congr rfl (fun _ => ?_) (fun _ => ?_)
  · refine (S_iconst at_166_45).trans ?_
    exact S_ireti rfl at_166_46
  · refine (S_sipush at_166_24).trans ?_
    refine (S_aload_n rfl at_166_27).trans ?_
    refine (S_getR (ka_109 L _) rfl (f_109_0 L _) at_166_28).trans ?_
    refine (S_bipush at_166_31).trans ?_
    refine (S_bipush at_166_33).trans ?_
    refine (S_iload_n rfl at_166_35).trans ?_
    refine (S_imul at_166_36).trans ?_
    refine (S_iadd at_166_37).trans ?_
    refine (S_iload_n rfl at_166_38).trans ?_
    refine (S_iadd at_166_39).trans ?_
    refine (H_iaload (ka_110 L _) at_166_40).trans ?_
    refine ite_congr rfl (fun hi => ?_) (fun _ => rfl)
    refine (S_iadd at_166_41).trans ?_
    refine (S_goto at_166_42).trans ?_
    exact S_ireti rfl at_166_46
theorem T167_0 {C : Nat → List j_V → j_H → Option j_Z} {L : Nat} {m : j_M0} {x1 : Int} : j_fin C 167 0 [some (jR 109), some (jI x1)] [] (hH L m) = (C 150 [jL x1, jL 0, jL 127] (hH L m)).bind fun z => j_fin C 167 9 [some (jR 109), some (jI x1)] (z.1.toList ++ []) z.2 := by
  refine (S_iload_n rfl at_167_0).trans ?_
  refine (S_i2l at_167_1).trans ?_
  refine (S_lconst at_167_2).trans ?_
  refine (S_ldc2_w at_167_3).trans ?_
  refine (S_invs (by decide) (Nat.le_of_ble_eq_true rfl) (Nat.le_of_ble_eq_true rfl) at_167_6).trans ?_
  rfl
theorem T167_9 {C : Nat → List j_V → j_H → Option j_Z} {L : Nat} {m : j_M0} {x1 : Int} {s0 : Int} : j_fin C 167 9 [some (jR 109), some (jI x1)] [jI s0] (hH L m) = if s0 = 0 then some (some (jI (-2)), hH L m) else if (m 109 6) = 80 then some (some (jI (-4)), hH L m) else if 0 ≤ (m 109 6) ∧ (m 109 6) < 80 then some (some (jI ((j_up (j_up m 113 (m 109 6).toNat x1) 109 6 (w32 (((j_up m 113 (m 109 6).toNat x1) 109 6) + 1))) 109 6)), hH L (j_up (j_up m 113 (m 109 6).toNat x1) 109 6 (w32 (((j_up m 113 (m 109 6).toNat x1) 109 6) + 1)))) else none := by
  refine (S_if_ne at_167_9).trans ?_
  refine ite_congr rfl (fun _ => ?_) (fun _ => ?_)
  · refine (S_bipush at_167_12).trans ?_
    exact S_ireti rfl at_167_14
  · refine (S_aload_n rfl at_167_15).trans ?_
    refine (H_get0 (ka_109 L _) rfl at_167_16).trans ?_
    refine (S_bipush at_167_19).trans ?_
    refine (S_icmp_ne at_167_21).trans ?_
    refine ite_congr rfl (fun _ => ?_) (fun _ => ?_)
    · refine (S_bipush at_167_24).trans ?_
      exact S_ireti rfl at_167_26
    · refine (S_aload_n rfl at_167_27).trans ?_
      refine (S_getR (ka_109 L _) rfl (f_109_4 L _) at_167_28).trans ?_
      refine (S_aload_n rfl at_167_31).trans ?_
      refine (H_get0 (ka_109 L _) rfl at_167_32).trans ?_
      refine (S_iload_n rfl at_167_35).trans ?_
      refine (H_iastore (by omega) (ka_113 L _) at_167_36).trans ?_
      refine ite_congr rfl (fun hi => ?_) (fun _ => rfl)
      refine (S_aload_n rfl at_167_37).trans ?_
      refine (S_dup rfl at_167_38).trans ?_
      refine (H_get0 (ka_109 L _) rfl at_167_39).trans ?_
      refine (S_iconst at_167_42).trans ?_
      refine (S_iadd at_167_43).trans ?_
      refine (H_put0 (ka_109 L _) rfl at_167_44).trans ?_
      refine (S_aload_n rfl at_167_47).trans ?_
      refine (H_get0 (ka_109 L _) rfl at_167_48).trans ?_
      exact S_ireti rfl at_167_51
theorem T168_0 {C : Nat → List j_V → j_H → Option j_Z} {L : Nat} {m : j_M0} : j_fin C 168 0 [some (jR 109)] [] (hH L m) = if (m 109 7) < (m 109 6) then if 0 ≤ (m 109 7) ∧ (m 109 7) < 80 then some (some (jI (m 113 (m 109 7).toNat)), hH L m) else none else some (some (jI (-1)), hH L m) := by
  refine (S_aload_n rfl at_168_0).trans ?_
  refine (H_get0 (ka_109 L _) rfl at_168_1).trans ?_
  refine (S_aload_n rfl at_168_4).trans ?_
  refine (H_get0 (ka_109 L _) rfl at_168_5).trans ?_
  refine (S_icmp_ge at_168_8).trans ?_
  refine ite_congr rfl (fun _ => ?_) (fun _ => ?_)
  · refine (S_aload_n rfl at_168_11).trans ?_
    refine (S_getR (ka_109 L _) rfl (f_109_4 L _) at_168_12).trans ?_
    refine (S_aload_n rfl at_168_15).trans ?_
    refine (H_get0 (ka_109 L _) rfl at_168_16).trans ?_
    refine (H_iaload (ka_113 L _) at_168_19).trans ?_
    refine ite_congr rfl (fun hi => ?_) (fun _ => rfl)
    refine (S_goto at_168_20).trans ?_
    exact S_ireti rfl at_168_24
  · refine (S_iconst at_168_23).trans ?_
    exact S_ireti rfl at_168_24
theorem T169_0 {C : Nat → List j_V → j_H → Option j_Z} {L : Nat} {m : j_M0} {x1 : Int} : j_fin C 169 0 [some (jR 109), some (jI x1)] [] (hH L m) = (C 168 [jR 109] (hH L m)).bind fun z => j_fin C 169 4 [some (jR 109), some (jI x1)] (z.1.toList ++ []) z.2 := by
  refine (S_aload_n rfl at_169_0).trans ?_
  refine (S_invv (b := 0) kn_168 rfl (ka_109 L _) (Nat.le_of_ble_eq_true rfl) at_169_1).trans ?_
  rfl
theorem T169_4 {C : Nat → List j_V → j_H → Option j_Z} {L : Nat} {m : j_M0} {x1 : Int} {s0 : Int} : j_fin C 169 4 [some (jR 109), some (jI x1)] [jI s0] (hH L m) = if s0 = x1 then some (some (jI 1), hH L (j_up m 109 7 (w32 ((m 109 7) + 1)))) else some (some (jI 0), hH L m) := by
  refine (S_iload_n rfl at_169_4).trans ?_
  refine (S_icmp_eq at_169_5).trans ?_
  refine ite_congr rfl (fun _ => ?_) (fun _ => ?_)
  · refine (S_aload_n rfl at_169_10).trans ?_
    refine (S_dup rfl at_169_11).trans ?_
    refine (H_get0 (ka_109 L _) rfl at_169_12).trans ?_
    refine (S_iconst at_169_15).trans ?_
    refine (S_iadd at_169_16).trans ?_
    refine (H_put0 (ka_109 L _) rfl at_169_17).trans ?_
    refine (S_iconst at_169_20).trans ?_
    exact (S_iretz rfl at_169_21).trans (if_pos (by decide))
  · refine (S_iconst at_169_8).trans ?_
    exact (S_iretz rfl at_169_9).trans (if_pos (by decide))
theorem T170_0 {C : Nat → List j_V → j_H → Option j_Z} {L : Nat} {m : j_M0} : j_fin C 170 0 [some (jR 109)] [] (hH L m) = (C 168 [jR 109] (hH L m)).bind fun z => j_fin C 170 4 [some (jR 109)] (z.1.toList ++ []) z.2 := by
  refine (S_aload_n rfl at_170_0).trans ?_
  refine (S_invv (b := 0) kn_168 rfl (ka_109 L _) (Nat.le_of_ble_eq_true rfl) at_170_1).trans ?_
  rfl
theorem T170_4 {C : Nat → List j_V → j_H → Option j_Z} {L : Nat} {m : j_M0} {s0 : Int} : j_fin C 170 4 [some (jR 109)] [jI s0] (hH L m) = (C 150 [jL s0, jL 48, jL 57] (hH L m)).bind fun z => j_fin C 170 14 [some (jR 109)] (z.1.toList ++ []) z.2 := by
  refine (S_i2l at_170_4).trans ?_
  refine (S_ldc2_w at_170_5).trans ?_
  refine (S_ldc2_w at_170_8).trans ?_
  refine (S_invs (by decide) (Nat.le_of_ble_eq_true rfl) (Nat.le_of_ble_eq_true rfl) at_170_11).trans ?_
  rfl
theorem T170_14 {C : Nat → List j_V → j_H → Option j_Z} {L : Nat} {m : j_M0} {s0 : Int} : j_fin C 170 14 [some (jR 109)] [jI s0] (hH L m) = if s0 = 0 ∨ s0 = 1 then some (some (jI s0), hH L m) else none := by
  exact S_iretz rfl at_170_14
theorem T171_0 {C : Nat → List j_V → j_H → Option j_Z} {L : Nat} {m : j_M0} {x1 : Int} {x2 : Int} : j_fin C 171 0 [some (jR 109), some (jI x1), some (jI x2), none, none] [] (hH L m) = (C 170 [jR 109] (hH L m)).bind fun z => j_fin C 171 6 [some (jR 109), some (jI x1), some (jI x2), some (jI 1), none] (z.1.toList ++ []) z.2 := by
  refine (S_iconst at_171_0).trans ?_
  refine (S_istore_n (l1 := [some (jR 109), some (jI x1), some (jI x2), some (jI 1), none]) rfl at_171_1).trans ?_
  refine (S_aload_n rfl at_171_2).trans ?_
  refine (S_invv (b := 0) kn_170 rfl (ka_109 L _) (Nat.le_of_ble_eq_true rfl) at_171_3).trans ?_
  rfl
theorem T171_6 {C : Nat → List j_V → j_H → Option j_Z} {L : Nat} {m : j_M0} {x1 : Int} {x2 : Int} {x3 : Int} {s0 : Int} : j_fin C 171 6 [some (jR 109), some (jI x1), some (jI x2), some (jI x3), none] [jI s0] (hH L m) = if s0 = 0 then (C 168 [jR 109] (hH L m)).bind fun z => j_fin C 171 31 [some (jR 109), some (jI x1), some (jI x2), some (jI x3), none] (z.1.toList ++ []) z.2 else (C 168 [jR 109] (hH L m)).bind fun z => j_fin C 171 13 [some (jR 109), some (jI x1), some (jI x2), some (jI x3), none] (z.1.toList ++ []) z.2 := by
  refine (S_if_eq at_171_6).trans ?_
  refine ite_congr rfl (fun _ => ?_) (fun _ => ?_)
  · refine (S_aload_n rfl at_171_27).trans ?_
    refine (S_invv (b := 0) kn_168 rfl (ka_109 L _) (Nat.le_of_ble_eq_true rfl) at_171_28).trans ?_
    rfl
  · refine (S_aload_n rfl at_171_9).trans ?_
    refine (S_invv (b := 0) kn_168 rfl (ka_109 L _) (Nat.le_of_ble_eq_true rfl) at_171_10).trans ?_
    rfl
theorem T171_13 {C : Nat → List j_V → j_H → Option j_Z} {L : Nat} {m : j_M0} {x1 : Int} {x2 : Int} {x3 : Int} {s0 : Int} : j_fin C 171 13 [some (jR 109), some (jI x1), some (jI x2), some (jI x3), none] [jI s0] (hH L m) = (C 168 [jR 109] (hH L (j_up m 109 7 (w32 ((m 109 7) + 1))))).bind fun z => j_fin C 171 31 [some (jR 109), some (jI x1), some (jI x2), some (jI (w32 (s0 - 48))), none] (z.1.toList ++ []) z.2 := by
  refine (S_bipush at_171_13).trans ?_
  refine (S_isub at_171_15).trans ?_
  refine (S_istore_n (l1 := [some (jR 109), some (jI x1), some (jI x2), some (jI (w32 (s0 - 48))), none]) rfl at_171_16).trans ?_
  refine (S_aload_n rfl at_171_17).trans ?_
  refine (S_dup rfl at_171_18).trans ?_
  refine (H_get0 (ka_109 L _) rfl at_171_19).trans ?_
  refine (S_iconst at_171_22).trans ?_
  refine (S_iadd at_171_23).trans ?_
  refine (H_put0 (ka_109 L _) rfl at_171_24).trans ?_
  refine (S_aload_n rfl at_171_27).trans ?_
  refine (S_invv (b := 0) kn_168 rfl (ka_109 L _) (Nat.le_of_ble_eq_true rfl) at_171_28).trans ?_
  rfl
theorem T171_31 {C : Nat → List j_V → j_H → Option j_Z} {L : Nat} {m : j_M0} {x1 : Int} {x2 : Int} {x3 : Int} {s0 : Int} : j_fin C 171 31 [some (jR 109), some (jI x1), some (jI x2), some (jI x3), none] [jI s0] (hH L m) = (C 151 [jR 109] (hH L m)).bind fun z => j_fin C 171 41 [some (jR 109), some (jI x1), some (jI x2), some (jI x3), none] (z.1.toList ++ [jI 97, jL 97, jL s0]) z.2 := by
  refine (S_i2l at_171_31).trans ?_
  refine (S_ldc2_w at_171_32).trans ?_
  refine (S_bipush at_171_35).trans ?_
  refine (S_aload_n rfl at_171_37).trans ?_
  refine (S_invv (b := 0) kn_151 rfl (ka_109 L _) (Nat.le_of_ble_eq_true rfl) at_171_38).trans ?_
  rfl
theorem T171_41 {C : Nat → List j_V → j_H → Option j_Z} {L : Nat} {m : j_M0} {x1 : Int} {x2 : Int} {x3 : Int} {t0 : Int} {t1 : Int} {s2 : Int} {s3 : Int} : j_fin C 171 41 [some (jR 109), some (jI x1), some (jI x2), some (jI x3), none] [jI s3, jI s2, jL t1, jL t0] (hH L m) = (C 150 [jL t0, jL t1, jL (w32 ((w32 (s2 + s3)) - 1))] (hH L m)).bind fun z => j_fin C 171 48 [some (jR 109), some (jI x1), some (jI x2), some (jI x3), none] (z.1.toList ++ []) z.2 := by
  refine (S_iadd at_171_41).trans ?_
  refine (S_iconst at_171_42).trans ?_
  refine (S_isub at_171_43).trans ?_
  refine (S_i2l at_171_44).trans ?_
  refine (S_invs (by decide) (Nat.le_of_ble_eq_true rfl) (Nat.le_of_ble_eq_true rfl) at_171_45).trans ?_
  rfl
theorem T171_48 {C : Nat → List j_V → j_H → Option j_Z} {L : Nat} {m : j_M0} {x1 : Int} {x2 : Int} {x3 : Int} {s0 : Int} : j_fin C 171 48 [some (jR 109), some (jI x1), some (jI x2), some (jI x3), none] [jI s0] (hH L m) = if s0 = 0 then some (some (jI 0), hH L m) else (C 168 [jR 109] (hH L m)).bind fun z => j_fin C 171 60 [some (jR 109), some (jI x1), some (jI x2), some (jI x3), none] (z.1.toList ++ [jI (w32 (x1 + 2))]) z.2 := by
  refine (S_if_ne at_171_48).trans ?_
  refine ite_congr rfl (fun _ => ?_) (fun _ => ?_)
  · refine (S_iconst at_171_51).trans ?_
    exact (S_iretz rfl at_171_52).trans (if_pos (by decide))
  · refine (S_iload_n rfl at_171_53).trans ?_
    refine (S_iconst at_171_54).trans ?_
    refine (S_iadd at_171_55).trans ?_
    refine (S_aload_n rfl at_171_56).trans ?_
    refine (S_invv (b := 0) kn_168 rfl (ka_109 L _) (Nat.le_of_ble_eq_true rfl) at_171_57).trans ?_
    rfl
theorem T171_60 {C : Nat → List j_V → j_H → Option j_Z} {L : Nat} {m : j_M0} {x1 : Int} {x2 : Int} {x3 : Int} {s0 : Int} {s1 : Int} : j_fin C 171 60 [some (jR 109), some (jI x1), some (jI x2), some (jI x3), none] [jI s1, jI s0] (hH L m) = if 0 ≤ (w32 ((w32 (s0 + s1)) - 97)) ∧ (w32 ((w32 (s0 + s1)) - 97)) < 28 then if 0 ≤ (w32 ((w32 (s0 + s1)) - 97)) ∧ (w32 ((w32 (s0 + s1)) - 97)) < 28 then if 0 ≤ (w32 ((w32 (s0 + s1)) - 97)) ∧ (w32 ((w32 (s0 + s1)) - 97)) < 28 then (C 150 [jL ((j_up m 114 (w32 ((w32 (s0 + s1)) - 97)).toNat (w32 ((m 114 (w32 ((w32 (s0 + s1)) - 97)).toNat) + (w32 (x2 * x3))))) 114 (w32 ((w32 (s0 + s1)) - 97)).toNat), jL (-9), jL 9] (hH L (j_up m 114 (w32 ((w32 (s0 + s1)) - 97)).toNat (w32 ((m 114 (w32 ((w32 (s0 + s1)) - 97)).toNat) + (w32 (x2 * x3))))))).bind fun z => j_fin C 171 96 [some (jR 109), some (jI x1), some (jI x2), some (jI x3), some (jI (w32 ((w32 (s0 + s1)) - 97)))] (z.1.toList ++ []) z.2 else none else none else none := by
  refine (S_iadd at_171_60).trans ?_
  refine (S_bipush at_171_61).trans ?_
  refine (S_isub at_171_63).trans ?_
  refine (S_istore (l1 := [some (jR 109), some (jI x1), some (jI x2), some (jI x3), some (jI (w32 ((w32 (s0 + s1)) - 97)))]) rfl at_171_64).trans ?_
  refine (S_aload_n rfl at_171_66).trans ?_
  refine (S_getR (ka_109 L _) rfl (f_109_5 L _) at_171_67).trans ?_
  refine (S_iload rfl at_171_70).trans ?_
  refine (S_dup2RI at_171_72).trans ?_
  refine (H_iaload (ka_114 L _) at_171_73).trans ?_
  refine ite_congr rfl (fun hi => ?_) (fun _ => rfl)
  refine (S_iload_n rfl at_171_74).trans ?_
  refine (S_iload_n rfl at_171_75).trans ?_
  refine (S_imul at_171_76).trans ?_
  refine (S_iadd at_171_77).trans ?_
  refine (H_iastore (by omega) (ka_114 L _) at_171_78).trans ?_
  refine ite_congr rfl (fun hi => ?_) (fun _ => rfl)
  refine (S_aload_n rfl at_171_79).trans ?_
  refine (S_getR (ka_109 L _) rfl (f_109_5 L _) at_171_80).trans ?_
  refine (S_iload rfl at_171_83).trans ?_
  refine (H_iaload (ka_114 L _) at_171_85).trans ?_
  refine ite_congr rfl (fun hi => ?_) (fun _ => rfl)
  refine (S_i2l at_171_86).trans ?_
  refine (S_ldc2_w at_171_87).trans ?_
  refine (S_ldc2_w at_171_90).trans ?_
  refine (S_invs (by decide) (Nat.le_of_ble_eq_true rfl) (Nat.le_of_ble_eq_true rfl) at_171_93).trans ?_
  rfl
theorem T171_96 {C : Nat → List j_V → j_H → Option j_Z} {L : Nat} {m : j_M0} {x1 : Int} {x2 : Int} {x3 : Int} {x4 : Int} {s0 : Int} : j_fin C 171 96 [some (jR 109), some (jI x1), some (jI x2), some (jI x3), some (jI x4)] [jI s0] (hH L m) = if s0 = 0 then some (some (jI 0), hH L m) else some (some (jI 1), hH L (j_up m 109 7 (w32 ((m 109 7) + 1)))) := by
  refine (S_if_ne at_171_96).trans ?_
  refine ite_congr rfl (fun _ => ?_) (fun _ => ?_)
  · refine (S_iconst at_171_99).trans ?_
    exact (S_iretz rfl at_171_100).trans (if_pos (by decide))
  · refine (S_aload_n rfl at_171_101).trans ?_
    refine (S_dup rfl at_171_102).trans ?_
    refine (H_get0 (ka_109 L _) rfl at_171_103).trans ?_
    refine (S_iconst at_171_106).trans ?_
    refine (S_iadd at_171_107).trans ?_
    refine (H_put0 (ka_109 L _) rfl at_171_108).trans ?_
    refine (S_iconst at_171_111).trans ?_
    exact (S_iretz rfl at_171_112).trans (if_pos (by decide))
theorem T172_0 {C : Nat → List j_V → j_H → Option j_Z} {L : Nat} {m : j_M0} {x1 : Int} : j_fin C 172 0 [some (jR 109), some (jI x1), none] [] (hH L m) = (C 169 [jR 109, jI 45] (hH L m)).bind fun z => j_fin C 172 8 [some (jR 109), some (jI x1), none] (z.1.toList ++ [jI x1, jR 109]) z.2 := by
  refine (S_aload_n rfl at_172_0).trans ?_
  refine (S_iload_n rfl at_172_1).trans ?_
  refine (S_aload_n rfl at_172_2).trans ?_
  refine (S_bipush at_172_3).trans ?_
  refine (S_invv (b := 1) kn_169 rfl (ka_109 L _) (Nat.le_of_ble_eq_true rfl) at_172_5).trans ?_
  rfl
theorem T172_8 {C : Nat → List j_V → j_H → Option j_Z} {L : Nat} {m : j_M0} {x1 : Int} {s1 : Int} {s2 : Int} : j_fin C 172 8 [some (jR 109), some (jI x1), none] [jI s2, jI s1, jR 109] (hH L m) = if s2 = 0 then (C 171 [jR 109, jI s1, jI 1] (hH L m)).bind fun z => j_fin C 172 19 [some (jR 109), some (jI x1), none] (z.1.toList ++ []) z.2 else (C 171 [jR 109, jI s1, jI (-1)] (hH L m)).bind fun z => j_fin C 172 19 [some (jR 109), some (jI x1), none] (z.1.toList ++ []) z.2 := by
  refine (S_if_eq at_172_8).trans ?_
  refine ite_congr rfl (fun _ => ?_) (fun _ => ?_)
  · refine (S_iconst at_172_15).trans ?_
    refine (S_invv (b := 2) kn_171 rfl (ka_109 L _) (Nat.le_of_ble_eq_true rfl) at_172_16).trans ?_
    rfl
  · refine (S_iconst at_172_11).trans ?_
    refine (S_goto at_172_12).trans ?_
    refine (S_invv (b := 2) kn_171 rfl (ka_109 L _) (Nat.le_of_ble_eq_true rfl) at_172_16).trans ?_
    rfl
theorem T172_19 {C : Nat → List j_V → j_H → Option j_Z} {L : Nat} {m : j_M0} {x1 : Int} {s0 : Int} : j_fin C 172 19 [some (jR 109), some (jI x1), none] [jI s0] (hH L m) = if s0 = 0 then some (some (jI 0), hH L m) else j_fin C 172 24 [some (jR 109), some (jI x1), none] [] (hH L m) := by
  refine (S_if_ne at_172_19).trans ?_
  refine ite_congr rfl (fun _ => ?_) (fun _ => ?_)
  · refine (S_iconst at_172_22).trans ?_
    exact (S_iretz rfl at_172_23).trans (if_pos (by decide))
  · rfl
theorem T172_24 {C : Nat → List j_V → j_H → Option j_Z} {L : Nat} {m : j_M0} {x1 : Int} {o2 : Option j_V} : j_fin C 172 24 [some (jR 109), some (jI x1), o2] [] (hH L m) = (C 168 [jR 109] (hH L m)).bind fun z => j_fin C 172 28 [some (jR 109), some (jI x1), o2] (z.1.toList ++ []) z.2 := by
  refine (S_aload_n rfl at_172_24).trans ?_
  refine (S_invv (b := 0) kn_168 rfl (ka_109 L _) (Nat.le_of_ble_eq_true rfl) at_172_25).trans ?_
  rfl
theorem T172_28 {C : Nat → List j_V → j_H → Option j_Z} {L : Nat} {m : j_M0} {x1 : Int} {o2 : Option j_V} {s0 : Int} : j_fin C 172 28 [some (jR 109), some (jI x1), o2] [jI s0] (hH L m) = if s0 = 43 then (C 168 [jR 109] (hH L m)).bind fun z => j_fin C 172 46 [some (jR 109), some (jI x1), o2] (z.1.toList ++ []) z.2 else (C 168 [jR 109] (hH L m)).bind fun z => j_fin C 172 37 [some (jR 109), some (jI x1), o2] (z.1.toList ++ []) z.2 := by
  refine (S_bipush at_172_28).trans ?_
  refine (S_icmp_eq at_172_30).trans ?_
  refine ite_congr rfl (fun _ => ?_) (fun _ => ?_)
  · refine (S_aload_n rfl at_172_42).trans ?_
    refine (S_invv (b := 0) kn_168 rfl (ka_109 L _) (Nat.le_of_ble_eq_true rfl) at_172_43).trans ?_
    rfl
  · refine (S_aload_n rfl at_172_33).trans ?_
    refine (S_invv (b := 0) kn_168 rfl (ka_109 L _) (Nat.le_of_ble_eq_true rfl) at_172_34).trans ?_
    rfl
theorem T172_37 {C : Nat → List j_V → j_H → Option j_Z} {L : Nat} {m : j_M0} {x1 : Int} {o2 : Option j_V} {s0 : Int} : j_fin C 172 37 [some (jR 109), some (jI x1), o2] [jI s0] (hH L m) = if s0 = 45 then (C 168 [jR 109] (hH L m)).bind fun z => j_fin C 172 46 [some (jR 109), some (jI x1), o2] (z.1.toList ++ []) z.2 else some (some (jI 1), hH L m) := by
  refine (S_bipush at_172_37).trans ?_
  refine (S_icmp_ne at_172_39).trans ?_
  refine ite_congr rfl (fun _ => ?_) (fun _ => ?_)
  · refine (S_aload_n rfl at_172_42).trans ?_
    refine (S_invv (b := 0) kn_168 rfl (ka_109 L _) (Nat.le_of_ble_eq_true rfl) at_172_43).trans ?_
    rfl
  · refine (S_iconst at_172_81).trans ?_
    exact (S_iretz rfl at_172_82).trans (if_pos (by decide))
theorem T172_46 {C : Nat → List j_V → j_H → Option j_Z} {L : Nat} {m : j_M0} {x1 : Int} {o2 : Option j_V} {s0 : Int} : j_fin C 172 46 [some (jR 109), some (jI x1), o2] [jI s0] (hH L m) = if s0 = 43 then (C 171 [jR 109, jI x1, jI 1] (hH L (j_up m 109 7 (w32 ((m 109 7) + 1))))).bind fun z => j_fin C 172 73 [some (jR 109), some (jI x1), some (jI 1)] (z.1.toList ++ []) z.2 else (C 171 [jR 109, jI x1, jI (-1)] (hH L (j_up m 109 7 (w32 ((m 109 7) + 1))))).bind fun z => j_fin C 172 73 [some (jR 109), some (jI x1), some (jI (-1))] (z.1.toList ++ []) z.2 := by
  refine (S_bipush at_172_46).trans ?_
  refine (S_icmp_ne at_172_48).trans ?_
  refine ite_congr rfl (fun _ => ?_) (fun _ => ?_)
  · refine (S_iconst at_172_51).trans ?_
    refine (S_goto at_172_52).trans ?_
    refine (S_istore_n (l1 := [some (jR 109), some (jI x1), some (jI 1)]) rfl at_172_56).trans ?_
    refine (S_aload_n rfl at_172_57).trans ?_
    refine (S_dup rfl at_172_58).trans ?_
    refine (H_get0 (ka_109 L _) rfl at_172_59).trans ?_
    refine (S_iconst at_172_62).trans ?_
    refine (S_iadd at_172_63).trans ?_
    refine (H_put0 (ka_109 L _) rfl at_172_64).trans ?_
    refine (S_aload_n rfl at_172_67).trans ?_
    refine (S_iload_n rfl at_172_68).trans ?_
    refine (S_iload_n rfl at_172_69).trans ?_
    refine (S_invv (b := 2) kn_171 rfl (ka_109 L _) (Nat.le_of_ble_eq_true rfl) at_172_70).trans ?_
    rfl
  · refine (S_iconst at_172_55).trans ?_
    refine (S_istore_n (l1 := [some (jR 109), some (jI x1), some (jI (-1))]) rfl at_172_56).trans ?_
    refine (S_aload_n rfl at_172_57).trans ?_
    refine (S_dup rfl at_172_58).trans ?_
    refine (H_get0 (ka_109 L _) rfl at_172_59).trans ?_
    refine (S_iconst at_172_62).trans ?_
    refine (S_iadd at_172_63).trans ?_
    refine (H_put0 (ka_109 L _) rfl at_172_64).trans ?_
    refine (S_aload_n rfl at_172_67).trans ?_
    refine (S_iload_n rfl at_172_68).trans ?_
    refine (S_iload_n rfl at_172_69).trans ?_
    refine (S_invv (b := 2) kn_171 rfl (ka_109 L _) (Nat.le_of_ble_eq_true rfl) at_172_70).trans ?_
    rfl
theorem T172_73 {C : Nat → List j_V → j_H → Option j_Z} {L : Nat} {m : j_M0} {x1 : Int} {x2 : Int} {s0 : Int} : j_fin C 172 73 [some (jR 109), some (jI x1), some (jI x2)] [jI s0] (hH L m) = if s0 = 0 then some (some (jI 0), hH L m) else j_fin C 172 24 [some (jR 109), some (jI x1), some (jI x2)] [] (hH L m) := by
  refine (S_if_ne at_172_73).trans ?_
  refine ite_congr rfl (fun _ => ?_) (fun _ => ?_)
  · refine (S_iconst at_172_76).trans ?_
    exact (S_iretz rfl at_172_77).trans (if_pos (by decide))
  · refine (S_goto at_172_78).trans ?_
    rfl
theorem T173_0 {C : Nat → List j_V → j_H → Option j_Z} {L : Nat} {m : j_M0} {x1 : Int} : j_fin C 173 0 [some (jR 109), some (jI x1), none, none, none] [] (hH L m) = (C 169 [jR 109, jI 45] (hH L m)).bind fun z => j_fin C 173 6 [some (jR 109), some (jI x1), none, none, none] (z.1.toList ++ []) z.2 := by
  refine (S_aload_n rfl at_173_0).trans ?_
  refine (S_bipush at_173_1).trans ?_
  refine (S_invv (b := 1) kn_169 rfl (ka_109 L _) (Nat.le_of_ble_eq_true rfl) at_173_3).trans ?_
  rfl
theorem T173_6 {C : Nat → List j_V → j_H → Option j_Z} {L : Nat} {m : j_M0} {x1 : Int} {s0 : Int} : j_fin C 173 6 [some (jR 109), some (jI x1), none, none, none] [jI s0] (hH L m) = if s0 = 0 then (C 170 [jR 109] (hH L m)).bind fun z => j_fin C 173 19 [some (jR 109), some (jI x1), some (jI 1), none, none] (z.1.toList ++ []) z.2 else (C 170 [jR 109] (hH L m)).bind fun z => j_fin C 173 19 [some (jR 109), some (jI x1), some (jI (-1)), none, none] (z.1.toList ++ []) z.2 := by
  refine (S_if_eq at_173_6).trans ?_
  refine ite_congr rfl (fun _ => ?_) (fun _ => ?_)
  · refine (S_iconst at_173_13).trans ?_
    refine (S_istore_n (l1 := [some (jR 109), some (jI x1), some (jI 1), none, none]) rfl at_173_14).trans ?_
    refine (S_aload_n rfl at_173_15).trans ?_
    refine (S_invv (b := 0) kn_170 rfl (ka_109 L _) (Nat.le_of_ble_eq_true rfl) at_173_16).trans ?_
    rfl
  · refine (S_iconst at_173_9).trans ?_
    refine (S_goto at_173_10).trans ?_
    refine (S_istore_n (l1 := [some (jR 109), some (jI x1), some (jI (-1)), none, none]) rfl at_173_14).trans ?_
    refine (S_aload_n rfl at_173_15).trans ?_
    refine (S_invv (b := 0) kn_170 rfl (ka_109 L _) (Nat.le_of_ble_eq_true rfl) at_173_16).trans ?_
    rfl
theorem T173_19 {C : Nat → List j_V → j_H → Option j_Z} {L : Nat} {m : j_M0} {x1 : Int} {x2 : Int} {s0 : Int} : j_fin C 173 19 [some (jR 109), some (jI x1), some (jI x2), none, none] [jI s0] (hH L m) = if s0 = 0 then some (some (jI 0), hH L m) else j_fin C 173 29 [some (jR 109), some (jI x1), some (jI x2), some (jI 0), some (jI 0)] [] (hH L m) := by
  refine (S_if_ne at_173_19).trans ?_
  refine ite_congr rfl (fun _ => ?_) (fun _ => ?_)
  · refine (S_iconst at_173_22).trans ?_
    exact (S_iretz rfl at_173_23).trans (if_pos (by decide))
  · refine (S_iconst at_173_24).trans ?_
    refine (S_istore_n (l1 := [some (jR 109), some (jI x1), some (jI x2), some (jI 0), none]) rfl at_173_25).trans ?_
    refine (S_iconst at_173_26).trans ?_
    refine (S_istore (l1 := [some (jR 109), some (jI x1), some (jI x2), some (jI 0), some (jI 0)]) rfl at_173_27).trans ?_
    rfl
theorem T173_29 {C : Nat → List j_V → j_H → Option j_Z} {L : Nat} {m : j_M0} {x1 : Int} {x2 : Int} {x3 : Int} {x4 : Int} : j_fin C 173 29 [some (jR 109), some (jI x1), some (jI x2), some (jI x3), some (jI x4)] [] (hH L m) = if x4 < 3 then (C 170 [jR 109] (hH L m)).bind fun z => j_fin C 173 39 [some (jR 109), some (jI x1), some (jI x2), some (jI x3), some (jI x4)] (z.1.toList ++ []) z.2 else if 0 ≤ (w32 (x1 + 1)) ∧ (w32 (x1 + 1)) < 28 then some (some (jI 1), hH L (j_up m 114 (w32 (x1 + 1)).toNat (w32 (x2 * x3)))) else none := by
  refine (S_iload rfl at_173_29).trans ?_
  refine (S_iconst at_173_31).trans ?_
  refine (S_icmp_ge at_173_32).trans ?_
  refine ite_congr rfl (fun _ => ?_) (fun _ => ?_)
  · refine (S_aload_n rfl at_173_35).trans ?_
    refine (S_invv (b := 0) kn_170 rfl (ka_109 L _) (Nat.le_of_ble_eq_true rfl) at_173_36).trans ?_
    rfl
  · refine (S_aload_n rfl at_173_83).trans ?_
    refine (S_getR (ka_109 L _) rfl (f_109_5 L _) at_173_84).trans ?_
    refine (S_iload_n rfl at_173_87).trans ?_
    refine (S_iconst at_173_88).trans ?_
    refine (S_iadd at_173_89).trans ?_
    refine (S_iload_n rfl at_173_90).trans ?_
    refine (S_iload_n rfl at_173_91).trans ?_
    refine (S_imul at_173_92).trans ?_
    refine (H_iastore (by omega) (ka_114 L _) at_173_93).trans ?_
    refine ite_congr rfl (fun hi => ?_) (fun _ => rfl)
    refine (S_iconst at_173_94).trans ?_
    exact (S_iretz rfl at_173_95).trans (if_pos (by decide))
theorem T173_39 {C : Nat → List j_V → j_H → Option j_Z} {L : Nat} {m : j_M0} {x1 : Int} {x2 : Int} {x3 : Int} {x4 : Int} {s0 : Int} : j_fin C 173 39 [some (jR 109), some (jI x1), some (jI x2), some (jI x3), some (jI x4)] [jI s0] (hH L m) = if s0 = 0 then if 0 ≤ (w32 (x1 + 1)) ∧ (w32 (x1 + 1)) < 28 then some (some (jI 1), hH L (j_up m 114 (w32 (x1 + 1)).toNat (w32 (x2 * x3)))) else none else (C 168 [jR 109] (hH L m)).bind fun z => j_fin C 173 50 [some (jR 109), some (jI x1), some (jI x2), some (jI x3), some (jI x4)] (z.1.toList ++ [jI (w32 (10 * x3))]) z.2 := by
  refine (S_if_eq at_173_39).trans ?_
  refine ite_congr rfl (fun _ => ?_) (fun _ => ?_)
  · refine (S_aload_n rfl at_173_83).trans ?_
    refine (S_getR (ka_109 L _) rfl (f_109_5 L _) at_173_84).trans ?_
    refine (S_iload_n rfl at_173_87).trans ?_
    refine (S_iconst at_173_88).trans ?_
    refine (S_iadd at_173_89).trans ?_
    refine (S_iload_n rfl at_173_90).trans ?_
    refine (S_iload_n rfl at_173_91).trans ?_
    refine (S_imul at_173_92).trans ?_
    refine (H_iastore (by omega) (ka_114 L _) at_173_93).trans ?_
    refine ite_congr rfl (fun hi => ?_) (fun _ => rfl)
    refine (S_iconst at_173_94).trans ?_
    exact (S_iretz rfl at_173_95).trans (if_pos (by decide))
  · refine (S_bipush at_173_42).trans ?_
    refine (S_iload_n rfl at_173_44).trans ?_
    refine (S_imul at_173_45).trans ?_
    refine (S_aload_n rfl at_173_46).trans ?_
    refine (S_invv (b := 0) kn_168 rfl (ka_109 L _) (Nat.le_of_ble_eq_true rfl) at_173_47).trans ?_
    rfl
theorem T173_50 {C : Nat → List j_V → j_H → Option j_Z} {L : Nat} {m : j_M0} {x1 : Int} {x2 : Int} {x3 : Int} {x4 : Int} {s0 : Int} {s1 : Int} : j_fin C 173 50 [some (jR 109), some (jI x1), some (jI x2), some (jI x3), some (jI x4)] [jI s1, jI s0] (hH L m) = if x2 < 0 then if 99 < (w32 ((w32 (s0 + s1)) - 48)) then some (some (jI 0), hH L m) else j_fin C 173 29 [some (jR 109), some (jI x1), some (jI x2), some (jI (w32 ((w32 (s0 + s1)) - 48))), some (jI (w32 (x4 + 1)))] [] (hH L (j_up m 109 7 (w32 ((m 109 7) + 1)))) else j_fin C 173 29 [some (jR 109), some (jI x1), some (jI x2), some (jI (w32 ((w32 (s0 + s1)) - 48))), some (jI (w32 (x4 + 1)))] [] (hH L (j_up m 109 7 (w32 ((m 109 7) + 1)))) := by
  refine (S_iadd at_173_50).trans ?_
  refine (S_bipush at_173_51).trans ?_
  refine (S_isub at_173_53).trans ?_
  refine (S_istore_n (l1 := [some (jR 109), some (jI x1), some (jI x2), some (jI (w32 ((w32 (s0 + s1)) - 48))), some (jI x4)]) rfl at_173_54).trans ?_
  refine (S_iload_n rfl at_173_55).trans ?_
  refine (S_if_ge at_173_56).trans ?_
  refine ite_congr rfl (fun _ => ?_) (fun _ => ?_)
  · refine (S_iload_n rfl at_173_59).trans ?_
    refine (S_bipush at_173_60).trans ?_
    refine (S_icmp_le at_173_62).trans ?_
    refine ite_congr rfl (fun _ => ?_) (fun _ => ?_)
    · refine (S_iconst at_173_65).trans ?_
      exact (S_iretz rfl at_173_66).trans (if_pos (by decide))
    · refine (S_aload_n rfl at_173_67).trans ?_
      refine (S_dup rfl at_173_68).trans ?_
      refine (H_get0 (ka_109 L _) rfl at_173_69).trans ?_
      refine (S_iconst at_173_72).trans ?_
      refine (S_iadd at_173_73).trans ?_
      refine (H_put0 (ka_109 L _) rfl at_173_74).trans ?_
      refine (S_iinc (l1 := [some (jR 109), some (jI x1), some (jI x2), some (jI (w32 ((w32 (s0 + s1)) - 48))), some (jI (w32 (x4 + 1)))]) rfl rfl at_173_77).trans ?_
      refine (S_goto at_173_80).trans ?_
      rfl
  · refine (S_aload_n rfl at_173_67).trans ?_
    refine (S_dup rfl at_173_68).trans ?_
    refine (H_get0 (ka_109 L _) rfl at_173_69).trans ?_
    refine (S_iconst at_173_72).trans ?_
    refine (S_iadd at_173_73).trans ?_
    refine (H_put0 (ka_109 L _) rfl at_173_74).trans ?_
    refine (S_iinc (l1 := [some (jR 109), some (jI x1), some (jI x2), some (jI (w32 ((w32 (s0 + s1)) - 48))), some (jI (w32 (x4 + 1)))]) rfl rfl at_173_77).trans ?_
    refine (S_goto at_173_80).trans ?_
    rfl
theorem T174_0 {C : Nat → List j_V → j_H → Option j_Z} {L : Nat} {m : j_M0} {x1 : Int} : j_fin C 174 0 [some (jR 109), some (jI x1), none] [] (hH L m) = j_fin C 174 2 [some (jR 109), some (jI x1), some (jI 0)] [] (hH L m) := by
  refine (S_iconst at_174_0).trans ?_
  refine (S_istore_n (l1 := [some (jR 109), some (jI x1), some (jI 0)]) rfl at_174_1).trans ?_
  rfl
theorem T174_2 {C : Nat → List j_V → j_H → Option j_Z} {L : Nat} {m : j_M0} {x1 : Int} {x2 : Int} : j_fin C 174 2 [some (jR 109), some (jI x1), some (jI x2)] [] (hH L m) = if x2 < 7 then if 0 ≤ (w32 (x1 + x2)) ∧ (w32 (x1 + x2)) < 28 then j_fin C 174 2 [some (jR 109), some (jI x1), some (jI (w32 (x2 + 1)))] [] (hH L (j_up m 114 (w32 (x1 + x2)).toNat 0)) else none else (C 172 [jR 109, jI x1] (hH L m)).bind fun z => j_fin C 174 28 [some (jR 109), some (jI x1), some (jI x2)] (z.1.toList ++ []) z.2 := by
  refine (S_iload_n rfl at_174_2).trans ?_
  refine (S_bipush at_174_3).trans ?_
  refine (S_icmp_ge at_174_5).trans ?_
  refine ite_congr rfl (fun _ => ?_) (fun _ => ?_)
  · refine (S_aload_n rfl at_174_8).trans ?_
    refine (S_getR (ka_109 L _) rfl (f_109_5 L _) at_174_9).trans ?_
    refine (S_iload_n rfl at_174_12).trans ?_
    refine (S_iload_n rfl at_174_13).trans ?_
    refine (S_iadd at_174_14).trans ?_
    refine (S_iconst at_174_15).trans ?_
    refine (H_iastore (by omega) (ka_114 L _) at_174_16).trans ?_
    refine ite_congr rfl (fun hi => ?_) (fun _ => rfl)
    refine (S_iinc (l1 := [some (jR 109), some (jI x1), some (jI (w32 (x2 + 1)))]) rfl rfl at_174_17).trans ?_
    refine (S_goto at_174_20).trans ?_
    rfl
  · refine (S_aload_n rfl at_174_23).trans ?_
    refine (S_iload_n rfl at_174_24).trans ?_
    refine (S_invv (b := 1) kn_172 rfl (ka_109 L _) (Nat.le_of_ble_eq_true rfl) at_174_25).trans ?_
    rfl
theorem T174_28 {C : Nat → List j_V → j_H → Option j_Z} {L : Nat} {m : j_M0} {x1 : Int} {x2 : Int} {s0 : Int} : j_fin C 174 28 [some (jR 109), some (jI x1), some (jI x2)] [jI s0] (hH L m) = if s0 = 0 then some (some (jI 0), hH L m) else (C 168 [jR 109] (hH L m)).bind fun z => j_fin C 174 37 [some (jR 109), some (jI x1), some (jI x2)] (z.1.toList ++ []) z.2 := by
  refine (S_if_ne at_174_28).trans ?_
  refine ite_congr rfl (fun _ => ?_) (fun _ => ?_)
  · refine (S_iconst at_174_31).trans ?_
    exact (S_iretz rfl at_174_32).trans (if_pos (by decide))
  · refine (S_aload_n rfl at_174_33).trans ?_
    refine (S_invv (b := 0) kn_168 rfl (ka_109 L _) (Nat.le_of_ble_eq_true rfl) at_174_34).trans ?_
    rfl
theorem T174_37 {C : Nat → List j_V → j_H → Option j_Z} {L : Nat} {m : j_M0} {x1 : Int} {x2 : Int} {s0 : Int} : j_fin C 174 37 [some (jR 109), some (jI x1), some (jI x2)] [jI s0] (hH L m) = if s0 = 62 then (C 168 [jR 109] (hH L m)).bind fun z => j_fin C 174 62 [some (jR 109), some (jI x1), some (jI x2)] (z.1.toList ++ [jI x1, jR 114]) z.2 else (C 168 [jR 109] (hH L m)).bind fun z => j_fin C 174 46 [some (jR 109), some (jI x1), some (jI x2)] (z.1.toList ++ []) z.2 := by
  refine (S_bipush at_174_37).trans ?_
  refine (S_icmp_eq at_174_39).trans ?_
  refine ite_congr rfl (fun _ => ?_) (fun _ => ?_)
  · refine (S_aload_n rfl at_174_53).trans ?_
    refine (S_getR (ka_109 L _) rfl (f_109_5 L _) at_174_54).trans ?_
    refine (S_iload_n rfl at_174_57).trans ?_
    refine (S_aload_n rfl at_174_58).trans ?_
    refine (S_invv (b := 0) kn_168 rfl (ka_109 L _) (Nat.le_of_ble_eq_true rfl) at_174_59).trans ?_
    rfl
  · refine (S_aload_n rfl at_174_42).trans ?_
    refine (S_invv (b := 0) kn_168 rfl (ka_109 L _) (Nat.le_of_ble_eq_true rfl) at_174_43).trans ?_
    rfl
theorem T174_46 {C : Nat → List j_V → j_H → Option j_Z} {L : Nat} {m : j_M0} {x1 : Int} {x2 : Int} {s0 : Int} : j_fin C 174 46 [some (jR 109), some (jI x1), some (jI x2)] [jI s0] (hH L m) = if s0 = 60 then (C 168 [jR 109] (hH L m)).bind fun z => j_fin C 174 62 [some (jR 109), some (jI x1), some (jI x2)] (z.1.toList ++ [jI x1, jR 114]) z.2 else some (some (jI 0), hH L m) := by
  refine (S_bipush at_174_46).trans ?_
  refine (S_icmp_eq at_174_48).trans ?_
  refine ite_congr rfl (fun _ => ?_) (fun _ => ?_)
  · refine (S_aload_n rfl at_174_53).trans ?_
    refine (S_getR (ka_109 L _) rfl (f_109_5 L _) at_174_54).trans ?_
    refine (S_iload_n rfl at_174_57).trans ?_
    refine (S_aload_n rfl at_174_58).trans ?_
    refine (S_invv (b := 0) kn_168 rfl (ka_109 L _) (Nat.le_of_ble_eq_true rfl) at_174_59).trans ?_
    rfl
  · refine (S_iconst at_174_51).trans ?_
    exact (S_iretz rfl at_174_52).trans (if_pos (by decide))
theorem T174_62 {C : Nat → List j_V → j_H → Option j_Z} {L : Nat} {m : j_M0} {x1 : Int} {x2 : Int} {s1 : Int} {s2 : Int} : j_fin C 174 62 [some (jR 109), some (jI x1), some (jI x2)] [jI s2, jI s1, jR 114] (hH L m) = if s2 = 62 then if 0 ≤ s1 ∧ s1 < 28 then (C 173 [jR 109, jI x1] (hH L (j_up (j_up m 114 s1.toNat 0) 109 7 (w32 (((j_up m 114 s1.toNat 0) 109 7) + 1))))).bind fun z => j_fin C 174 88 [some (jR 109), some (jI x1), some (jI x2)] (z.1.toList ++ []) z.2 else none else if 0 ≤ s1 ∧ s1 < 28 then (C 173 [jR 109, jI x1] (hH L (j_up (j_up m 114 s1.toNat 1) 109 7 (w32 (((j_up m 114 s1.toNat 1) 109 7) + 1))))).bind fun z => j_fin C 174 88 [some (jR 109), some (jI x1), some (jI x2)] (z.1.toList ++ []) z.2 else none := by
  refine (S_bipush at_174_62).trans ?_
  refine (S_icmp_ne at_174_64).trans ?_
  refine ite_congr rfl (fun _ => ?_) (fun _ => ?_)
  · refine (S_iconst at_174_67).trans ?_
    refine (S_goto at_174_68).trans ?_
    refine (H_iastore (by omega) (ka_114 L _) at_174_72).trans ?_
    refine ite_congr rfl (fun hi => ?_) (fun _ => rfl)
    refine (S_aload_n rfl at_174_73).trans ?_
    refine (S_dup rfl at_174_74).trans ?_
    refine (H_get0 (ka_109 L _) rfl at_174_75).trans ?_
    refine (S_iconst at_174_78).trans ?_
    refine (S_iadd at_174_79).trans ?_
    refine (H_put0 (ka_109 L _) rfl at_174_80).trans ?_
    refine (S_aload_n rfl at_174_83).trans ?_
    refine (S_iload_n rfl at_174_84).trans ?_
    refine (S_invv (b := 1) kn_173 rfl (ka_109 L _) (Nat.le_of_ble_eq_true rfl) at_174_85).trans ?_
    rfl
  · refine (S_iconst at_174_71).trans ?_
    refine (H_iastore (by omega) (ka_114 L _) at_174_72).trans ?_
    refine ite_congr rfl (fun hi => ?_) (fun _ => rfl)
    refine (S_aload_n rfl at_174_73).trans ?_
    refine (S_dup rfl at_174_74).trans ?_
    refine (H_get0 (ka_109 L _) rfl at_174_75).trans ?_
    refine (S_iconst at_174_78).trans ?_
    refine (S_iadd at_174_79).trans ?_
    refine (H_put0 (ka_109 L _) rfl at_174_80).trans ?_
    refine (S_aload_n rfl at_174_83).trans ?_
    refine (S_iload_n rfl at_174_84).trans ?_
    refine (S_invv (b := 1) kn_173 rfl (ka_109 L _) (Nat.le_of_ble_eq_true rfl) at_174_85).trans ?_
    rfl
theorem T174_88 {C : Nat → List j_V → j_H → Option j_Z} {L : Nat} {m : j_M0} {x1 : Int} {x2 : Int} {s0 : Int} : j_fin C 174 88 [some (jR 109), some (jI x1), some (jI x2)] [jI s0] (hH L m) = if s0 = 0 ∨ s0 = 1 then some (some (jI s0), hH L m) else none := by
  exact S_iretz rfl at_174_88
theorem T175_0 {C : Nat → List j_V → j_H → Option j_Z} {L : Nat} {m : j_M0} : j_fin C 175 0 [some (jR 109), none, none] [] (hH L m) = j_fin C 175 9 [some (jR 109), some (jI 0), some (jI 1)] [] (hH L (j_up m 109 7 0)) := by
  refine (S_aload_n rfl at_175_0).trans ?_
  refine (S_iconst at_175_1).trans ?_
  refine (H_put0 (ka_109 L _) rfl at_175_2).trans ?_
  refine (S_iconst at_175_5).trans ?_
  refine (S_istore_n (l1 := [some (jR 109), some (jI 0), none]) rfl at_175_6).trans ?_
  refine (S_iconst at_175_7).trans ?_
  refine (S_istore_n (l1 := [some (jR 109), some (jI 0), some (jI 1)]) rfl at_175_8).trans ?_
  rfl
theorem T175_9 {C : Nat → List j_V → j_H → Option j_Z} {L : Nat} {m : j_M0} {x1 : Int} {x2 : Int} : j_fin C 175 9 [some (jR 109), some (jI x1), some (jI x2)] [] (hH L m) = if x2 = 0 then if (m 109 7) = (m 109 6) then some (some (jI x1), hH L m) else some (some (jI (-1)), hH L m) else if x1 < 4 then (C 174 [jR 109, jI (w32 (7 * x1))] (hH L m)).bind fun z => j_fin C 175 26 [some (jR 109), some (jI x1), some (jI x2)] (z.1.toList ++ []) z.2 else if (m 109 7) = (m 109 6) then some (some (jI x1), hH L m) else some (some (jI (-1)), hH L m) := by
  refine (S_iload_n rfl at_175_9).trans ?_
  refine (S_if_eq at_175_10).trans ?_
  refine ite_congr rfl (fun _ => ?_) (fun _ => ?_)
  · refine (S_aload_n rfl at_175_57).trans ?_
    refine (H_get0 (ka_109 L _) rfl at_175_58).trans ?_
    refine (S_aload_n rfl at_175_61).trans ?_
    refine (H_get0 (ka_109 L _) rfl at_175_62).trans ?_
    refine (S_icmp_ne at_175_65).trans ?_
    refine ite_congr rfl (fun _ => ?_) (fun _ => ?_)
    · refine (S_iload_n rfl at_175_68).trans ?_
      refine (S_goto at_175_69).trans ?_
      exact S_ireti rfl at_175_73
    · refine (S_iconst at_175_72).trans ?_
      exact S_ireti rfl at_175_73
  · refine (S_iload_n rfl at_175_13).trans ?_
    refine (S_iconst at_175_14).trans ?_
    refine (S_icmp_ge at_175_15).trans ?_
    refine ite_congr rfl (fun _ => ?_) (fun _ => ?_)
    · refine (S_aload_n rfl at_175_18).trans ?_
      refine (S_bipush at_175_19).trans ?_
      refine (S_iload_n rfl at_175_21).trans ?_
      refine (S_imul at_175_22).trans ?_
      refine (S_invv (b := 1) kn_174 rfl (ka_109 L _) (Nat.le_of_ble_eq_true rfl) at_175_23).trans ?_
      rfl
    · refine (S_aload_n rfl at_175_57).trans ?_
      refine (H_get0 (ka_109 L _) rfl at_175_58).trans ?_
      refine (S_aload_n rfl at_175_61).trans ?_
      refine (H_get0 (ka_109 L _) rfl at_175_62).trans ?_
      refine (S_icmp_ne at_175_65).trans ?_
      refine ite_congr rfl (fun _ => ?_) (fun _ => ?_)
      · refine (S_iload_n rfl at_175_68).trans ?_
        refine (S_goto at_175_69).trans ?_
        exact S_ireti rfl at_175_73
      · refine (S_iconst at_175_72).trans ?_
        exact S_ireti rfl at_175_73
theorem T175_26 {C : Nat → List j_V → j_H → Option j_Z} {L : Nat} {m : j_M0} {x1 : Int} {x2 : Int} {s0 : Int} : j_fin C 175 26 [some (jR 109), some (jI x1), some (jI x2)] [jI s0] (hH L m) = if s0 = 0 then some (some (jI (-1)), hH L m) else if (w32 (x1 + 1)) < 4 then (C 169 [jR 109, jI 59] (hH L m)).bind fun z => j_fin C 175 45 [some (jR 109), some (jI (w32 (x1 + 1))), some (jI x2)] (z.1.toList ++ []) z.2 else j_fin C 175 9 [some (jR 109), some (jI (w32 (x1 + 1))), some (jI 0)] [] (hH L m) := by
  refine (S_if_ne at_175_26).trans ?_
  refine ite_congr rfl (fun _ => ?_) (fun _ => ?_)
  · refine (S_iconst at_175_29).trans ?_
    exact S_ireti rfl at_175_30
  · refine (S_iinc (l1 := [some (jR 109), some (jI (w32 (x1 + 1))), some (jI x2)]) rfl rfl at_175_31).trans ?_
    refine (S_iload_n rfl at_175_34).trans ?_
    refine (S_iconst at_175_35).trans ?_
    refine (S_icmp_ge at_175_36).trans ?_
    refine ite_congr rfl (fun _ => ?_) (fun _ => ?_)
    · refine (S_aload_n rfl at_175_39).trans ?_
      refine (S_bipush at_175_40).trans ?_
      refine (S_invv (b := 1) kn_169 rfl (ka_109 L _) (Nat.le_of_ble_eq_true rfl) at_175_42).trans ?_
      rfl
    · refine (S_iconst at_175_52).trans ?_
      refine (S_istore_n (l1 := [some (jR 109), some (jI (w32 (x1 + 1))), some (jI 0)]) rfl at_175_53).trans ?_
      refine (S_goto at_175_54).trans ?_
      rfl
theorem T175_45 {C : Nat → List j_V → j_H → Option j_Z} {L : Nat} {m : j_M0} {x1 : Int} {x2 : Int} {s0 : Int} : j_fin C 175 45 [some (jR 109), some (jI x1), some (jI x2)] [jI s0] (hH L m) = if s0 = 0 then j_fin C 175 9 [some (jR 109), some (jI x1), some (jI 0)] [] (hH L m) else j_fin C 175 9 [some (jR 109), some (jI x1), some (jI 1)] [] (hH L m) := by
  refine (S_if_eq at_175_45).trans ?_
  refine ite_congr rfl (fun _ => ?_) (fun _ => ?_)
  · refine (S_iconst at_175_52).trans ?_
    refine (S_istore_n (l1 := [some (jR 109), some (jI x1), some (jI 0)]) rfl at_175_53).trans ?_
    refine (S_goto at_175_54).trans ?_
    rfl
  · refine (S_iconst at_175_48).trans ?_
    refine (S_goto at_175_49).trans ?_
    refine (S_istore_n (l1 := [some (jR 109), some (jI x1), some (jI 1)]) rfl at_175_53).trans ?_
    refine (S_goto at_175_54).trans ?_
    rfl
theorem T176_0 {C : Nat → List j_V → j_H → Option j_Z} {L : Nat} {m : j_M0} : j_fin C 176 0 [some (jR 109), none, none, none] [] (hH L m) = (C 175 [jR 109] (hH L m)).bind fun z => j_fin C 176 4 [some (jR 109), none, none, none] (z.1.toList ++ []) z.2 := by
  refine (S_aload_n rfl at_176_0).trans ?_
  refine (S_invv (b := 0) kn_175 rfl (ka_109 L _) (Nat.le_of_ble_eq_true rfl) at_176_1).trans ?_
  rfl
theorem T176_4 {C : Nat → List j_V → j_H → Option j_Z} {L : Nat} {m : j_M0} {s0 : Int} : j_fin C 176 4 [some (jR 109), none, none, none] [jI s0] (hH L m) = if s0 < 0 then some (some (jI (w32 ((-10) - ((j_up m 109 6 0) 109 7)))), hH L (j_up m 109 6 0)) else if 8 < (w32 (((j_up m 109 6 0) 110 1) + s0)) then some (some (jI (-4)), hH L (j_up m 109 6 0)) else j_fin C 176 40 [some (jR 109), some (jI s0), some (jI 0), none] [] (hH L (j_up m 109 6 0)) := by
  refine (S_istore_n (l1 := [some (jR 109), some (jI s0), none, none]) rfl at_176_4).trans ?_
  refine (S_aload_n rfl at_176_5).trans ?_
  refine (S_iconst at_176_6).trans ?_
  refine (H_put0 (ka_109 L _) rfl at_176_7).trans ?_
  refine (S_iload_n rfl at_176_10).trans ?_
  refine (S_if_ge at_176_11).trans ?_
  refine ite_congr rfl (fun _ => ?_) (fun _ => ?_)
  · refine (S_bipush at_176_14).trans ?_
    refine (S_aload_n rfl at_176_16).trans ?_
    refine (H_get0 (ka_109 L _) rfl at_176_17).trans ?_
    refine (S_isub at_176_20).trans ?_
    exact S_ireti rfl at_176_21
  · refine (S_aload_n rfl at_176_22).trans ?_
    refine (S_getR (ka_109 L _) rfl (f_109_0 L _) at_176_23).trans ?_
    refine (S_iconst at_176_26).trans ?_
    refine (H_iaload (ka_110 L _) at_176_27).trans ?_
    refine (if_pos (by decide)).trans ?_
    refine (S_iload_n rfl at_176_28).trans ?_
    refine (S_iadd at_176_29).trans ?_
    refine (S_bipush at_176_30).trans ?_
    refine (S_icmp_le at_176_32).trans ?_
    refine ite_congr rfl (fun _ => ?_) (fun _ => ?_)
    · refine (S_bipush at_176_35).trans ?_
      exact S_ireti rfl at_176_37
    · refine (S_iconst at_176_38).trans ?_
      refine (S_istore_n (l1 := [some (jR 109), some (jI s0), some (jI 0), none]) rfl at_176_39).trans ?_
      rfl
theorem T176_40 {C : Nat → List j_V → j_H → Option j_Z} {L : Nat} {m : j_M0} {x1 : Int} {x2 : Int} {o3 : Option j_V} : j_fin C 176 40 [some (jR 109), some (jI x1), some (jI x2), o3] [] (hH L m) = if x2 < x1 then if 0 ≤ (w32 (7 * x2)) ∧ (w32 (7 * x2)) < 28 then if 0 ≤ (w32 ((w32 (7 * x2)) + 1)) ∧ (w32 ((w32 (7 * x2)) + 1)) < 28 then (C 161 [jR 109, jI (m 114 (w32 (7 * x2)).toNat), jI (m 114 (w32 ((w32 (7 * x2)) + 1)).toNat)] (hH L m)).bind fun z => j_fin C 176 69 [some (jR 109), some (jI x1), some (jI x2), o3] (z.1.toList ++ []) z.2 else none else none else some (some (jI x1), hH L m) := by
  refine (S_iload_n rfl at_176_40).trans ?_
  refine (S_iload_n rfl at_176_41).trans ?_
  refine (S_icmp_ge at_176_42).trans ?_
  refine ite_congr rfl (fun _ => ?_) (fun _ => ?_)
  · refine (S_aload_n rfl at_176_45).trans ?_
    refine (S_aload_n rfl at_176_46).trans ?_
    refine (S_getR (ka_109 L _) rfl (f_109_5 L _) at_176_47).trans ?_
    refine (S_bipush at_176_50).trans ?_
    refine (S_iload_n rfl at_176_52).trans ?_
    refine (S_imul at_176_53).trans ?_
    refine (H_iaload (ka_114 L _) at_176_54).trans ?_
    refine ite_congr rfl (fun hi => ?_) (fun _ => rfl)
    refine (S_aload_n rfl at_176_55).trans ?_
    refine (S_getR (ka_109 L _) rfl (f_109_5 L _) at_176_56).trans ?_
    refine (S_bipush at_176_59).trans ?_
    refine (S_iload_n rfl at_176_61).trans ?_
    refine (S_imul at_176_62).trans ?_
    refine (S_iconst at_176_63).trans ?_
    refine (S_iadd at_176_64).trans ?_
    refine (H_iaload (ka_114 L _) at_176_65).trans ?_
    refine ite_congr rfl (fun hi => ?_) (fun _ => rfl)
    refine (S_invv (b := 2) kn_161 rfl (ka_109 L _) (Nat.le_of_ble_eq_true rfl) at_176_66).trans ?_
    rfl
  · refine (S_iload_n rfl at_176_124).trans ?_
    exact S_ireti rfl at_176_125
theorem T176_69 {C : Nat → List j_V → j_H → Option j_Z} {L : Nat} {m : j_M0} {x1 : Int} {x2 : Int} {o3 : Option j_V} : j_fin C 176 69 [some (jR 109), some (jI x1), some (jI x2), o3] [] (hH L m) = j_fin C 176 71 [some (jR 109), some (jI x1), some (jI x2), some (jI 0)] [] (hH L m) := by
  refine (S_iconst at_176_69).trans ?_
  refine (S_istore_n (l1 := [some (jR 109), some (jI x1), some (jI x2), some (jI 0)]) rfl at_176_70).trans ?_
  rfl
theorem T176_71 {C : Nat → List j_V → j_H → Option j_Z} {L : Nat} {m : j_M0} {x1 : Int} {x2 : Int} {x3 : Int} : j_fin C 176 71 [some (jR 109), some (jI x1), some (jI x2), some (jI x3)] [] (hH L m) = if x3 < 5 then if 0 ≤ (w32 ((w32 ((w32 (7 * x2)) + 2)) + x3)) ∧ (w32 ((w32 ((w32 (7 * x2)) + 2)) + x3)) < 28 then if 0 ≤ (w32 ((w32 ((w32 (12 + (w32 (7 * (w32 ((m 110 1) - 1)))))) + 2)) + x3)) ∧ (w32 ((w32 ((w32 (12 + (w32 (7 * (w32 ((m 110 1) - 1)))))) + 2)) + x3)) < 150 then j_fin C 176 71 [some (jR 109), some (jI x1), some (jI x2), some (jI (w32 (x3 + 1)))] [] (hH L (j_up m 110 (w32 ((w32 ((w32 (12 + (w32 (7 * (w32 ((m 110 1) - 1)))))) + 2)) + x3)).toNat (m 114 (w32 ((w32 ((w32 (7 * x2)) + 2)) + x3)).toNat))) else none else none else j_fin C 176 40 [some (jR 109), some (jI x1), some (jI (w32 (x2 + 1))), some (jI x3)] [] (hH L m) := by
  refine (S_iload_n rfl at_176_71).trans ?_
  refine (S_iconst at_176_72).trans ?_
  refine (S_icmp_ge at_176_73).trans ?_
  refine ite_congr rfl (fun _ => ?_) (fun _ => ?_)
  · refine (S_aload_n rfl at_176_76).trans ?_
    refine (S_getR (ka_109 L _) rfl (f_109_0 L _) at_176_77).trans ?_
    refine (S_bipush at_176_80).trans ?_
    refine (S_bipush at_176_82).trans ?_
    refine (S_aload_n rfl at_176_84).trans ?_
    refine (S_getR (ka_109 L _) rfl (f_109_0 L _) at_176_85).trans ?_
    refine (S_iconst at_176_88).trans ?_
    refine (H_iaload (ka_110 L _) at_176_89).trans ?_
    refine (if_pos (by decide)).trans ?_
    refine (S_iconst at_176_90).trans ?_
    refine (S_isub at_176_91).trans ?_
    refine (S_imul at_176_92).trans ?_
    refine (S_iadd at_176_93).trans ?_
    refine (S_iconst at_176_94).trans ?_
    refine (S_iadd at_176_95).trans ?_
    refine (S_iload_n rfl at_176_96).trans ?_
    refine (S_iadd at_176_97).trans ?_
    refine (S_aload_n rfl at_176_98).trans ?_
    refine (S_getR (ka_109 L _) rfl (f_109_5 L _) at_176_99).trans ?_
    refine (S_bipush at_176_102).trans ?_
    refine (S_iload_n rfl at_176_104).trans ?_
    refine (S_imul at_176_105).trans ?_
    refine (S_iconst at_176_106).trans ?_
    refine (S_iadd at_176_107).trans ?_
    refine (S_iload_n rfl at_176_108).trans ?_
    refine (S_iadd at_176_109).trans ?_
    refine (H_iaload (ka_114 L _) at_176_110).trans ?_
    refine ite_congr rfl (fun hi => ?_) (fun _ => rfl)
    refine (H_iastore (by omega) (ka_110 L _) at_176_111).trans ?_
    refine ite_congr rfl (fun hi => ?_) (fun _ => rfl)
    refine (S_iinc (l1 := [some (jR 109), some (jI x1), some (jI x2), some (jI (w32 (x3 + 1)))]) rfl rfl at_176_112).trans ?_
    refine (S_goto at_176_115).trans ?_
    rfl
  · refine (S_iinc (l1 := [some (jR 109), some (jI x1), some (jI (w32 (x2 + 1))), some (jI x3)]) rfl rfl at_176_118).trans ?_
    refine (S_goto at_176_121).trans ?_
    rfl
theorem T177_0_109_115 {C : Nat → List j_V → j_H → Option j_Z} {L : Nat} {m : j_M0} {x2 : Int} {y3 : Int} : j_fin C 177 0 [some (jR 109), some (jR 115), some (jI x2), some (jL y3), none, none] [] (hH L m) = j_fin C 177 3 [some (jR 109), some (jR 115), some (jI x2), some (jL y3), none, some (jI 0)] [] (hH L m) := by
  refine (S_iconst at_177_0).trans ?_
  refine (S_istore (l1 := [some (jR 109), some (jR 115), some (jI x2), some (jL y3), none, some (jI 0)]) rfl at_177_1).trans ?_
  rfl
theorem T177_3_109_115 {C : Nat → List j_V → j_H → Option j_Z} {L : Nat} {m : j_M0} {x2 : Int} {y3 : Int} {x5 : Int} : j_fin C 177 3 [some (jR 109), some (jR 115), some (jI x2), some (jL y3), none, some (jI x5)] [] (hH L m) = if x5 < (m 115 14) then if 0 ≤ (w32 ((w32 (5 * (m 115 15))) + x5)) ∧ (w32 ((w32 (5 * (m 115 15))) + x5)) < 100 then j_fin C 177 3 [some (jR 109), some (jR 115), some (jI x2), some (jL y3), none, some (jI (w32 (x5 + 1)))] [] (hH L (j_up m 116 (w32 ((w32 (5 * (m 115 15))) + x5)).toNat 0)) else none else if 0 ≤ (m 115 15) ∧ (m 115 15) < 20 then if 0 ≤ ((j_up m 122 (m 115 15).toNat x2) 115 15) ∧ ((j_up m 122 (m 115 15).toNat x2) 115 15) < 20 then some (none, hH L (j_up (j_up (j_up m 122 (m 115 15).toNat x2) 117 ((j_up m 122 (m 115 15).toNat x2) 115 15).toNat y3) 115 15 (w32 (((j_up (j_up m 122 (m 115 15).toNat x2) 117 ((j_up m 122 (m 115 15).toNat x2) 115 15).toNat y3) 115 15) + 1)))) else none else none := by
  refine (S_iload rfl at_177_3).trans ?_
  refine (S_aload_n rfl at_177_5).trans ?_
  refine (H_get0 (ka_115 L _) rfl at_177_6).trans ?_
  refine (S_icmp_ge at_177_9).trans ?_
  refine ite_congr rfl (fun _ => ?_) (fun _ => ?_)
  · refine (S_aload_n rfl at_177_12).trans ?_
    refine (S_getR (ka_115 L _) rfl (f_115_0 L _) at_177_13).trans ?_
    refine (S_iconst at_177_16).trans ?_
    refine (S_aload_n rfl at_177_17).trans ?_
    refine (H_get0 (ka_115 L _) rfl at_177_18).trans ?_
    refine (S_imul at_177_21).trans ?_
    refine (S_iload rfl at_177_22).trans ?_
    refine (S_iadd at_177_24).trans ?_
    refine (S_lconst at_177_25).trans ?_
    refine (H_lastore (by omega) (ka_116 L _) at_177_26).trans ?_
    refine ite_congr rfl (fun hi => ?_) (fun _ => rfl)
    refine (S_iinc (l1 := [some (jR 109), some (jR 115), some (jI x2), some (jL y3), none, some (jI (w32 (x5 + 1)))]) rfl rfl at_177_27).trans ?_
    refine (S_goto at_177_30).trans ?_
    rfl
  · refine (S_aload_n rfl at_177_33).trans ?_
    refine (S_getR (ka_115 L _) rfl (f_115_6 L _) at_177_34).trans ?_
    refine (S_aload_n rfl at_177_37).trans ?_
    refine (H_get0 (ka_115 L _) rfl at_177_38).trans ?_
    refine (S_iload_n rfl at_177_41).trans ?_
    refine (H_iastore (by omega) (ka_122 L _) at_177_42).trans ?_
    refine ite_congr rfl (fun hi => ?_) (fun _ => rfl)
    refine (S_aload_n rfl at_177_43).trans ?_
    refine (S_getR (ka_115 L _) rfl (f_115_1 L _) at_177_44).trans ?_
    refine (S_aload_n rfl at_177_47).trans ?_
    refine (H_get0 (ka_115 L _) rfl at_177_48).trans ?_
    refine (S_lload_n rfl at_177_51).trans ?_
    refine (H_lastore (by omega) (ka_117 L _) at_177_52).trans ?_
    refine ite_congr rfl (fun hi => ?_) (fun _ => rfl)
    refine (S_aload_n rfl at_177_53).trans ?_
    refine (S_dup rfl at_177_54).trans ?_
    refine (H_get0 (ka_115 L _) rfl at_177_55).trans ?_
    refine (S_iconst at_177_58).trans ?_
    refine (S_iadd at_177_59).trans ?_
    refine (H_put0 (ka_115 L _) rfl at_177_60).trans ?_
    exact S_ret rfl at_177_63
theorem T177_0_109_128 {C : Nat → List j_V → j_H → Option j_Z} {L : Nat} {m : j_M0} {x2 : Int} {y3 : Int} : j_fin C 177 0 [some (jR 109), some (jR 128), some (jI x2), some (jL y3), none, none] [] (hH L m) = j_fin C 177 3 [some (jR 109), some (jR 128), some (jI x2), some (jL y3), none, some (jI 0)] [] (hH L m) := by
  refine (S_iconst at_177_0).trans ?_
  refine (S_istore (l1 := [some (jR 109), some (jR 128), some (jI x2), some (jL y3), none, some (jI 0)]) rfl at_177_1).trans ?_
  rfl
theorem T177_3_109_128 {C : Nat → List j_V → j_H → Option j_Z} {L : Nat} {m : j_M0} {x2 : Int} {y3 : Int} {x5 : Int} : j_fin C 177 3 [some (jR 109), some (jR 128), some (jI x2), some (jL y3), none, some (jI x5)] [] (hH L m) = if x5 < (m 128 14) then if 0 ≤ (w32 ((w32 (5 * (m 128 15))) + x5)) ∧ (w32 ((w32 (5 * (m 128 15))) + x5)) < 100 then j_fin C 177 3 [some (jR 109), some (jR 128), some (jI x2), some (jL y3), none, some (jI (w32 (x5 + 1)))] [] (hH L (j_up m 129 (w32 ((w32 (5 * (m 128 15))) + x5)).toNat 0)) else none else if 0 ≤ (m 128 15) ∧ (m 128 15) < 20 then if 0 ≤ ((j_up m 135 (m 128 15).toNat x2) 128 15) ∧ ((j_up m 135 (m 128 15).toNat x2) 128 15) < 20 then some (none, hH L (j_up (j_up (j_up m 135 (m 128 15).toNat x2) 130 ((j_up m 135 (m 128 15).toNat x2) 128 15).toNat y3) 128 15 (w32 (((j_up (j_up m 135 (m 128 15).toNat x2) 130 ((j_up m 135 (m 128 15).toNat x2) 128 15).toNat y3) 128 15) + 1)))) else none else none := by
  refine (S_iload rfl at_177_3).trans ?_
  refine (S_aload_n rfl at_177_5).trans ?_
  refine (H_get0 (ka_128 L _) rfl at_177_6).trans ?_
  refine (S_icmp_ge at_177_9).trans ?_
  refine ite_congr rfl (fun _ => ?_) (fun _ => ?_)
  · refine (S_aload_n rfl at_177_12).trans ?_
    refine (S_getR (ka_128 L _) rfl (f_128_0 L _) at_177_13).trans ?_
    refine (S_iconst at_177_16).trans ?_
    refine (S_aload_n rfl at_177_17).trans ?_
    refine (H_get0 (ka_128 L _) rfl at_177_18).trans ?_
    refine (S_imul at_177_21).trans ?_
    refine (S_iload rfl at_177_22).trans ?_
    refine (S_iadd at_177_24).trans ?_
    refine (S_lconst at_177_25).trans ?_
    refine (H_lastore (by omega) (ka_129 L _) at_177_26).trans ?_
    refine ite_congr rfl (fun hi => ?_) (fun _ => rfl)
    refine (S_iinc (l1 := [some (jR 109), some (jR 128), some (jI x2), some (jL y3), none, some (jI (w32 (x5 + 1)))]) rfl rfl at_177_27).trans ?_
    refine (S_goto at_177_30).trans ?_
    rfl
  · refine (S_aload_n rfl at_177_33).trans ?_
    refine (S_getR (ka_128 L _) rfl (f_128_6 L _) at_177_34).trans ?_
    refine (S_aload_n rfl at_177_37).trans ?_
    refine (H_get0 (ka_128 L _) rfl at_177_38).trans ?_
    refine (S_iload_n rfl at_177_41).trans ?_
    refine (H_iastore (by omega) (ka_135 L _) at_177_42).trans ?_
    refine ite_congr rfl (fun hi => ?_) (fun _ => rfl)
    refine (S_aload_n rfl at_177_43).trans ?_
    refine (S_getR (ka_128 L _) rfl (f_128_1 L _) at_177_44).trans ?_
    refine (S_aload_n rfl at_177_47).trans ?_
    refine (H_get0 (ka_128 L _) rfl at_177_48).trans ?_
    refine (S_lload_n rfl at_177_51).trans ?_
    refine (H_lastore (by omega) (ka_130 L _) at_177_52).trans ?_
    refine ite_congr rfl (fun hi => ?_) (fun _ => rfl)
    refine (S_aload_n rfl at_177_53).trans ?_
    refine (S_dup rfl at_177_54).trans ?_
    refine (H_get0 (ka_128 L _) rfl at_177_55).trans ?_
    refine (S_iconst at_177_58).trans ?_
    refine (S_iadd at_177_59).trans ?_
    refine (H_put0 (ka_128 L _) rfl at_177_60).trans ?_
    exact S_ret rfl at_177_63
theorem T178_0_109_115 {C : Nat → List j_V → j_H → Option j_Z} {L : Nat} {m : j_M0} : j_fin C 178 0 [some (jR 109), some (jR 115), none, none] [] (hH L m) = (C 151 [jR 109] (hH L m)).bind fun z => j_fin C 178 5 [some (jR 109), some (jR 115), none, none] (z.1.toList ++ [jR 115]) z.2 := by
  refine (S_aload_n rfl at_178_0).trans ?_
  refine (S_aload_n rfl at_178_1).trans ?_
  refine (S_invv (b := 0) kn_151 rfl (ka_109 L _) (Nat.le_of_ble_eq_true rfl) at_178_2).trans ?_
  rfl
theorem T178_5_109_115 {C : Nat → List j_V → j_H → Option j_Z} {L : Nat} {m : j_M0} {s1 : Int} : j_fin C 178 5 [some (jR 109), some (jR 115), none, none] [jI s1, jR 115] (hH L m) = j_fin C 178 45 [some (jR 109), some (jR 115), some (jI 0), none] [] (hH L (j_up (j_up (j_up (j_up (j_up (j_up (j_up (j_up m 115 14 s1) 115 15 0) 115 16 0) 115 17 0) 115 12 0) 115 13 1) 115 18 1) 115 19 0)) := by
  refine (H_put0 (ka_115 L _) rfl at_178_5).trans ?_
  refine (S_aload_n rfl at_178_8).trans ?_
  refine (S_iconst at_178_9).trans ?_
  refine (H_put0 (ka_115 L _) rfl at_178_10).trans ?_
  refine (S_aload_n rfl at_178_13).trans ?_
  refine (S_iconst at_178_14).trans ?_
  refine (H_put0 (ka_115 L _) rfl at_178_15).trans ?_
  refine (S_aload_n rfl at_178_18).trans ?_
  refine (S_iconst at_178_19).trans ?_
  refine (H_put0 (ka_115 L _) rfl at_178_20).trans ?_
  refine (S_aload_n rfl at_178_23).trans ?_
  refine (S_lconst at_178_24).trans ?_
  refine (H_put1 (ka_115 L _) rfl at_178_25).trans ?_
  refine (S_aload_n rfl at_178_28).trans ?_
  refine (S_lconst at_178_29).trans ?_
  refine (H_put1 (ka_115 L _) rfl at_178_30).trans ?_
  refine (S_aload_n rfl at_178_33).trans ?_
  refine (S_iconst at_178_34).trans ?_
  refine (H_put2 (ka_115 L _) rfl at_178_35).trans ?_
  refine (if_pos (by decide)).trans ?_
  refine (S_aload_n rfl at_178_38).trans ?_
  refine (S_iconst at_178_39).trans ?_
  refine (H_put2 (ka_115 L _) rfl at_178_40).trans ?_
  refine (if_pos (by decide)).trans ?_
  refine (S_iconst at_178_43).trans ?_
  refine (S_istore_n (l1 := [some (jR 109), some (jR 115), some (jI 0), none]) rfl at_178_44).trans ?_
  rfl
theorem T178_45_109_115 {C : Nat → List j_V → j_H → Option j_Z} {L : Nat} {m : j_M0} {x2 : Int} : j_fin C 178 45 [some (jR 109), some (jR 115), some (jI x2), none] [] (hH L m) = (C 151 [jR 109] (hH L m)).bind fun z => j_fin C 178 50 [some (jR 109), some (jR 115), some (jI x2), none] (z.1.toList ++ [jI x2]) z.2 := by
  refine (S_iload_n rfl at_178_45).trans ?_
  refine (S_aload_n rfl at_178_46).trans ?_
  refine (S_invv (b := 0) kn_151 rfl (ka_109 L _) (Nat.le_of_ble_eq_true rfl) at_178_47).trans ?_
  rfl
theorem T178_50_109_115 {C : Nat → List j_V → j_H → Option j_Z} {L : Nat} {m : j_M0} {x2 : Int} {s0 : Int} {s1 : Int} : j_fin C 178 50 [some (jR 109), some (jR 115), some (jI x2), none] [jI s1, jI s0] (hH L m) = if s0 < s1 then if 0 ≤ (w32 (7 + x2)) ∧ (w32 (7 + x2)) < 150 then if 0 ≤ x2 ∧ x2 < 5 then if 0 ≤ x2 ∧ x2 < 5 then j_fin C 178 45 [some (jR 109), some (jR 115), some (jI (w32 (x2 + 1))), none] [] (hH L (j_up (j_up m 118 x2.toNat (m 110 (w32 (7 + x2)).toNat)) 123 x2.toNat x2)) else none else none else none else j_fin C 178 84 [some (jR 109), some (jR 115), some (jI 0), none] [] (hH L m) := by
  refine (S_icmp_ge at_178_50).trans ?_
  refine ite_congr rfl (fun _ => ?_) (fun _ => ?_)
  · refine (S_aload_n rfl at_178_53).trans ?_
    refine (S_getR (ka_115 L _) rfl (f_115_2 L _) at_178_54).trans ?_
    refine (S_iload_n rfl at_178_57).trans ?_
    refine (S_aload_n rfl at_178_58).trans ?_
    refine (S_getR (ka_109 L _) rfl (f_109_0 L _) at_178_59).trans ?_
    refine (S_bipush at_178_62).trans ?_
    refine (S_iload_n rfl at_178_64).trans ?_
    refine (S_iadd at_178_65).trans ?_
    refine (H_iaload (ka_110 L _) at_178_66).trans ?_
    refine ite_congr rfl (fun hi => ?_) (fun _ => rfl)
    refine (S_i2l at_178_67).trans ?_
    refine (H_lastore (by omega) (ka_118 L _) at_178_68).trans ?_
    refine ite_congr rfl (fun hi => ?_) (fun _ => rfl)
    refine (S_aload_n rfl at_178_69).trans ?_
    refine (S_getR (ka_115 L _) rfl (f_115_7 L _) at_178_70).trans ?_
    refine (S_iload_n rfl at_178_73).trans ?_
    refine (S_iload_n rfl at_178_74).trans ?_
    refine (H_iastore (by omega) (ka_123 L _) at_178_75).trans ?_
    refine ite_congr rfl (fun hi => ?_) (fun _ => rfl)
    refine (S_iinc (l1 := [some (jR 109), some (jR 115), some (jI (w32 (x2 + 1))), none]) rfl rfl at_178_76).trans ?_
    refine (S_goto at_178_79).trans ?_
    rfl
  · refine (S_iconst at_178_82).trans ?_
    refine (S_istore_n (l1 := [some (jR 109), some (jR 115), some (jI 0), none]) rfl at_178_83).trans ?_
    rfl
theorem T178_84_109_115 {C : Nat → List j_V → j_H → Option j_Z} {L : Nat} {m : j_M0} {x2 : Int} {o3 : Option j_V} : j_fin C 178 84 [some (jR 109), some (jR 115), some (jI x2), o3] [] (hH L m) = if x2 < (m 110 1) then (C 158 [jR 109, jI x2] (hH L m)).bind fun z => j_fin C 178 105 [some (jR 109), some (jR 115), some (jI x2), o3] (z.1.toList ++ [jI (w32 (10 + x2)), jR 115, jR 109]) z.2 else some (none, hH L m) := by
  refine (S_iload_n rfl at_178_84).trans ?_
  refine (S_aload_n rfl at_178_85).trans ?_
  refine (S_getR (ka_109 L _) rfl (f_109_0 L _) at_178_86).trans ?_
  refine (S_iconst at_178_89).trans ?_
  refine (H_iaload (ka_110 L _) at_178_90).trans ?_
  refine (if_pos (by decide)).trans ?_
  refine (S_icmp_ge at_178_91).trans ?_
  refine ite_congr rfl (fun _ => ?_) (fun _ => ?_)
  · refine (S_aload_n rfl at_178_94).trans ?_
    refine (S_aload_n rfl at_178_95).trans ?_
    refine (S_bipush at_178_96).trans ?_
    refine (S_iload_n rfl at_178_98).trans ?_
    refine (S_iadd at_178_99).trans ?_
    refine (S_aload_n rfl at_178_100).trans ?_
    refine (S_iload_n rfl at_178_101).trans ?_
    refine (S_invv (b := 1) kn_158 rfl (ka_109 L _) (Nat.le_of_ble_eq_true rfl) at_178_102).trans ?_
    rfl
  · exact S_ret rfl at_178_146
theorem T178_105_109_115 {C : Nat → List j_V → j_H → Option j_Z} {L : Nat} {m : j_M0} {x2 : Int} {o3 : Option j_V} {s2 : Int} {t3 : Int} : j_fin C 178 105 [some (jR 109), some (jR 115), some (jI x2), o3] [jL t3, jI s2, jR 115, jR 109] (hH L m) = (C 177 [jR 109, jR 115, jI s2, jL t3] (hH L m)).bind fun z => j_fin C 178 108 [some (jR 109), some (jR 115), some (jI x2), o3] (z.1.toList ++ []) z.2 := by
  refine (S_invv (b := 3) kn_177 rfl (ka_109 L _) (Nat.le_of_ble_eq_true rfl) at_178_105).trans ?_
  rfl
theorem T178_108_109_115 {C : Nat → List j_V → j_H → Option j_Z} {L : Nat} {m : j_M0} {x2 : Int} {o3 : Option j_V} : j_fin C 178 108 [some (jR 109), some (jR 115), some (jI x2), o3] [] (hH L m) = j_fin C 178 110 [some (jR 109), some (jR 115), some (jI x2), some (jI 0)] [] (hH L m) := by
  refine (S_iconst at_178_108).trans ?_
  refine (S_istore_n (l1 := [some (jR 109), some (jR 115), some (jI x2), some (jI 0)]) rfl at_178_109).trans ?_
  rfl
theorem T178_110_109_115 {C : Nat → List j_V → j_H → Option j_Z} {L : Nat} {m : j_M0} {x2 : Int} {x3 : Int} : j_fin C 178 110 [some (jR 109), some (jR 115), some (jI x2), some (jI x3)] [] (hH L m) = (C 151 [jR 109] (hH L m)).bind fun z => j_fin C 178 115 [some (jR 109), some (jR 115), some (jI x2), some (jI x3)] (z.1.toList ++ [jI x3]) z.2 := by
  refine (S_iload_n rfl at_178_110).trans ?_
  refine (S_aload_n rfl at_178_111).trans ?_
  refine (S_invv (b := 0) kn_151 rfl (ka_109 L _) (Nat.le_of_ble_eq_true rfl) at_178_112).trans ?_
  rfl
theorem T178_115_109_115 {C : Nat → List j_V → j_H → Option j_Z} {L : Nat} {m : j_M0} {x2 : Int} {x3 : Int} {s0 : Int} {s1 : Int} : j_fin C 178 115 [some (jR 109), some (jR 115), some (jI x2), some (jI x3)] [jI s1, jI s0] (hH L m) = if s0 < s1 then (C 157 [jR 109, jI x2, jI x3] (hH L m)).bind fun z => j_fin C 178 133 [some (jR 109), some (jR 115), some (jI x2), some (jI x3)] (z.1.toList ++ [jI (w32 ((w32 (5 * x2)) + x3)), jR 116]) z.2 else j_fin C 178 84 [some (jR 109), some (jR 115), some (jI (w32 (x2 + 1))), some (jI x3)] [] (hH L m) := by
  refine (S_icmp_ge at_178_115).trans ?_
  refine ite_congr rfl (fun _ => ?_) (fun _ => ?_)
  · refine (S_aload_n rfl at_178_118).trans ?_
    refine (S_getR (ka_115 L _) rfl (f_115_0 L _) at_178_119).trans ?_
    refine (S_iconst at_178_122).trans ?_
    refine (S_iload_n rfl at_178_123).trans ?_
    refine (S_imul at_178_124).trans ?_
    refine (S_iload_n rfl at_178_125).trans ?_
    refine (S_iadd at_178_126).trans ?_
    refine (S_aload_n rfl at_178_127).trans ?_
    refine (S_iload_n rfl at_178_128).trans ?_
    refine (S_iload_n rfl at_178_129).trans ?_
    refine (S_invv (b := 2) kn_157 rfl (ka_109 L _) (Nat.le_of_ble_eq_true rfl) at_178_130).trans ?_
    rfl
  · refine (S_iinc (l1 := [some (jR 109), some (jR 115), some (jI (w32 (x2 + 1))), some (jI x3)]) rfl rfl at_178_140).trans ?_
    refine (S_goto at_178_143).trans ?_
    rfl
theorem T178_133_109_115 {C : Nat → List j_V → j_H → Option j_Z} {L : Nat} {m : j_M0} {x2 : Int} {x3 : Int} {s1 : Int} {t2 : Int} : j_fin C 178 133 [some (jR 109), some (jR 115), some (jI x2), some (jI x3)] [jL t2, jI s1, jR 116] (hH L m) = if 0 ≤ s1 ∧ s1 < 100 then j_fin C 178 110 [some (jR 109), some (jR 115), some (jI x2), some (jI (w32 (x3 + 1)))] [] (hH L (j_up m 116 s1.toNat t2)) else none := by
  refine (H_lastore (by omega) (ka_116 L _) at_178_133).trans ?_
  refine ite_congr rfl (fun hi => ?_) (fun _ => rfl)
  refine (S_iinc (l1 := [some (jR 109), some (jR 115), some (jI x2), some (jI (w32 (x3 + 1)))]) rfl rfl at_178_134).trans ?_
  refine (S_goto at_178_137).trans ?_
  rfl
theorem T178_0_109_128 {C : Nat → List j_V → j_H → Option j_Z} {L : Nat} {m : j_M0} : j_fin C 178 0 [some (jR 109), some (jR 128), none, none] [] (hH L m) = (C 151 [jR 109] (hH L m)).bind fun z => j_fin C 178 5 [some (jR 109), some (jR 128), none, none] (z.1.toList ++ [jR 128]) z.2 := by
  refine (S_aload_n rfl at_178_0).trans ?_
  refine (S_aload_n rfl at_178_1).trans ?_
  refine (S_invv (b := 0) kn_151 rfl (ka_109 L _) (Nat.le_of_ble_eq_true rfl) at_178_2).trans ?_
  rfl
theorem T178_5_109_128 {C : Nat → List j_V → j_H → Option j_Z} {L : Nat} {m : j_M0} {s1 : Int} : j_fin C 178 5 [some (jR 109), some (jR 128), none, none] [jI s1, jR 128] (hH L m) = j_fin C 178 45 [some (jR 109), some (jR 128), some (jI 0), none] [] (hH L (j_up (j_up (j_up (j_up (j_up (j_up (j_up (j_up m 128 14 s1) 128 15 0) 128 16 0) 128 17 0) 128 12 0) 128 13 1) 128 18 1) 128 19 0)) := by
  refine (H_put0 (ka_128 L _) rfl at_178_5).trans ?_
  refine (S_aload_n rfl at_178_8).trans ?_
  refine (S_iconst at_178_9).trans ?_
  refine (H_put0 (ka_128 L _) rfl at_178_10).trans ?_
  refine (S_aload_n rfl at_178_13).trans ?_
  refine (S_iconst at_178_14).trans ?_
  refine (H_put0 (ka_128 L _) rfl at_178_15).trans ?_
  refine (S_aload_n rfl at_178_18).trans ?_
  refine (S_iconst at_178_19).trans ?_
  refine (H_put0 (ka_128 L _) rfl at_178_20).trans ?_
  refine (S_aload_n rfl at_178_23).trans ?_
  refine (S_lconst at_178_24).trans ?_
  refine (H_put1 (ka_128 L _) rfl at_178_25).trans ?_
  refine (S_aload_n rfl at_178_28).trans ?_
  refine (S_lconst at_178_29).trans ?_
  refine (H_put1 (ka_128 L _) rfl at_178_30).trans ?_
  refine (S_aload_n rfl at_178_33).trans ?_
  refine (S_iconst at_178_34).trans ?_
  refine (H_put2 (ka_128 L _) rfl at_178_35).trans ?_
  refine (if_pos (by decide)).trans ?_
  refine (S_aload_n rfl at_178_38).trans ?_
  refine (S_iconst at_178_39).trans ?_
  refine (H_put2 (ka_128 L _) rfl at_178_40).trans ?_
  refine (if_pos (by decide)).trans ?_
  refine (S_iconst at_178_43).trans ?_
  refine (S_istore_n (l1 := [some (jR 109), some (jR 128), some (jI 0), none]) rfl at_178_44).trans ?_
  rfl
theorem T178_45_109_128 {C : Nat → List j_V → j_H → Option j_Z} {L : Nat} {m : j_M0} {x2 : Int} : j_fin C 178 45 [some (jR 109), some (jR 128), some (jI x2), none] [] (hH L m) = (C 151 [jR 109] (hH L m)).bind fun z => j_fin C 178 50 [some (jR 109), some (jR 128), some (jI x2), none] (z.1.toList ++ [jI x2]) z.2 := by
  refine (S_iload_n rfl at_178_45).trans ?_
  refine (S_aload_n rfl at_178_46).trans ?_
  refine (S_invv (b := 0) kn_151 rfl (ka_109 L _) (Nat.le_of_ble_eq_true rfl) at_178_47).trans ?_
  rfl
theorem T178_50_109_128 {C : Nat → List j_V → j_H → Option j_Z} {L : Nat} {m : j_M0} {x2 : Int} {s0 : Int} {s1 : Int} : j_fin C 178 50 [some (jR 109), some (jR 128), some (jI x2), none] [jI s1, jI s0] (hH L m) = if s0 < s1 then if 0 ≤ (w32 (7 + x2)) ∧ (w32 (7 + x2)) < 150 then if 0 ≤ x2 ∧ x2 < 5 then if 0 ≤ x2 ∧ x2 < 5 then j_fin C 178 45 [some (jR 109), some (jR 128), some (jI (w32 (x2 + 1))), none] [] (hH L (j_up (j_up m 131 x2.toNat (m 110 (w32 (7 + x2)).toNat)) 136 x2.toNat x2)) else none else none else none else j_fin C 178 84 [some (jR 109), some (jR 128), some (jI 0), none] [] (hH L m) := by
  refine (S_icmp_ge at_178_50).trans ?_
  refine ite_congr rfl (fun _ => ?_) (fun _ => ?_)
  · refine (S_aload_n rfl at_178_53).trans ?_
    refine (S_getR (ka_128 L _) rfl (f_128_2 L _) at_178_54).trans ?_
    refine (S_iload_n rfl at_178_57).trans ?_
    refine (S_aload_n rfl at_178_58).trans ?_
    refine (S_getR (ka_109 L _) rfl (f_109_0 L _) at_178_59).trans ?_
    refine (S_bipush at_178_62).trans ?_
    refine (S_iload_n rfl at_178_64).trans ?_
    refine (S_iadd at_178_65).trans ?_
    refine (H_iaload (ka_110 L _) at_178_66).trans ?_
    refine ite_congr rfl (fun hi => ?_) (fun _ => rfl)
    refine (S_i2l at_178_67).trans ?_
    refine (H_lastore (by omega) (ka_131 L _) at_178_68).trans ?_
    refine ite_congr rfl (fun hi => ?_) (fun _ => rfl)
    refine (S_aload_n rfl at_178_69).trans ?_
    refine (S_getR (ka_128 L _) rfl (f_128_7 L _) at_178_70).trans ?_
    refine (S_iload_n rfl at_178_73).trans ?_
    refine (S_iload_n rfl at_178_74).trans ?_
    refine (H_iastore (by omega) (ka_136 L _) at_178_75).trans ?_
    refine ite_congr rfl (fun hi => ?_) (fun _ => rfl)
    refine (S_iinc (l1 := [some (jR 109), some (jR 128), some (jI (w32 (x2 + 1))), none]) rfl rfl at_178_76).trans ?_
    refine (S_goto at_178_79).trans ?_
    rfl
  · refine (S_iconst at_178_82).trans ?_
    refine (S_istore_n (l1 := [some (jR 109), some (jR 128), some (jI 0), none]) rfl at_178_83).trans ?_
    rfl
theorem T178_84_109_128 {C : Nat → List j_V → j_H → Option j_Z} {L : Nat} {m : j_M0} {x2 : Int} {o3 : Option j_V} : j_fin C 178 84 [some (jR 109), some (jR 128), some (jI x2), o3] [] (hH L m) = if x2 < (m 110 1) then (C 158 [jR 109, jI x2] (hH L m)).bind fun z => j_fin C 178 105 [some (jR 109), some (jR 128), some (jI x2), o3] (z.1.toList ++ [jI (w32 (10 + x2)), jR 128, jR 109]) z.2 else some (none, hH L m) := by
  refine (S_iload_n rfl at_178_84).trans ?_
  refine (S_aload_n rfl at_178_85).trans ?_
  refine (S_getR (ka_109 L _) rfl (f_109_0 L _) at_178_86).trans ?_
  refine (S_iconst at_178_89).trans ?_
  refine (H_iaload (ka_110 L _) at_178_90).trans ?_
  refine (if_pos (by decide)).trans ?_
  refine (S_icmp_ge at_178_91).trans ?_
  refine ite_congr rfl (fun _ => ?_) (fun _ => ?_)
  · refine (S_aload_n rfl at_178_94).trans ?_
    refine (S_aload_n rfl at_178_95).trans ?_
    refine (S_bipush at_178_96).trans ?_
    refine (S_iload_n rfl at_178_98).trans ?_
    refine (S_iadd at_178_99).trans ?_
    refine (S_aload_n rfl at_178_100).trans ?_
    refine (S_iload_n rfl at_178_101).trans ?_
    refine (S_invv (b := 1) kn_158 rfl (ka_109 L _) (Nat.le_of_ble_eq_true rfl) at_178_102).trans ?_
    rfl
  · exact S_ret rfl at_178_146
theorem T178_105_109_128 {C : Nat → List j_V → j_H → Option j_Z} {L : Nat} {m : j_M0} {x2 : Int} {o3 : Option j_V} {s2 : Int} {t3 : Int} : j_fin C 178 105 [some (jR 109), some (jR 128), some (jI x2), o3] [jL t3, jI s2, jR 128, jR 109] (hH L m) = (C 177 [jR 109, jR 128, jI s2, jL t3] (hH L m)).bind fun z => j_fin C 178 108 [some (jR 109), some (jR 128), some (jI x2), o3] (z.1.toList ++ []) z.2 := by
  refine (S_invv (b := 3) kn_177 rfl (ka_109 L _) (Nat.le_of_ble_eq_true rfl) at_178_105).trans ?_
  rfl
theorem T178_108_109_128 {C : Nat → List j_V → j_H → Option j_Z} {L : Nat} {m : j_M0} {x2 : Int} {o3 : Option j_V} : j_fin C 178 108 [some (jR 109), some (jR 128), some (jI x2), o3] [] (hH L m) = j_fin C 178 110 [some (jR 109), some (jR 128), some (jI x2), some (jI 0)] [] (hH L m) := by
  refine (S_iconst at_178_108).trans ?_
  refine (S_istore_n (l1 := [some (jR 109), some (jR 128), some (jI x2), some (jI 0)]) rfl at_178_109).trans ?_
  rfl
theorem T178_110_109_128 {C : Nat → List j_V → j_H → Option j_Z} {L : Nat} {m : j_M0} {x2 : Int} {x3 : Int} : j_fin C 178 110 [some (jR 109), some (jR 128), some (jI x2), some (jI x3)] [] (hH L m) = (C 151 [jR 109] (hH L m)).bind fun z => j_fin C 178 115 [some (jR 109), some (jR 128), some (jI x2), some (jI x3)] (z.1.toList ++ [jI x3]) z.2 := by
  refine (S_iload_n rfl at_178_110).trans ?_
  refine (S_aload_n rfl at_178_111).trans ?_
  refine (S_invv (b := 0) kn_151 rfl (ka_109 L _) (Nat.le_of_ble_eq_true rfl) at_178_112).trans ?_
  rfl
theorem T178_115_109_128 {C : Nat → List j_V → j_H → Option j_Z} {L : Nat} {m : j_M0} {x2 : Int} {x3 : Int} {s0 : Int} {s1 : Int} : j_fin C 178 115 [some (jR 109), some (jR 128), some (jI x2), some (jI x3)] [jI s1, jI s0] (hH L m) = if s0 < s1 then (C 157 [jR 109, jI x2, jI x3] (hH L m)).bind fun z => j_fin C 178 133 [some (jR 109), some (jR 128), some (jI x2), some (jI x3)] (z.1.toList ++ [jI (w32 ((w32 (5 * x2)) + x3)), jR 129]) z.2 else j_fin C 178 84 [some (jR 109), some (jR 128), some (jI (w32 (x2 + 1))), some (jI x3)] [] (hH L m) := by
  refine (S_icmp_ge at_178_115).trans ?_
  refine ite_congr rfl (fun _ => ?_) (fun _ => ?_)
  · refine (S_aload_n rfl at_178_118).trans ?_
    refine (S_getR (ka_128 L _) rfl (f_128_0 L _) at_178_119).trans ?_
    refine (S_iconst at_178_122).trans ?_
    refine (S_iload_n rfl at_178_123).trans ?_
    refine (S_imul at_178_124).trans ?_
    refine (S_iload_n rfl at_178_125).trans ?_
    refine (S_iadd at_178_126).trans ?_
    refine (S_aload_n rfl at_178_127).trans ?_
    refine (S_iload_n rfl at_178_128).trans ?_
    refine (S_iload_n rfl at_178_129).trans ?_
    refine (S_invv (b := 2) kn_157 rfl (ka_109 L _) (Nat.le_of_ble_eq_true rfl) at_178_130).trans ?_
    rfl
  · refine (S_iinc (l1 := [some (jR 109), some (jR 128), some (jI (w32 (x2 + 1))), some (jI x3)]) rfl rfl at_178_140).trans ?_
    refine (S_goto at_178_143).trans ?_
    rfl
theorem T178_133_109_128 {C : Nat → List j_V → j_H → Option j_Z} {L : Nat} {m : j_M0} {x2 : Int} {x3 : Int} {s1 : Int} {t2 : Int} : j_fin C 178 133 [some (jR 109), some (jR 128), some (jI x2), some (jI x3)] [jL t2, jI s1, jR 129] (hH L m) = if 0 ≤ s1 ∧ s1 < 100 then j_fin C 178 110 [some (jR 109), some (jR 128), some (jI x2), some (jI (w32 (x3 + 1)))] [] (hH L (j_up m 129 s1.toNat t2)) else none := by
  refine (H_lastore (by omega) (ka_129 L _) at_178_133).trans ?_
  refine ite_congr rfl (fun hi => ?_) (fun _ => rfl)
  refine (S_iinc (l1 := [some (jR 109), some (jR 128), some (jI x2), some (jI (w32 (x3 + 1)))]) rfl rfl at_178_134).trans ?_
  refine (S_goto at_178_137).trans ?_
  rfl
theorem T179_0 {C : Nat → List j_V → j_H → Option j_Z} {L : Nat} {m : j_M0} {y0 : Int} : j_fin C 179 0 [some (jL y0), none] [] (hH L m) = if (j_cmp y0 (-1000000000)) < 0 then some (some (jI 0), hH L m) else if 0 < (j_cmp y0 1000000000) then some (some (jI 0), hH L m) else some (some (jI 1), hH L m) := by
  refine (S_lload_n rfl at_179_0).trans ?_
  refine (S_ldc2_w at_179_1).trans ?_
  refine (S_lcmp at_179_4).trans ?_
  refine (S_if_lt at_179_5).trans ?_
  refine ite_congr rfl (fun _ => ?_) (fun _ => ?_)
  · refine (S_iconst at_179_20).trans ?_
    exact (S_iretz rfl at_179_21).trans (if_pos (by decide))
  · refine (S_lload_n rfl at_179_8).trans ?_
    refine (S_ldc2_w at_179_9).trans ?_
    refine (S_lcmp at_179_12).trans ?_
    refine (S_if_gt at_179_13).trans ?_
    refine ite_congr rfl (fun _ => ?_) (fun _ => ?_)
    · refine (S_iconst at_179_20).trans ?_
      exact (S_iretz rfl at_179_21).trans (if_pos (by decide))
    · refine (S_iconst at_179_16).trans ?_
      refine (S_goto at_179_17).trans ?_
      exact (S_iretz rfl at_179_21).trans (if_pos (by decide))
theorem T180_0_109_115 {C : Nat → List j_V → j_H → Option j_Z} {L : Nat} {m : j_M0} {x2 : Int} {x3 : Int} : j_fin C 180 0 [some (jR 109), some (jR 115), some (jI x2), some (jI x3), none, none, none, none, none, none, none, none, none] [] (hH L m) = if 0 ≤ (w32 ((w32 (5 * x2)) + x3)) ∧ (w32 ((w32 (5 * x2)) + x3)) < 100 then (C 179 [jL (w64 (-(m 116 (w32 ((w32 (5 * x2)) + x3)).toNat)))] (hH L m)).bind fun z => j_fin C 180 18 [some (jR 109), some (jR 115), some (jI x2), some (jI x3), some (jL (w64 (-(m 116 (w32 ((w32 (5 * x2)) + x3)).toNat)))), none, none, none, none, none, none, none, none] (z.1.toList ++ []) z.2 else none := by
  refine (S_aload_n rfl at_180_0).trans ?_
  refine (S_getR (ka_115 L _) rfl (f_115_0 L _) at_180_1).trans ?_
  refine (S_iconst at_180_4).trans ?_
  refine (S_iload_n rfl at_180_5).trans ?_
  refine (S_imul at_180_6).trans ?_
  refine (S_iload_n rfl at_180_7).trans ?_
  refine (S_iadd at_180_8).trans ?_
  refine (H_laload (ka_116 L _) at_180_9).trans ?_
  refine ite_congr rfl (fun hi => ?_) (fun _ => rfl)
  refine (S_lneg at_180_10).trans ?_
  refine (S_lstore (l1 := [some (jR 109), some (jR 115), some (jI x2), some (jI x3), some (jL (w64 (-(m 116 (w32 ((w32 (5 * x2)) + x3)).toNat)))), none, none, none, none, none, none, none, none]) rfl at_180_11).trans ?_
  refine (S_lload rfl at_180_13).trans ?_
  refine (S_invs (by decide) (Nat.le_of_ble_eq_true rfl) (Nat.le_of_ble_eq_true rfl) at_180_15).trans ?_
  rfl
theorem T180_18_109_115 {C : Nat → List j_V → j_H → Option j_Z} {L : Nat} {m : j_M0} {x2 : Int} {x3 : Int} {y4 : Int} {s0 : Int} : j_fin C 180 18 [some (jR 109), some (jR 115), some (jI x2), some (jI x3), some (jL y4), none, none, none, none, none, none, none, none] [jI s0] (hH L m) = j_fin C 180 23 [some (jR 109), some (jR 115), some (jI x2), some (jI x3), some (jL y4), none, some (jI s0), some (jI 0), none, none, none, none, none] [] (hH L m) := by
  refine (S_istore (l1 := [some (jR 109), some (jR 115), some (jI x2), some (jI x3), some (jL y4), none, some (jI s0), none, none, none, none, none, none]) rfl at_180_18).trans ?_
  refine (S_iconst at_180_20).trans ?_
  refine (S_istore (l1 := [some (jR 109), some (jR 115), some (jI x2), some (jI x3), some (jL y4), none, some (jI s0), some (jI 0), none, none, none, none, none]) rfl at_180_21).trans ?_
  rfl
theorem T180_23_109_115 {C : Nat → List j_V → j_H → Option j_Z} {L : Nat} {m : j_M0} {x2 : Int} {x3 : Int} {y4 : Int} {x6 : Int} {x7 : Int} {o8 : Option j_V} {o10 : Option j_V} {o11 : Option j_V} : j_fin C 180 23 [some (jR 109), some (jR 115), some (jI x2), some (jI x3), some (jL y4), none, some (jI x6), some (jI x7), o8, none, o10, o11, none] [] (hH L m) = if x7 < (m 115 15) then if 0 ≤ (w32 ((w32 (5 * x7)) + x3)) ∧ (w32 ((w32 (5 * x7)) + x3)) < 100 then j_fin C 180 48 [some (jR 109), some (jR 115), some (jI x2), some (jI x3), some (jL y4), none, some (jI x6), some (jI x7), some (jL (m 116 (w32 ((w32 (5 * x7)) + x3)).toNat)), none, some (jI 0), o11, none] [] (hH L m) else none else j_fin C 180 244 [some (jR 109), some (jR 115), some (jI x2), some (jI x3), some (jL y4), none, some (jI x6), some (jI 0), o8, none, o10, o11, none] [] (hH L m) := by
  refine (S_iload rfl at_180_23).trans ?_
  refine (S_aload_n rfl at_180_25).trans ?_
  refine (H_get0 (ka_115 L _) rfl at_180_26).trans ?_
  refine (S_icmp_ge at_180_29).trans ?_
  refine ite_congr rfl (fun _ => ?_) (fun _ => ?_)
  · refine (S_aload_n rfl at_180_32).trans ?_
    refine (S_getR (ka_115 L _) rfl (f_115_0 L _) at_180_33).trans ?_
    refine (S_iconst at_180_36).trans ?_
    refine (S_iload rfl at_180_37).trans ?_
    refine (S_imul at_180_39).trans ?_
    refine (S_iload_n rfl at_180_40).trans ?_
    refine (S_iadd at_180_41).trans ?_
    refine (H_laload (ka_116 L _) at_180_42).trans ?_
    refine ite_congr rfl (fun hi => ?_) (fun _ => rfl)
    refine (S_lstore (l1 := [some (jR 109), some (jR 115), some (jI x2), some (jI x3), some (jL y4), none, some (jI x6), some (jI x7), some (jL (m 116 (w32 ((w32 (5 * x7)) + x3)).toNat)), none, o10, o11, none]) rfl at_180_43).trans ?_
    refine (S_iconst at_180_45).trans ?_
    refine (S_istore (l1 := [some (jR 109), some (jR 115), some (jI x2), some (jI x3), some (jL y4), none, some (jI x6), some (jI x7), some (jL (m 116 (w32 ((w32 (5 * x7)) + x3)).toNat)), none, some (jI 0), o11, none]) rfl at_180_46).trans ?_
    rfl
  · refine (S_iconst at_180_241).trans ?_
    refine (S_istore (l1 := [some (jR 109), some (jR 115), some (jI x2), some (jI x3), some (jL y4), none, some (jI x6), some (jI 0), o8, none, o10, o11, none]) rfl at_180_242).trans ?_
    rfl
theorem T180_48_109_115 {C : Nat → List j_V → j_H → Option j_Z} {L : Nat} {m : j_M0} {x2 : Int} {x3 : Int} {y4 : Int} {x6 : Int} {x7 : Int} {y8 : Int} {x10 : Int} {o11 : Option j_V} : j_fin C 180 48 [some (jR 109), some (jR 115), some (jI x2), some (jI x3), some (jL y4), none, some (jI x6), some (jI x7), some (jL y8), none, some (jI x10), o11, none] [] (hH L m) = if x10 < (m 115 14) then if x7 = x2 then if x10 = x3 then if 0 ≤ (w32 ((w32 (5 * x7)) + x10)) ∧ (w32 ((w32 (5 * x7)) + x10)) < 100 then (C 179 [jL (w64 (-(m 115 13)))] (hH L (j_up m 119 (w32 ((w32 (5 * x7)) + x10)).toNat (w64 (-(m 115 13)))))).bind fun z => j_fin C 180 162 [some (jR 109), some (jR 115), some (jI x2), some (jI x3), some (jL y4), none, some (jI x6), some (jI x7), some (jL y8), none, some (jI x10), some (jL (w64 (-(m 115 13)))), none] (z.1.toList ++ [jI x6]) z.2 else none else if 0 ≤ (w32 ((w32 (5 * x7)) + x10)) ∧ (w32 ((w32 (5 * x7)) + x10)) < 100 then if 0 ≤ (w32 ((w32 (5 * x7)) + x10)) ∧ (w32 ((w32 (5 * x7)) + x10)) < 100 then (C 179 [jL (w64 (-(m 116 (w32 ((w32 (5 * x7)) + x10)).toNat)))] (hH L (j_up m 119 (w32 ((w32 (5 * x7)) + x10)).toNat (w64 (-(m 116 (w32 ((w32 (5 * x7)) + x10)).toNat)))))).bind fun z => j_fin C 180 162 [some (jR 109), some (jR 115), some (jI x2), some (jI x3), some (jL y4), none, some (jI x6), some (jI x7), some (jL y8), none, some (jI x10), some (jL (w64 (-(m 116 (w32 ((w32 (5 * x7)) + x10)).toNat)))), none] (z.1.toList ++ [jI x6]) z.2 else none else none else if x10 = x3 then if 0 ≤ (w32 ((w32 (5 * x7)) + x10)) ∧ (w32 ((w32 (5 * x7)) + x10)) < 100 then (C 179 [jL y8] (hH L (j_up m 119 (w32 ((w32 (5 * x7)) + x10)).toNat y8))).bind fun z => j_fin C 180 162 [some (jR 109), some (jR 115), some (jI x2), some (jI x3), some (jL y4), none, some (jI x6), some (jI x7), some (jL y8), none, some (jI x10), some (jL y8), none] (z.1.toList ++ [jI x6]) z.2 else none else if 0 ≤ (w32 ((w32 (5 * x7)) + x10)) ∧ (w32 ((w32 (5 * x7)) + x10)) < 100 then if 0 ≤ (w32 ((w32 (5 * x2)) + x10)) ∧ (w32 ((w32 (5 * x2)) + x10)) < 100 then if m 115 13 = 0 then none else if 0 ≤ (w32 ((w32 (5 * x7)) + x10)) ∧ (w32 ((w32 (5 * x7)) + x10)) < 100 then (C 179 [jL (w64 (Int.tdiv (w64 ((w64 (y4 * (m 116 (w32 ((w32 (5 * x7)) + x10)).toNat))) + (w64 (y8 * (m 116 (w32 ((w32 (5 * x2)) + x10)).toNat))))) (m 115 13)))] (hH L (j_up m 119 (w32 ((w32 (5 * x7)) + x10)).toNat (w64 (Int.tdiv (w64 ((w64 (y4 * (m 116 (w32 ((w32 (5 * x7)) + x10)).toNat))) + (w64 (y8 * (m 116 (w32 ((w32 (5 * x2)) + x10)).toNat))))) (m 115 13)))))).bind fun z => j_fin C 180 162 [some (jR 109), some (jR 115), some (jI x2), some (jI x3), some (jL y4), none, some (jI x6), some (jI x7), some (jL y8), none, some (jI x10), some (jL (w64 (Int.tdiv (w64 ((w64 (y4 * (m 116 (w32 ((w32 (5 * x7)) + x10)).toNat))) + (w64 (y8 * (m 116 (w32 ((w32 (5 * x2)) + x10)).toNat))))) (m 115 13)))), none] (z.1.toList ++ [jI x6]) z.2 else none else none else none else if x7 = x2 then if 0 ≤ x7 ∧ x7 < 20 then if 0 ≤ x7 ∧ x7 < 20 then if 0 ≤ x7 ∧ x7 < 20 then (C 179 [jL ((j_up m 120 x7.toNat (w64 (-(m 117 x7.toNat)))) 120 x7.toNat)] (hH L (j_up m 120 x7.toNat (w64 (-(m 117 x7.toNat)))))).bind fun z => j_fin C 180 232 [some (jR 109), some (jR 115), some (jI x2), some (jI x3), some (jL y4), none, some (jI x6), some (jI x7), some (jL y8), none, some (jI x10), o11, none] (z.1.toList ++ [jI x6]) z.2 else none else none else none else if 0 ≤ x7 ∧ x7 < 20 then if 0 ≤ x2 ∧ x2 < 20 then if m 115 13 = 0 then none else if 0 ≤ x7 ∧ x7 < 20 then if 0 ≤ x7 ∧ x7 < 20 then (C 179 [jL ((j_up m 120 x7.toNat (w64 (Int.tdiv (w64 ((w64 (y4 * (m 117 x7.toNat))) + (w64 (y8 * (m 117 x2.toNat))))) (m 115 13)))) 120 x7.toNat)] (hH L (j_up m 120 x7.toNat (w64 (Int.tdiv (w64 ((w64 (y4 * (m 117 x7.toNat))) + (w64 (y8 * (m 117 x2.toNat))))) (m 115 13)))))).bind fun z => j_fin C 180 232 [some (jR 109), some (jR 115), some (jI x2), some (jI x3), some (jL y4), none, some (jI x6), some (jI x7), some (jL y8), none, some (jI x10), o11, none] (z.1.toList ++ [jI x6]) z.2 else none else none else none else none := by
  refine (S_iload rfl at_180_48).trans ?_
  refine (S_aload_n rfl at_180_50).trans ?_
  refine (H_get0 (ka_115 L _) rfl at_180_51).trans ?_
  refine (S_icmp_ge at_180_54).trans ?_
  refine ite_congr rfl (fun _ => ?_) (fun _ => ?_)
  · refine (S_iload rfl at_180_57).trans ?_
    refine (S_iload_n rfl at_180_59).trans ?_
    refine (S_icmp_ne at_180_60).trans ?_
    refine ite_congr rfl (fun _ => ?_) (fun _ => ?_)
    · refine (S_iload rfl at_180_63).trans ?_
      refine (S_iload_n rfl at_180_65).trans ?_
      refine (S_icmp_ne at_180_66).trans ?_
      refine ite_congr rfl (fun _ => ?_) (fun _ => ?_)
      · refine (S_aload_n rfl at_180_69).trans ?_
        refine (H_get1 (ka_115 L _) rfl at_180_70).trans ?_
        refine (S_lneg at_180_73).trans ?_
        refine (S_goto at_180_74).trans ?_
        refine (S_lstore (l1 := [some (jR 109), some (jR 115), some (jI x2), some (jI x3), some (jL y4), none, some (jI x6), some (jI x7), some (jL y8), none, some (jI x10), some (jL (w64 (-(m 115 13)))), none]) rfl at_180_139).trans ?_
        refine (S_aload_n rfl at_180_141).trans ?_
        refine (S_getR (ka_115 L _) rfl (f_115_3 L _) at_180_142).trans ?_
        refine (S_iconst at_180_145).trans ?_
        refine (S_iload rfl at_180_146).trans ?_
        refine (S_imul at_180_148).trans ?_
        refine (S_iload rfl at_180_149).trans ?_
        refine (S_iadd at_180_151).trans ?_
        refine (S_lload rfl at_180_152).trans ?_
        refine (H_lastore (by omega) (ka_119 L _) at_180_154).trans ?_
        refine ite_congr rfl (fun hi => ?_) (fun _ => rfl)
        refine (S_iload rfl at_180_155).trans ?_
        refine (S_lload rfl at_180_157).trans ?_
        refine (S_invs (by decide) (Nat.le_of_ble_eq_true rfl) (Nat.le_of_ble_eq_true rfl) at_180_159).trans ?_
        rfl
      · refine (S_aload_n rfl at_180_77).trans ?_
        refine (S_getR (ka_115 L _) rfl (f_115_0 L _) at_180_78).trans ?_
        refine (S_iconst at_180_81).trans ?_
        refine (S_iload rfl at_180_82).trans ?_
        refine (S_imul at_180_84).trans ?_
        refine (S_iload rfl at_180_85).trans ?_
        refine (S_iadd at_180_87).trans ?_
        refine (H_laload (ka_116 L _) at_180_88).trans ?_
        refine ite_congr rfl (fun hi => ?_) (fun _ => rfl)
        refine (S_lneg at_180_89).trans ?_
        refine (S_goto at_180_90).trans ?_
        refine (S_lstore (l1 := [some (jR 109), some (jR 115), some (jI x2), some (jI x3), some (jL y4), none, some (jI x6), some (jI x7), some (jL y8), none, some (jI x10), some (jL (w64 (-(m 116 (w32 ((w32 (5 * x7)) + x10)).toNat)))), none]) rfl at_180_139).trans ?_
        refine (S_aload_n rfl at_180_141).trans ?_
        refine (S_getR (ka_115 L _) rfl (f_115_3 L _) at_180_142).trans ?_
        refine (S_iconst at_180_145).trans ?_
        refine (S_iload rfl at_180_146).trans ?_
        refine (S_imul at_180_148).trans ?_
        refine (S_iload rfl at_180_149).trans ?_
        refine (S_iadd at_180_151).trans ?_
        refine (S_lload rfl at_180_152).trans ?_
        refine (H_lastore (by omega) (ka_119 L _) at_180_154).trans ?_
        refine ite_congr rfl (fun hi => ?_) (fun _ => rfl)
        refine (S_iload rfl at_180_155).trans ?_
        refine (S_lload rfl at_180_157).trans ?_
        refine (S_invs (by decide) (Nat.le_of_ble_eq_true rfl) (Nat.le_of_ble_eq_true rfl) at_180_159).trans ?_
        rfl
    · refine (S_iload rfl at_180_93).trans ?_
      refine (S_iload_n rfl at_180_95).trans ?_
      refine (S_icmp_ne at_180_96).trans ?_
      refine ite_congr rfl (fun _ => ?_) (fun _ => ?_)
      · refine (S_lload rfl at_180_99).trans ?_
        refine (S_goto at_180_101).trans ?_
        refine (S_lstore (l1 := [some (jR 109), some (jR 115), some (jI x2), some (jI x3), some (jL y4), none, some (jI x6), some (jI x7), some (jL y8), none, some (jI x10), some (jL y8), none]) rfl at_180_139).trans ?_
        refine (S_aload_n rfl at_180_141).trans ?_
        refine (S_getR (ka_115 L _) rfl (f_115_3 L _) at_180_142).trans ?_
        refine (S_iconst at_180_145).trans ?_
        refine (S_iload rfl at_180_146).trans ?_
        refine (S_imul at_180_148).trans ?_
        refine (S_iload rfl at_180_149).trans ?_
        refine (S_iadd at_180_151).trans ?_
        refine (S_lload rfl at_180_152).trans ?_
        refine (H_lastore (by omega) (ka_119 L _) at_180_154).trans ?_
        refine ite_congr rfl (fun hi => ?_) (fun _ => rfl)
        refine (S_iload rfl at_180_155).trans ?_
        refine (S_lload rfl at_180_157).trans ?_
        refine (S_invs (by decide) (Nat.le_of_ble_eq_true rfl) (Nat.le_of_ble_eq_true rfl) at_180_159).trans ?_
        rfl
      · refine (S_lload rfl at_180_104).trans ?_
        refine (S_aload_n rfl at_180_106).trans ?_
        refine (S_getR (ka_115 L _) rfl (f_115_0 L _) at_180_107).trans ?_
        refine (S_iconst at_180_110).trans ?_
        refine (S_iload rfl at_180_111).trans ?_
        refine (S_imul at_180_113).trans ?_
        refine (S_iload rfl at_180_114).trans ?_
        refine (S_iadd at_180_116).trans ?_
        refine (H_laload (ka_116 L _) at_180_117).trans ?_
        refine ite_congr rfl (fun hi => ?_) (fun _ => rfl)
        refine (S_lmul at_180_118).trans ?_
        refine (S_lload rfl at_180_119).trans ?_
        refine (S_aload_n rfl at_180_121).trans ?_
        refine (S_getR (ka_115 L _) rfl (f_115_0 L _) at_180_122).trans ?_
        refine (S_iconst at_180_125).trans ?_
        refine (S_iload_n rfl at_180_126).trans ?_
        refine (S_imul at_180_127).trans ?_
        refine (S_iload rfl at_180_128).trans ?_
        refine (S_iadd at_180_130).trans ?_
        refine (H_laload (ka_116 L _) at_180_131).trans ?_
        refine ite_congr rfl (fun hi => ?_) (fun _ => rfl)
        refine (S_lmul at_180_132).trans ?_
        refine (S_ladd at_180_133).trans ?_
        refine (S_aload_n rfl at_180_134).trans ?_
        refine (H_get1 (ka_115 L _) rfl at_180_135).trans ?_
        refine (S_ldiv at_180_138).trans ?_
        refine ite_congr rfl (fun _ => rfl) (fun hz => ?_)
        refine (S_lstore (l1 := [some (jR 109), some (jR 115), some (jI x2), some (jI x3), some (jL y4), none, some (jI x6), some (jI x7), some (jL y8), none, some (jI x10), some (jL (w64 (Int.tdiv (w64 ((w64 (y4 * (m 116 (w32 ((w32 (5 * x7)) + x10)).toNat))) + (w64 (y8 * (m 116 (w32 ((w32 (5 * x2)) + x10)).toNat))))) (m 115 13)))), none]) rfl at_180_139).trans ?_
        refine (S_aload_n rfl at_180_141).trans ?_
        refine (S_getR (ka_115 L _) rfl (f_115_3 L _) at_180_142).trans ?_
        refine (S_iconst at_180_145).trans ?_
        refine (S_iload rfl at_180_146).trans ?_
        refine (S_imul at_180_148).trans ?_
        refine (S_iload rfl at_180_149).trans ?_
        refine (S_iadd at_180_151).trans ?_
        refine (S_lload rfl at_180_152).trans ?_
        refine (H_lastore (by omega) (ka_119 L _) at_180_154).trans ?_
        refine ite_congr rfl (fun hi => ?_) (fun _ => rfl)
        refine (S_iload rfl at_180_155).trans ?_
        refine (S_lload rfl at_180_157).trans ?_
        refine (S_invs (by decide) (Nat.le_of_ble_eq_true rfl) (Nat.le_of_ble_eq_true rfl) at_180_159).trans ?_
        rfl
  · refine (S_aload_n rfl at_180_171).trans ?_
    refine (S_getR (ka_115 L _) rfl (f_115_4 L _) at_180_172).trans ?_
    refine (S_iload rfl at_180_175).trans ?_
    refine (S_iload rfl at_180_177).trans ?_
    refine (S_iload_n rfl at_180_179).trans ?_
    refine (S_icmp_ne at_180_180).trans ?_
    refine ite_congr rfl (fun _ => ?_) (fun _ => ?_)
    · refine (S_aload_n rfl at_180_183).trans ?_
      refine (S_getR (ka_115 L _) rfl (f_115_1 L _) at_180_184).trans ?_
      refine (S_iload rfl at_180_187).trans ?_
      refine (H_laload (ka_117 L _) at_180_189).trans ?_
      refine ite_congr rfl (fun hi => ?_) (fun _ => rfl)
      refine (S_lneg at_180_190).trans ?_
      refine (S_goto at_180_191).trans ?_
      refine (H_lastore (by omega) (ka_120 L _) at_180_219).trans ?_
      refine ite_congr rfl (fun hi => ?_) (fun _ => rfl)
      refine (S_iload rfl at_180_220).trans ?_
      refine (S_aload_n rfl at_180_222).trans ?_
      refine (S_getR (ka_115 L _) rfl (f_115_4 L _) at_180_223).trans ?_
      refine (S_iload rfl at_180_226).trans ?_
      refine (H_laload (ka_120 L _) at_180_228).trans ?_
      refine ite_congr rfl (fun hi => ?_) (fun _ => rfl)
      refine (S_invs (by decide) (Nat.le_of_ble_eq_true rfl) (Nat.le_of_ble_eq_true rfl) at_180_229).trans ?_
      rfl
    · refine (S_lload rfl at_180_194).trans ?_
      refine (S_aload_n rfl at_180_196).trans ?_
      refine (S_getR (ka_115 L _) rfl (f_115_1 L _) at_180_197).trans ?_
      refine (S_iload rfl at_180_200).trans ?_
      refine (H_laload (ka_117 L _) at_180_202).trans ?_
      refine ite_congr rfl (fun hi => ?_) (fun _ => rfl)
      refine (S_lmul at_180_203).trans ?_
      refine (S_lload rfl at_180_204).trans ?_
      refine (S_aload_n rfl at_180_206).trans ?_
      refine (S_getR (ka_115 L _) rfl (f_115_1 L _) at_180_207).trans ?_
      refine (S_iload_n rfl at_180_210).trans ?_
      refine (H_laload (ka_117 L _) at_180_211).trans ?_
      refine ite_congr rfl (fun hi => ?_) (fun _ => rfl)
      refine (S_lmul at_180_212).trans ?_
      refine (S_ladd at_180_213).trans ?_
      refine (S_aload_n rfl at_180_214).trans ?_
      refine (H_get1 (ka_115 L _) rfl at_180_215).trans ?_
      refine (S_ldiv at_180_218).trans ?_
      refine ite_congr rfl (fun _ => rfl) (fun hz => ?_)
      refine (H_lastore (by omega) (ka_120 L _) at_180_219).trans ?_
      refine ite_congr rfl (fun hi => ?_) (fun _ => rfl)
      refine (S_iload rfl at_180_220).trans ?_
      refine (S_aload_n rfl at_180_222).trans ?_
      refine (S_getR (ka_115 L _) rfl (f_115_4 L _) at_180_223).trans ?_
      refine (S_iload rfl at_180_226).trans ?_
      refine (H_laload (ka_120 L _) at_180_228).trans ?_
      refine ite_congr rfl (fun hi => ?_) (fun _ => rfl)
      refine (S_invs (by decide) (Nat.le_of_ble_eq_true rfl) (Nat.le_of_ble_eq_true rfl) at_180_229).trans ?_
      rfl
theorem T180_162_109_115 {C : Nat → List j_V → j_H → Option j_Z} {L : Nat} {m : j_M0} {x2 : Int} {x3 : Int} {y4 : Int} {x6 : Int} {x7 : Int} {y8 : Int} {x10 : Int} {y11 : Int} {s0 : Int} {s1 : Int} : j_fin C 180 162 [some (jR 109), some (jR 115), some (jI x2), some (jI x3), some (jL y4), none, some (jI x6), some (jI x7), some (jL y8), none, some (jI x10), some (jL y11), none] [jI s1, jI s0] (hH L m) = j_fin C 180 48 [some (jR 109), some (jR 115), some (jI x2), some (jI x3), some (jL y4), none, some (jI (j_and s0 s1)), some (jI x7), some (jL y8), none, some (jI (w32 (x10 + 1))), some (jL y11), none] [] (hH L m) := by
  refine (S_iand at_180_162).trans ?_
  refine (S_istore (l1 := [some (jR 109), some (jR 115), some (jI x2), some (jI x3), some (jL y4), none, some (jI (j_and s0 s1)), some (jI x7), some (jL y8), none, some (jI x10), some (jL y11), none]) rfl at_180_163).trans ?_
  refine (S_iinc (l1 := [some (jR 109), some (jR 115), some (jI x2), some (jI x3), some (jL y4), none, some (jI (j_and s0 s1)), some (jI x7), some (jL y8), none, some (jI (w32 (x10 + 1))), some (jL y11), none]) rfl rfl at_180_165).trans ?_
  refine (S_goto at_180_168).trans ?_
  rfl
theorem T180_232_109_115 {C : Nat → List j_V → j_H → Option j_Z} {L : Nat} {m : j_M0} {x2 : Int} {x3 : Int} {y4 : Int} {x6 : Int} {x7 : Int} {y8 : Int} {x10 : Int} {o11 : Option j_V} {s0 : Int} {s1 : Int} : j_fin C 180 232 [some (jR 109), some (jR 115), some (jI x2), some (jI x3), some (jL y4), none, some (jI x6), some (jI x7), some (jL y8), none, some (jI x10), o11, none] [jI s1, jI s0] (hH L m) = j_fin C 180 23 [some (jR 109), some (jR 115), some (jI x2), some (jI x3), some (jL y4), none, some (jI (j_and s0 s1)), some (jI (w32 (x7 + 1))), some (jL y8), none, some (jI x10), o11, none] [] (hH L m) := by
  refine (S_iand at_180_232).trans ?_
  refine (S_istore (l1 := [some (jR 109), some (jR 115), some (jI x2), some (jI x3), some (jL y4), none, some (jI (j_and s0 s1)), some (jI x7), some (jL y8), none, some (jI x10), o11, none]) rfl at_180_233).trans ?_
  refine (S_iinc (l1 := [some (jR 109), some (jR 115), some (jI x2), some (jI x3), some (jL y4), none, some (jI (j_and s0 s1)), some (jI (w32 (x7 + 1))), some (jL y8), none, some (jI x10), o11, none]) rfl rfl at_180_235).trans ?_
  refine (S_goto at_180_238).trans ?_
  rfl
theorem T180_244_109_115 {C : Nat → List j_V → j_H → Option j_Z} {L : Nat} {m : j_M0} {x2 : Int} {x3 : Int} {y4 : Int} {x6 : Int} {x7 : Int} {o8 : Option j_V} {o10 : Option j_V} {o11 : Option j_V} : j_fin C 180 244 [some (jR 109), some (jR 115), some (jI x2), some (jI x3), some (jL y4), none, some (jI x6), some (jI x7), o8, none, o10, o11, none] [] (hH L m) = if x7 < (m 115 14) then if x7 = x3 then if 0 ≤ x7 ∧ x7 < 5 then if 0 ≤ x7 ∧ x7 < 5 then if 0 ≤ x7 ∧ x7 < 5 then (C 179 [jL ((j_up m 121 x7.toNat (m 118 x7.toNat)) 121 x7.toNat)] (hH L (j_up m 121 x7.toNat (m 118 x7.toNat)))).bind fun z => j_fin C 180 322 [some (jR 109), some (jR 115), some (jI x2), some (jI x3), some (jL y4), none, some (jI x6), some (jI x7), o8, none, o10, o11, none] (z.1.toList ++ [jI x6]) z.2 else none else none else none else if 0 ≤ x7 ∧ x7 < 5 then if 0 ≤ x3 ∧ x3 < 5 then if 0 ≤ (w32 ((w32 (5 * x2)) + x7)) ∧ (w32 ((w32 (5 * x2)) + x7)) < 100 then if m 115 13 = 0 then none else if 0 ≤ x7 ∧ x7 < 5 then if 0 ≤ x7 ∧ x7 < 5 then (C 179 [jL ((j_up m 121 x7.toNat (w64 (Int.tdiv (w64 ((w64 (y4 * (m 118 x7.toNat))) + (w64 ((m 118 x3.toNat) * (m 116 (w32 ((w32 (5 * x2)) + x7)).toNat))))) (m 115 13)))) 121 x7.toNat)] (hH L (j_up m 121 x7.toNat (w64 (Int.tdiv (w64 ((w64 (y4 * (m 118 x7.toNat))) + (w64 ((m 118 x3.toNat) * (m 116 (w32 ((w32 (5 * x2)) + x7)).toNat))))) (m 115 13)))))).bind fun z => j_fin C 180 322 [some (jR 109), some (jR 115), some (jI x2), some (jI x3), some (jL y4), none, some (jI x6), some (jI x7), o8, none, o10, o11, none] (z.1.toList ++ [jI x6]) z.2 else none else none else none else none else none else if x6 = 0 then some (some (jI 0), hH L m) else if 0 ≤ x3 ∧ x3 < 5 then if 0 ≤ x2 ∧ x2 < 20 then if m 115 13 = 0 then none else (C 179 [jL (w64 (Int.tdiv (w64 ((w64 (y4 * (m 115 12))) - (w64 ((m 118 x3.toNat) * (m 117 x2.toNat))))) (m 115 13)))] (hH L m)).bind fun z => j_fin C 180 365 [some (jR 109), some (jR 115), some (jI x2), some (jI x3), some (jL y4), none, some (jI x6), some (jI x7), o8, none, o10, o11, none] (z.1.toList ++ []) z.2 else none else none := by
  refine (S_iload rfl at_180_244).trans ?_
  refine (S_aload_n rfl at_180_246).trans ?_
  refine (H_get0 (ka_115 L _) rfl at_180_247).trans ?_
  refine (S_icmp_ge at_180_250).trans ?_
  refine ite_congr rfl (fun _ => ?_) (fun _ => ?_)
  · refine (S_aload_n rfl at_180_253).trans ?_
    refine (S_getR (ka_115 L _) rfl (f_115_5 L _) at_180_254).trans ?_
    refine (S_iload rfl at_180_257).trans ?_
    refine (S_iload rfl at_180_259).trans ?_
    refine (S_iload_n rfl at_180_261).trans ?_
    refine (S_icmp_ne at_180_262).trans ?_
    refine ite_congr rfl (fun _ => ?_) (fun _ => ?_)
    · refine (S_aload_n rfl at_180_265).trans ?_
      refine (S_getR (ka_115 L _) rfl (f_115_2 L _) at_180_266).trans ?_
      refine (S_iload rfl at_180_269).trans ?_
      refine (H_laload (ka_118 L _) at_180_271).trans ?_
      refine ite_congr rfl (fun hi => ?_) (fun _ => rfl)
      refine (S_goto at_180_272).trans ?_
      refine (H_lastore (by omega) (ka_121 L _) at_180_309).trans ?_
      refine ite_congr rfl (fun hi => ?_) (fun _ => rfl)
      refine (S_iload rfl at_180_310).trans ?_
      refine (S_aload_n rfl at_180_312).trans ?_
      refine (S_getR (ka_115 L _) rfl (f_115_5 L _) at_180_313).trans ?_
      refine (S_iload rfl at_180_316).trans ?_
      refine (H_laload (ka_121 L _) at_180_318).trans ?_
      refine ite_congr rfl (fun hi => ?_) (fun _ => rfl)
      refine (S_invs (by decide) (Nat.le_of_ble_eq_true rfl) (Nat.le_of_ble_eq_true rfl) at_180_319).trans ?_
      rfl
    · refine (S_lload rfl at_180_275).trans ?_
      refine (S_aload_n rfl at_180_277).trans ?_
      refine (S_getR (ka_115 L _) rfl (f_115_2 L _) at_180_278).trans ?_
      refine (S_iload rfl at_180_281).trans ?_
      refine (H_laload (ka_118 L _) at_180_283).trans ?_
      refine ite_congr rfl (fun hi => ?_) (fun _ => rfl)
      refine (S_lmul at_180_284).trans ?_
      refine (S_aload_n rfl at_180_285).trans ?_
      refine (S_getR (ka_115 L _) rfl (f_115_2 L _) at_180_286).trans ?_
      refine (S_iload_n rfl at_180_289).trans ?_
      refine (H_laload (ka_118 L _) at_180_290).trans ?_
      refine ite_congr rfl (fun hi => ?_) (fun _ => rfl)
      refine (S_aload_n rfl at_180_291).trans ?_
      refine (S_getR (ka_115 L _) rfl (f_115_0 L _) at_180_292).trans ?_
      refine (S_iconst at_180_295).trans ?_
      refine (S_iload_n rfl at_180_296).trans ?_
      refine (S_imul at_180_297).trans ?_
      refine (S_iload rfl at_180_298).trans ?_
      refine (S_iadd at_180_300).trans ?_
      refine (H_laload (ka_116 L _) at_180_301).trans ?_
      refine ite_congr rfl (fun hi => ?_) (fun _ => rfl)
      refine (S_lmul at_180_302).trans ?_
      refine (S_ladd at_180_303).trans ?_
      refine (S_aload_n rfl at_180_304).trans ?_
      refine (H_get1 (ka_115 L _) rfl at_180_305).trans ?_
      refine (S_ldiv at_180_308).trans ?_
      refine ite_congr rfl (fun _ => rfl) (fun hz => ?_)
      refine (H_lastore (by omega) (ka_121 L _) at_180_309).trans ?_
      refine ite_congr rfl (fun hi => ?_) (fun _ => rfl)
      refine (S_iload rfl at_180_310).trans ?_
      refine (S_aload_n rfl at_180_312).trans ?_
      refine (S_getR (ka_115 L _) rfl (f_115_5 L _) at_180_313).trans ?_
      refine (S_iload rfl at_180_316).trans ?_
      refine (H_laload (ka_121 L _) at_180_318).trans ?_
      refine ite_congr rfl (fun hi => ?_) (fun _ => rfl)
      refine (S_invs (by decide) (Nat.le_of_ble_eq_true rfl) (Nat.le_of_ble_eq_true rfl) at_180_319).trans ?_
      rfl
  · refine (S_iload rfl at_180_331).trans ?_
    refine (S_if_eq at_180_333).trans ?_
    refine ite_congr rfl (fun _ => ?_) (fun _ => ?_)
    · refine (S_iconst at_180_372).trans ?_
      exact (S_iretz rfl at_180_373).trans (if_pos (by decide))
    · refine (S_lload rfl at_180_336).trans ?_
      refine (S_aload_n rfl at_180_338).trans ?_
      refine (H_get1 (ka_115 L _) rfl at_180_339).trans ?_
      refine (S_lmul at_180_342).trans ?_
      refine (S_aload_n rfl at_180_343).trans ?_
      refine (S_getR (ka_115 L _) rfl (f_115_2 L _) at_180_344).trans ?_
      refine (S_iload_n rfl at_180_347).trans ?_
      refine (H_laload (ka_118 L _) at_180_348).trans ?_
      refine ite_congr rfl (fun hi => ?_) (fun _ => rfl)
      refine (S_aload_n rfl at_180_349).trans ?_
      refine (S_getR (ka_115 L _) rfl (f_115_1 L _) at_180_350).trans ?_
      refine (S_iload_n rfl at_180_353).trans ?_
      refine (H_laload (ka_117 L _) at_180_354).trans ?_
      refine ite_congr rfl (fun hi => ?_) (fun _ => rfl)
      refine (S_lmul at_180_355).trans ?_
      refine (S_lsub at_180_356).trans ?_
      refine (S_aload_n rfl at_180_357).trans ?_
      refine (H_get1 (ka_115 L _) rfl at_180_358).trans ?_
      refine (S_ldiv at_180_361).trans ?_
      refine ite_congr rfl (fun _ => rfl) (fun hz => ?_)
      refine (S_invs (by decide) (Nat.le_of_ble_eq_true rfl) (Nat.le_of_ble_eq_true rfl) at_180_362).trans ?_
      rfl
theorem T180_322_109_115 {C : Nat → List j_V → j_H → Option j_Z} {L : Nat} {m : j_M0} {x2 : Int} {x3 : Int} {y4 : Int} {x6 : Int} {x7 : Int} {o8 : Option j_V} {o10 : Option j_V} {o11 : Option j_V} {s0 : Int} {s1 : Int} : j_fin C 180 322 [some (jR 109), some (jR 115), some (jI x2), some (jI x3), some (jL y4), none, some (jI x6), some (jI x7), o8, none, o10, o11, none] [jI s1, jI s0] (hH L m) = j_fin C 180 244 [some (jR 109), some (jR 115), some (jI x2), some (jI x3), some (jL y4), none, some (jI (j_and s0 s1)), some (jI (w32 (x7 + 1))), o8, none, o10, o11, none] [] (hH L m) := by
  refine (S_iand at_180_322).trans ?_
  refine (S_istore (l1 := [some (jR 109), some (jR 115), some (jI x2), some (jI x3), some (jL y4), none, some (jI (j_and s0 s1)), some (jI x7), o8, none, o10, o11, none]) rfl at_180_323).trans ?_
  refine (S_iinc (l1 := [some (jR 109), some (jR 115), some (jI x2), some (jI x3), some (jL y4), none, some (jI (j_and s0 s1)), some (jI (w32 (x7 + 1))), o8, none, o10, o11, none]) rfl rfl at_180_325).trans ?_
  refine (S_goto at_180_328).trans ?_
  rfl
theorem T180_365_109_115 {C : Nat → List j_V → j_H → Option j_Z} {L : Nat} {m : j_M0} {x2 : Int} {x3 : Int} {y4 : Int} {x6 : Int} {x7 : Int} {o8 : Option j_V} {o10 : Option j_V} {o11 : Option j_V} {s0 : Int} : j_fin C 180 365 [some (jR 109), some (jR 115), some (jI x2), some (jI x3), some (jL y4), none, some (jI x6), some (jI x7), o8, none, o10, o11, none] [jI s0] (hH L m) = if s0 = 0 then some (some (jI 0), hH L m) else some (some (jI 1), hH L m) := by
  refine (S_if_eq at_180_365).trans ?_
  refine ite_congr rfl (fun _ => ?_) (fun _ => ?_)
  · refine (S_iconst at_180_372).trans ?_
    exact (S_iretz rfl at_180_373).trans (if_pos (by decide))
  · refine (S_iconst at_180_368).trans ?_
    refine (S_goto at_180_369).trans ?_
    exact (S_iretz rfl at_180_373).trans (if_pos (by decide))
theorem T180_0_109_128 {C : Nat → List j_V → j_H → Option j_Z} {L : Nat} {m : j_M0} {x2 : Int} {x3 : Int} : j_fin C 180 0 [some (jR 109), some (jR 128), some (jI x2), some (jI x3), none, none, none, none, none, none, none, none, none] [] (hH L m) = if 0 ≤ (w32 ((w32 (5 * x2)) + x3)) ∧ (w32 ((w32 (5 * x2)) + x3)) < 100 then (C 179 [jL (w64 (-(m 129 (w32 ((w32 (5 * x2)) + x3)).toNat)))] (hH L m)).bind fun z => j_fin C 180 18 [some (jR 109), some (jR 128), some (jI x2), some (jI x3), some (jL (w64 (-(m 129 (w32 ((w32 (5 * x2)) + x3)).toNat)))), none, none, none, none, none, none, none, none] (z.1.toList ++ []) z.2 else none := by
  refine (S_aload_n rfl at_180_0).trans ?_
  refine (S_getR (ka_128 L _) rfl (f_128_0 L _) at_180_1).trans ?_
  refine (S_iconst at_180_4).trans ?_
  refine (S_iload_n rfl at_180_5).trans ?_
  refine (S_imul at_180_6).trans ?_
  refine (S_iload_n rfl at_180_7).trans ?_
  refine (S_iadd at_180_8).trans ?_
  refine (H_laload (ka_129 L _) at_180_9).trans ?_
  refine ite_congr rfl (fun hi => ?_) (fun _ => rfl)
  refine (S_lneg at_180_10).trans ?_
  refine (S_lstore (l1 := [some (jR 109), some (jR 128), some (jI x2), some (jI x3), some (jL (w64 (-(m 129 (w32 ((w32 (5 * x2)) + x3)).toNat)))), none, none, none, none, none, none, none, none]) rfl at_180_11).trans ?_
  refine (S_lload rfl at_180_13).trans ?_
  refine (S_invs (by decide) (Nat.le_of_ble_eq_true rfl) (Nat.le_of_ble_eq_true rfl) at_180_15).trans ?_
  rfl
theorem T180_18_109_128 {C : Nat → List j_V → j_H → Option j_Z} {L : Nat} {m : j_M0} {x2 : Int} {x3 : Int} {y4 : Int} {s0 : Int} : j_fin C 180 18 [some (jR 109), some (jR 128), some (jI x2), some (jI x3), some (jL y4), none, none, none, none, none, none, none, none] [jI s0] (hH L m) = j_fin C 180 23 [some (jR 109), some (jR 128), some (jI x2), some (jI x3), some (jL y4), none, some (jI s0), some (jI 0), none, none, none, none, none] [] (hH L m) := by
  refine (S_istore (l1 := [some (jR 109), some (jR 128), some (jI x2), some (jI x3), some (jL y4), none, some (jI s0), none, none, none, none, none, none]) rfl at_180_18).trans ?_
  refine (S_iconst at_180_20).trans ?_
  refine (S_istore (l1 := [some (jR 109), some (jR 128), some (jI x2), some (jI x3), some (jL y4), none, some (jI s0), some (jI 0), none, none, none, none, none]) rfl at_180_21).trans ?_
  rfl
theorem T180_23_109_128 {C : Nat → List j_V → j_H → Option j_Z} {L : Nat} {m : j_M0} {x2 : Int} {x3 : Int} {y4 : Int} {x6 : Int} {x7 : Int} {o8 : Option j_V} {o10 : Option j_V} {o11 : Option j_V} : j_fin C 180 23 [some (jR 109), some (jR 128), some (jI x2), some (jI x3), some (jL y4), none, some (jI x6), some (jI x7), o8, none, o10, o11, none] [] (hH L m) = if x7 < (m 128 15) then if 0 ≤ (w32 ((w32 (5 * x7)) + x3)) ∧ (w32 ((w32 (5 * x7)) + x3)) < 100 then j_fin C 180 48 [some (jR 109), some (jR 128), some (jI x2), some (jI x3), some (jL y4), none, some (jI x6), some (jI x7), some (jL (m 129 (w32 ((w32 (5 * x7)) + x3)).toNat)), none, some (jI 0), o11, none] [] (hH L m) else none else j_fin C 180 244 [some (jR 109), some (jR 128), some (jI x2), some (jI x3), some (jL y4), none, some (jI x6), some (jI 0), o8, none, o10, o11, none] [] (hH L m) := by
  refine (S_iload rfl at_180_23).trans ?_
  refine (S_aload_n rfl at_180_25).trans ?_
  refine (H_get0 (ka_128 L _) rfl at_180_26).trans ?_
  refine (S_icmp_ge at_180_29).trans ?_
  refine ite_congr rfl (fun _ => ?_) (fun _ => ?_)
  · refine (S_aload_n rfl at_180_32).trans ?_
    refine (S_getR (ka_128 L _) rfl (f_128_0 L _) at_180_33).trans ?_
    refine (S_iconst at_180_36).trans ?_
    refine (S_iload rfl at_180_37).trans ?_
    refine (S_imul at_180_39).trans ?_
    refine (S_iload_n rfl at_180_40).trans ?_
    refine (S_iadd at_180_41).trans ?_
    refine (H_laload (ka_129 L _) at_180_42).trans ?_
    refine ite_congr rfl (fun hi => ?_) (fun _ => rfl)
    refine (S_lstore (l1 := [some (jR 109), some (jR 128), some (jI x2), some (jI x3), some (jL y4), none, some (jI x6), some (jI x7), some (jL (m 129 (w32 ((w32 (5 * x7)) + x3)).toNat)), none, o10, o11, none]) rfl at_180_43).trans ?_
    refine (S_iconst at_180_45).trans ?_
    refine (S_istore (l1 := [some (jR 109), some (jR 128), some (jI x2), some (jI x3), some (jL y4), none, some (jI x6), some (jI x7), some (jL (m 129 (w32 ((w32 (5 * x7)) + x3)).toNat)), none, some (jI 0), o11, none]) rfl at_180_46).trans ?_
    rfl
  · refine (S_iconst at_180_241).trans ?_
    refine (S_istore (l1 := [some (jR 109), some (jR 128), some (jI x2), some (jI x3), some (jL y4), none, some (jI x6), some (jI 0), o8, none, o10, o11, none]) rfl at_180_242).trans ?_
    rfl
theorem T180_48_109_128 {C : Nat → List j_V → j_H → Option j_Z} {L : Nat} {m : j_M0} {x2 : Int} {x3 : Int} {y4 : Int} {x6 : Int} {x7 : Int} {y8 : Int} {x10 : Int} {o11 : Option j_V} : j_fin C 180 48 [some (jR 109), some (jR 128), some (jI x2), some (jI x3), some (jL y4), none, some (jI x6), some (jI x7), some (jL y8), none, some (jI x10), o11, none] [] (hH L m) = if x10 < (m 128 14) then if x7 = x2 then if x10 = x3 then if 0 ≤ (w32 ((w32 (5 * x7)) + x10)) ∧ (w32 ((w32 (5 * x7)) + x10)) < 100 then (C 179 [jL (w64 (-(m 128 13)))] (hH L (j_up m 132 (w32 ((w32 (5 * x7)) + x10)).toNat (w64 (-(m 128 13)))))).bind fun z => j_fin C 180 162 [some (jR 109), some (jR 128), some (jI x2), some (jI x3), some (jL y4), none, some (jI x6), some (jI x7), some (jL y8), none, some (jI x10), some (jL (w64 (-(m 128 13)))), none] (z.1.toList ++ [jI x6]) z.2 else none else if 0 ≤ (w32 ((w32 (5 * x7)) + x10)) ∧ (w32 ((w32 (5 * x7)) + x10)) < 100 then if 0 ≤ (w32 ((w32 (5 * x7)) + x10)) ∧ (w32 ((w32 (5 * x7)) + x10)) < 100 then (C 179 [jL (w64 (-(m 129 (w32 ((w32 (5 * x7)) + x10)).toNat)))] (hH L (j_up m 132 (w32 ((w32 (5 * x7)) + x10)).toNat (w64 (-(m 129 (w32 ((w32 (5 * x7)) + x10)).toNat)))))).bind fun z => j_fin C 180 162 [some (jR 109), some (jR 128), some (jI x2), some (jI x3), some (jL y4), none, some (jI x6), some (jI x7), some (jL y8), none, some (jI x10), some (jL (w64 (-(m 129 (w32 ((w32 (5 * x7)) + x10)).toNat)))), none] (z.1.toList ++ [jI x6]) z.2 else none else none else if x10 = x3 then if 0 ≤ (w32 ((w32 (5 * x7)) + x10)) ∧ (w32 ((w32 (5 * x7)) + x10)) < 100 then (C 179 [jL y8] (hH L (j_up m 132 (w32 ((w32 (5 * x7)) + x10)).toNat y8))).bind fun z => j_fin C 180 162 [some (jR 109), some (jR 128), some (jI x2), some (jI x3), some (jL y4), none, some (jI x6), some (jI x7), some (jL y8), none, some (jI x10), some (jL y8), none] (z.1.toList ++ [jI x6]) z.2 else none else if 0 ≤ (w32 ((w32 (5 * x7)) + x10)) ∧ (w32 ((w32 (5 * x7)) + x10)) < 100 then if 0 ≤ (w32 ((w32 (5 * x2)) + x10)) ∧ (w32 ((w32 (5 * x2)) + x10)) < 100 then if m 128 13 = 0 then none else if 0 ≤ (w32 ((w32 (5 * x7)) + x10)) ∧ (w32 ((w32 (5 * x7)) + x10)) < 100 then (C 179 [jL (w64 (Int.tdiv (w64 ((w64 (y4 * (m 129 (w32 ((w32 (5 * x7)) + x10)).toNat))) + (w64 (y8 * (m 129 (w32 ((w32 (5 * x2)) + x10)).toNat))))) (m 128 13)))] (hH L (j_up m 132 (w32 ((w32 (5 * x7)) + x10)).toNat (w64 (Int.tdiv (w64 ((w64 (y4 * (m 129 (w32 ((w32 (5 * x7)) + x10)).toNat))) + (w64 (y8 * (m 129 (w32 ((w32 (5 * x2)) + x10)).toNat))))) (m 128 13)))))).bind fun z => j_fin C 180 162 [some (jR 109), some (jR 128), some (jI x2), some (jI x3), some (jL y4), none, some (jI x6), some (jI x7), some (jL y8), none, some (jI x10), some (jL (w64 (Int.tdiv (w64 ((w64 (y4 * (m 129 (w32 ((w32 (5 * x7)) + x10)).toNat))) + (w64 (y8 * (m 129 (w32 ((w32 (5 * x2)) + x10)).toNat))))) (m 128 13)))), none] (z.1.toList ++ [jI x6]) z.2 else none else none else none else if x7 = x2 then if 0 ≤ x7 ∧ x7 < 20 then if 0 ≤ x7 ∧ x7 < 20 then if 0 ≤ x7 ∧ x7 < 20 then (C 179 [jL ((j_up m 133 x7.toNat (w64 (-(m 130 x7.toNat)))) 133 x7.toNat)] (hH L (j_up m 133 x7.toNat (w64 (-(m 130 x7.toNat)))))).bind fun z => j_fin C 180 232 [some (jR 109), some (jR 128), some (jI x2), some (jI x3), some (jL y4), none, some (jI x6), some (jI x7), some (jL y8), none, some (jI x10), o11, none] (z.1.toList ++ [jI x6]) z.2 else none else none else none else if 0 ≤ x7 ∧ x7 < 20 then if 0 ≤ x2 ∧ x2 < 20 then if m 128 13 = 0 then none else if 0 ≤ x7 ∧ x7 < 20 then if 0 ≤ x7 ∧ x7 < 20 then (C 179 [jL ((j_up m 133 x7.toNat (w64 (Int.tdiv (w64 ((w64 (y4 * (m 130 x7.toNat))) + (w64 (y8 * (m 130 x2.toNat))))) (m 128 13)))) 133 x7.toNat)] (hH L (j_up m 133 x7.toNat (w64 (Int.tdiv (w64 ((w64 (y4 * (m 130 x7.toNat))) + (w64 (y8 * (m 130 x2.toNat))))) (m 128 13)))))).bind fun z => j_fin C 180 232 [some (jR 109), some (jR 128), some (jI x2), some (jI x3), some (jL y4), none, some (jI x6), some (jI x7), some (jL y8), none, some (jI x10), o11, none] (z.1.toList ++ [jI x6]) z.2 else none else none else none else none := by
  refine (S_iload rfl at_180_48).trans ?_
  refine (S_aload_n rfl at_180_50).trans ?_
  refine (H_get0 (ka_128 L _) rfl at_180_51).trans ?_
  refine (S_icmp_ge at_180_54).trans ?_
  refine ite_congr rfl (fun _ => ?_) (fun _ => ?_)
  · refine (S_iload rfl at_180_57).trans ?_
    refine (S_iload_n rfl at_180_59).trans ?_
    refine (S_icmp_ne at_180_60).trans ?_
    refine ite_congr rfl (fun _ => ?_) (fun _ => ?_)
    · refine (S_iload rfl at_180_63).trans ?_
      refine (S_iload_n rfl at_180_65).trans ?_
      refine (S_icmp_ne at_180_66).trans ?_
      refine ite_congr rfl (fun _ => ?_) (fun _ => ?_)
      · refine (S_aload_n rfl at_180_69).trans ?_
        refine (H_get1 (ka_128 L _) rfl at_180_70).trans ?_
        refine (S_lneg at_180_73).trans ?_
        refine (S_goto at_180_74).trans ?_
        refine (S_lstore (l1 := [some (jR 109), some (jR 128), some (jI x2), some (jI x3), some (jL y4), none, some (jI x6), some (jI x7), some (jL y8), none, some (jI x10), some (jL (w64 (-(m 128 13)))), none]) rfl at_180_139).trans ?_
        refine (S_aload_n rfl at_180_141).trans ?_
        refine (S_getR (ka_128 L _) rfl (f_128_3 L _) at_180_142).trans ?_
        refine (S_iconst at_180_145).trans ?_
        refine (S_iload rfl at_180_146).trans ?_
        refine (S_imul at_180_148).trans ?_
        refine (S_iload rfl at_180_149).trans ?_
        refine (S_iadd at_180_151).trans ?_
        refine (S_lload rfl at_180_152).trans ?_
        refine (H_lastore (by omega) (ka_132 L _) at_180_154).trans ?_
        refine ite_congr rfl (fun hi => ?_) (fun _ => rfl)
        refine (S_iload rfl at_180_155).trans ?_
        refine (S_lload rfl at_180_157).trans ?_
        refine (S_invs (by decide) (Nat.le_of_ble_eq_true rfl) (Nat.le_of_ble_eq_true rfl) at_180_159).trans ?_
        rfl
      · refine (S_aload_n rfl at_180_77).trans ?_
        refine (S_getR (ka_128 L _) rfl (f_128_0 L _) at_180_78).trans ?_
        refine (S_iconst at_180_81).trans ?_
        refine (S_iload rfl at_180_82).trans ?_
        refine (S_imul at_180_84).trans ?_
        refine (S_iload rfl at_180_85).trans ?_
        refine (S_iadd at_180_87).trans ?_
        refine (H_laload (ka_129 L _) at_180_88).trans ?_
        refine ite_congr rfl (fun hi => ?_) (fun _ => rfl)
        refine (S_lneg at_180_89).trans ?_
        refine (S_goto at_180_90).trans ?_
        refine (S_lstore (l1 := [some (jR 109), some (jR 128), some (jI x2), some (jI x3), some (jL y4), none, some (jI x6), some (jI x7), some (jL y8), none, some (jI x10), some (jL (w64 (-(m 129 (w32 ((w32 (5 * x7)) + x10)).toNat)))), none]) rfl at_180_139).trans ?_
        refine (S_aload_n rfl at_180_141).trans ?_
        refine (S_getR (ka_128 L _) rfl (f_128_3 L _) at_180_142).trans ?_
        refine (S_iconst at_180_145).trans ?_
        refine (S_iload rfl at_180_146).trans ?_
        refine (S_imul at_180_148).trans ?_
        refine (S_iload rfl at_180_149).trans ?_
        refine (S_iadd at_180_151).trans ?_
        refine (S_lload rfl at_180_152).trans ?_
        refine (H_lastore (by omega) (ka_132 L _) at_180_154).trans ?_
        refine ite_congr rfl (fun hi => ?_) (fun _ => rfl)
        refine (S_iload rfl at_180_155).trans ?_
        refine (S_lload rfl at_180_157).trans ?_
        refine (S_invs (by decide) (Nat.le_of_ble_eq_true rfl) (Nat.le_of_ble_eq_true rfl) at_180_159).trans ?_
        rfl
    · refine (S_iload rfl at_180_93).trans ?_
      refine (S_iload_n rfl at_180_95).trans ?_
      refine (S_icmp_ne at_180_96).trans ?_
      refine ite_congr rfl (fun _ => ?_) (fun _ => ?_)
      · refine (S_lload rfl at_180_99).trans ?_
        refine (S_goto at_180_101).trans ?_
        refine (S_lstore (l1 := [some (jR 109), some (jR 128), some (jI x2), some (jI x3), some (jL y4), none, some (jI x6), some (jI x7), some (jL y8), none, some (jI x10), some (jL y8), none]) rfl at_180_139).trans ?_
        refine (S_aload_n rfl at_180_141).trans ?_
        refine (S_getR (ka_128 L _) rfl (f_128_3 L _) at_180_142).trans ?_
        refine (S_iconst at_180_145).trans ?_
        refine (S_iload rfl at_180_146).trans ?_
        refine (S_imul at_180_148).trans ?_
        refine (S_iload rfl at_180_149).trans ?_
        refine (S_iadd at_180_151).trans ?_
        refine (S_lload rfl at_180_152).trans ?_
        refine (H_lastore (by omega) (ka_132 L _) at_180_154).trans ?_
        refine ite_congr rfl (fun hi => ?_) (fun _ => rfl)
        refine (S_iload rfl at_180_155).trans ?_
        refine (S_lload rfl at_180_157).trans ?_
        refine (S_invs (by decide) (Nat.le_of_ble_eq_true rfl) (Nat.le_of_ble_eq_true rfl) at_180_159).trans ?_
        rfl
      · refine (S_lload rfl at_180_104).trans ?_
        refine (S_aload_n rfl at_180_106).trans ?_
        refine (S_getR (ka_128 L _) rfl (f_128_0 L _) at_180_107).trans ?_
        refine (S_iconst at_180_110).trans ?_
        refine (S_iload rfl at_180_111).trans ?_
        refine (S_imul at_180_113).trans ?_
        refine (S_iload rfl at_180_114).trans ?_
        refine (S_iadd at_180_116).trans ?_
        refine (H_laload (ka_129 L _) at_180_117).trans ?_
        refine ite_congr rfl (fun hi => ?_) (fun _ => rfl)
        refine (S_lmul at_180_118).trans ?_
        refine (S_lload rfl at_180_119).trans ?_
        refine (S_aload_n rfl at_180_121).trans ?_
        refine (S_getR (ka_128 L _) rfl (f_128_0 L _) at_180_122).trans ?_
        refine (S_iconst at_180_125).trans ?_
        refine (S_iload_n rfl at_180_126).trans ?_
        refine (S_imul at_180_127).trans ?_
        refine (S_iload rfl at_180_128).trans ?_
        refine (S_iadd at_180_130).trans ?_
        refine (H_laload (ka_129 L _) at_180_131).trans ?_
        refine ite_congr rfl (fun hi => ?_) (fun _ => rfl)
        refine (S_lmul at_180_132).trans ?_
        refine (S_ladd at_180_133).trans ?_
        refine (S_aload_n rfl at_180_134).trans ?_
        refine (H_get1 (ka_128 L _) rfl at_180_135).trans ?_
        refine (S_ldiv at_180_138).trans ?_
        refine ite_congr rfl (fun _ => rfl) (fun hz => ?_)
        refine (S_lstore (l1 := [some (jR 109), some (jR 128), some (jI x2), some (jI x3), some (jL y4), none, some (jI x6), some (jI x7), some (jL y8), none, some (jI x10), some (jL (w64 (Int.tdiv (w64 ((w64 (y4 * (m 129 (w32 ((w32 (5 * x7)) + x10)).toNat))) + (w64 (y8 * (m 129 (w32 ((w32 (5 * x2)) + x10)).toNat))))) (m 128 13)))), none]) rfl at_180_139).trans ?_
        refine (S_aload_n rfl at_180_141).trans ?_
        refine (S_getR (ka_128 L _) rfl (f_128_3 L _) at_180_142).trans ?_
        refine (S_iconst at_180_145).trans ?_
        refine (S_iload rfl at_180_146).trans ?_
        refine (S_imul at_180_148).trans ?_
        refine (S_iload rfl at_180_149).trans ?_
        refine (S_iadd at_180_151).trans ?_
        refine (S_lload rfl at_180_152).trans ?_
        refine (H_lastore (by omega) (ka_132 L _) at_180_154).trans ?_
        refine ite_congr rfl (fun hi => ?_) (fun _ => rfl)
        refine (S_iload rfl at_180_155).trans ?_
        refine (S_lload rfl at_180_157).trans ?_
        refine (S_invs (by decide) (Nat.le_of_ble_eq_true rfl) (Nat.le_of_ble_eq_true rfl) at_180_159).trans ?_
        rfl
  · refine (S_aload_n rfl at_180_171).trans ?_
    refine (S_getR (ka_128 L _) rfl (f_128_4 L _) at_180_172).trans ?_
    refine (S_iload rfl at_180_175).trans ?_
    refine (S_iload rfl at_180_177).trans ?_
    refine (S_iload_n rfl at_180_179).trans ?_
    refine (S_icmp_ne at_180_180).trans ?_
    refine ite_congr rfl (fun _ => ?_) (fun _ => ?_)
    · refine (S_aload_n rfl at_180_183).trans ?_
      refine (S_getR (ka_128 L _) rfl (f_128_1 L _) at_180_184).trans ?_
      refine (S_iload rfl at_180_187).trans ?_
      refine (H_laload (ka_130 L _) at_180_189).trans ?_
      refine ite_congr rfl (fun hi => ?_) (fun _ => rfl)
      refine (S_lneg at_180_190).trans ?_
      refine (S_goto at_180_191).trans ?_
      refine (H_lastore (by omega) (ka_133 L _) at_180_219).trans ?_
      refine ite_congr rfl (fun hi => ?_) (fun _ => rfl)
      refine (S_iload rfl at_180_220).trans ?_
      refine (S_aload_n rfl at_180_222).trans ?_
      refine (S_getR (ka_128 L _) rfl (f_128_4 L _) at_180_223).trans ?_
      refine (S_iload rfl at_180_226).trans ?_
      refine (H_laload (ka_133 L _) at_180_228).trans ?_
      refine ite_congr rfl (fun hi => ?_) (fun _ => rfl)
      refine (S_invs (by decide) (Nat.le_of_ble_eq_true rfl) (Nat.le_of_ble_eq_true rfl) at_180_229).trans ?_
      rfl
    · refine (S_lload rfl at_180_194).trans ?_
      refine (S_aload_n rfl at_180_196).trans ?_
      refine (S_getR (ka_128 L _) rfl (f_128_1 L _) at_180_197).trans ?_
      refine (S_iload rfl at_180_200).trans ?_
      refine (H_laload (ka_130 L _) at_180_202).trans ?_
      refine ite_congr rfl (fun hi => ?_) (fun _ => rfl)
      refine (S_lmul at_180_203).trans ?_
      refine (S_lload rfl at_180_204).trans ?_
      refine (S_aload_n rfl at_180_206).trans ?_
      refine (S_getR (ka_128 L _) rfl (f_128_1 L _) at_180_207).trans ?_
      refine (S_iload_n rfl at_180_210).trans ?_
      refine (H_laload (ka_130 L _) at_180_211).trans ?_
      refine ite_congr rfl (fun hi => ?_) (fun _ => rfl)
      refine (S_lmul at_180_212).trans ?_
      refine (S_ladd at_180_213).trans ?_
      refine (S_aload_n rfl at_180_214).trans ?_
      refine (H_get1 (ka_128 L _) rfl at_180_215).trans ?_
      refine (S_ldiv at_180_218).trans ?_
      refine ite_congr rfl (fun _ => rfl) (fun hz => ?_)
      refine (H_lastore (by omega) (ka_133 L _) at_180_219).trans ?_
      refine ite_congr rfl (fun hi => ?_) (fun _ => rfl)
      refine (S_iload rfl at_180_220).trans ?_
      refine (S_aload_n rfl at_180_222).trans ?_
      refine (S_getR (ka_128 L _) rfl (f_128_4 L _) at_180_223).trans ?_
      refine (S_iload rfl at_180_226).trans ?_
      refine (H_laload (ka_133 L _) at_180_228).trans ?_
      refine ite_congr rfl (fun hi => ?_) (fun _ => rfl)
      refine (S_invs (by decide) (Nat.le_of_ble_eq_true rfl) (Nat.le_of_ble_eq_true rfl) at_180_229).trans ?_
      rfl
theorem T180_162_109_128 {C : Nat → List j_V → j_H → Option j_Z} {L : Nat} {m : j_M0} {x2 : Int} {x3 : Int} {y4 : Int} {x6 : Int} {x7 : Int} {y8 : Int} {x10 : Int} {y11 : Int} {s0 : Int} {s1 : Int} : j_fin C 180 162 [some (jR 109), some (jR 128), some (jI x2), some (jI x3), some (jL y4), none, some (jI x6), some (jI x7), some (jL y8), none, some (jI x10), some (jL y11), none] [jI s1, jI s0] (hH L m) = j_fin C 180 48 [some (jR 109), some (jR 128), some (jI x2), some (jI x3), some (jL y4), none, some (jI (j_and s0 s1)), some (jI x7), some (jL y8), none, some (jI (w32 (x10 + 1))), some (jL y11), none] [] (hH L m) := by
  refine (S_iand at_180_162).trans ?_
  refine (S_istore (l1 := [some (jR 109), some (jR 128), some (jI x2), some (jI x3), some (jL y4), none, some (jI (j_and s0 s1)), some (jI x7), some (jL y8), none, some (jI x10), some (jL y11), none]) rfl at_180_163).trans ?_
  refine (S_iinc (l1 := [some (jR 109), some (jR 128), some (jI x2), some (jI x3), some (jL y4), none, some (jI (j_and s0 s1)), some (jI x7), some (jL y8), none, some (jI (w32 (x10 + 1))), some (jL y11), none]) rfl rfl at_180_165).trans ?_
  refine (S_goto at_180_168).trans ?_
  rfl
theorem T180_232_109_128 {C : Nat → List j_V → j_H → Option j_Z} {L : Nat} {m : j_M0} {x2 : Int} {x3 : Int} {y4 : Int} {x6 : Int} {x7 : Int} {y8 : Int} {x10 : Int} {o11 : Option j_V} {s0 : Int} {s1 : Int} : j_fin C 180 232 [some (jR 109), some (jR 128), some (jI x2), some (jI x3), some (jL y4), none, some (jI x6), some (jI x7), some (jL y8), none, some (jI x10), o11, none] [jI s1, jI s0] (hH L m) = j_fin C 180 23 [some (jR 109), some (jR 128), some (jI x2), some (jI x3), some (jL y4), none, some (jI (j_and s0 s1)), some (jI (w32 (x7 + 1))), some (jL y8), none, some (jI x10), o11, none] [] (hH L m) := by
  refine (S_iand at_180_232).trans ?_
  refine (S_istore (l1 := [some (jR 109), some (jR 128), some (jI x2), some (jI x3), some (jL y4), none, some (jI (j_and s0 s1)), some (jI x7), some (jL y8), none, some (jI x10), o11, none]) rfl at_180_233).trans ?_
  refine (S_iinc (l1 := [some (jR 109), some (jR 128), some (jI x2), some (jI x3), some (jL y4), none, some (jI (j_and s0 s1)), some (jI (w32 (x7 + 1))), some (jL y8), none, some (jI x10), o11, none]) rfl rfl at_180_235).trans ?_
  refine (S_goto at_180_238).trans ?_
  rfl
theorem T180_244_109_128 {C : Nat → List j_V → j_H → Option j_Z} {L : Nat} {m : j_M0} {x2 : Int} {x3 : Int} {y4 : Int} {x6 : Int} {x7 : Int} {o8 : Option j_V} {o10 : Option j_V} {o11 : Option j_V} : j_fin C 180 244 [some (jR 109), some (jR 128), some (jI x2), some (jI x3), some (jL y4), none, some (jI x6), some (jI x7), o8, none, o10, o11, none] [] (hH L m) = if x7 < (m 128 14) then if x7 = x3 then if 0 ≤ x7 ∧ x7 < 5 then if 0 ≤ x7 ∧ x7 < 5 then if 0 ≤ x7 ∧ x7 < 5 then (C 179 [jL ((j_up m 134 x7.toNat (m 131 x7.toNat)) 134 x7.toNat)] (hH L (j_up m 134 x7.toNat (m 131 x7.toNat)))).bind fun z => j_fin C 180 322 [some (jR 109), some (jR 128), some (jI x2), some (jI x3), some (jL y4), none, some (jI x6), some (jI x7), o8, none, o10, o11, none] (z.1.toList ++ [jI x6]) z.2 else none else none else none else if 0 ≤ x7 ∧ x7 < 5 then if 0 ≤ x3 ∧ x3 < 5 then if 0 ≤ (w32 ((w32 (5 * x2)) + x7)) ∧ (w32 ((w32 (5 * x2)) + x7)) < 100 then if m 128 13 = 0 then none else if 0 ≤ x7 ∧ x7 < 5 then if 0 ≤ x7 ∧ x7 < 5 then (C 179 [jL ((j_up m 134 x7.toNat (w64 (Int.tdiv (w64 ((w64 (y4 * (m 131 x7.toNat))) + (w64 ((m 131 x3.toNat) * (m 129 (w32 ((w32 (5 * x2)) + x7)).toNat))))) (m 128 13)))) 134 x7.toNat)] (hH L (j_up m 134 x7.toNat (w64 (Int.tdiv (w64 ((w64 (y4 * (m 131 x7.toNat))) + (w64 ((m 131 x3.toNat) * (m 129 (w32 ((w32 (5 * x2)) + x7)).toNat))))) (m 128 13)))))).bind fun z => j_fin C 180 322 [some (jR 109), some (jR 128), some (jI x2), some (jI x3), some (jL y4), none, some (jI x6), some (jI x7), o8, none, o10, o11, none] (z.1.toList ++ [jI x6]) z.2 else none else none else none else none else none else if x6 = 0 then some (some (jI 0), hH L m) else if 0 ≤ x3 ∧ x3 < 5 then if 0 ≤ x2 ∧ x2 < 20 then if m 128 13 = 0 then none else (C 179 [jL (w64 (Int.tdiv (w64 ((w64 (y4 * (m 128 12))) - (w64 ((m 131 x3.toNat) * (m 130 x2.toNat))))) (m 128 13)))] (hH L m)).bind fun z => j_fin C 180 365 [some (jR 109), some (jR 128), some (jI x2), some (jI x3), some (jL y4), none, some (jI x6), some (jI x7), o8, none, o10, o11, none] (z.1.toList ++ []) z.2 else none else none := by
  refine (S_iload rfl at_180_244).trans ?_
  refine (S_aload_n rfl at_180_246).trans ?_
  refine (H_get0 (ka_128 L _) rfl at_180_247).trans ?_
  refine (S_icmp_ge at_180_250).trans ?_
  refine ite_congr rfl (fun _ => ?_) (fun _ => ?_)
  · refine (S_aload_n rfl at_180_253).trans ?_
    refine (S_getR (ka_128 L _) rfl (f_128_5 L _) at_180_254).trans ?_
    refine (S_iload rfl at_180_257).trans ?_
    refine (S_iload rfl at_180_259).trans ?_
    refine (S_iload_n rfl at_180_261).trans ?_
    refine (S_icmp_ne at_180_262).trans ?_
    refine ite_congr rfl (fun _ => ?_) (fun _ => ?_)
    · refine (S_aload_n rfl at_180_265).trans ?_
      refine (S_getR (ka_128 L _) rfl (f_128_2 L _) at_180_266).trans ?_
      refine (S_iload rfl at_180_269).trans ?_
      refine (H_laload (ka_131 L _) at_180_271).trans ?_
      refine ite_congr rfl (fun hi => ?_) (fun _ => rfl)
      refine (S_goto at_180_272).trans ?_
      refine (H_lastore (by omega) (ka_134 L _) at_180_309).trans ?_
      refine ite_congr rfl (fun hi => ?_) (fun _ => rfl)
      refine (S_iload rfl at_180_310).trans ?_
      refine (S_aload_n rfl at_180_312).trans ?_
      refine (S_getR (ka_128 L _) rfl (f_128_5 L _) at_180_313).trans ?_
      refine (S_iload rfl at_180_316).trans ?_
      refine (H_laload (ka_134 L _) at_180_318).trans ?_
      refine ite_congr rfl (fun hi => ?_) (fun _ => rfl)
      refine (S_invs (by decide) (Nat.le_of_ble_eq_true rfl) (Nat.le_of_ble_eq_true rfl) at_180_319).trans ?_
      rfl
    · refine (S_lload rfl at_180_275).trans ?_
      refine (S_aload_n rfl at_180_277).trans ?_
      refine (S_getR (ka_128 L _) rfl (f_128_2 L _) at_180_278).trans ?_
      refine (S_iload rfl at_180_281).trans ?_
      refine (H_laload (ka_131 L _) at_180_283).trans ?_
      refine ite_congr rfl (fun hi => ?_) (fun _ => rfl)
      refine (S_lmul at_180_284).trans ?_
      refine (S_aload_n rfl at_180_285).trans ?_
      refine (S_getR (ka_128 L _) rfl (f_128_2 L _) at_180_286).trans ?_
      refine (S_iload_n rfl at_180_289).trans ?_
      refine (H_laload (ka_131 L _) at_180_290).trans ?_
      refine ite_congr rfl (fun hi => ?_) (fun _ => rfl)
      refine (S_aload_n rfl at_180_291).trans ?_
      refine (S_getR (ka_128 L _) rfl (f_128_0 L _) at_180_292).trans ?_
      refine (S_iconst at_180_295).trans ?_
      refine (S_iload_n rfl at_180_296).trans ?_
      refine (S_imul at_180_297).trans ?_
      refine (S_iload rfl at_180_298).trans ?_
      refine (S_iadd at_180_300).trans ?_
      refine (H_laload (ka_129 L _) at_180_301).trans ?_
      refine ite_congr rfl (fun hi => ?_) (fun _ => rfl)
      refine (S_lmul at_180_302).trans ?_
      refine (S_ladd at_180_303).trans ?_
      refine (S_aload_n rfl at_180_304).trans ?_
      refine (H_get1 (ka_128 L _) rfl at_180_305).trans ?_
      refine (S_ldiv at_180_308).trans ?_
      refine ite_congr rfl (fun _ => rfl) (fun hz => ?_)
      refine (H_lastore (by omega) (ka_134 L _) at_180_309).trans ?_
      refine ite_congr rfl (fun hi => ?_) (fun _ => rfl)
      refine (S_iload rfl at_180_310).trans ?_
      refine (S_aload_n rfl at_180_312).trans ?_
      refine (S_getR (ka_128 L _) rfl (f_128_5 L _) at_180_313).trans ?_
      refine (S_iload rfl at_180_316).trans ?_
      refine (H_laload (ka_134 L _) at_180_318).trans ?_
      refine ite_congr rfl (fun hi => ?_) (fun _ => rfl)
      refine (S_invs (by decide) (Nat.le_of_ble_eq_true rfl) (Nat.le_of_ble_eq_true rfl) at_180_319).trans ?_
      rfl
  · refine (S_iload rfl at_180_331).trans ?_
    refine (S_if_eq at_180_333).trans ?_
    refine ite_congr rfl (fun _ => ?_) (fun _ => ?_)
    · refine (S_iconst at_180_372).trans ?_
      exact (S_iretz rfl at_180_373).trans (if_pos (by decide))
    · refine (S_lload rfl at_180_336).trans ?_
      refine (S_aload_n rfl at_180_338).trans ?_
      refine (H_get1 (ka_128 L _) rfl at_180_339).trans ?_
      refine (S_lmul at_180_342).trans ?_
      refine (S_aload_n rfl at_180_343).trans ?_
      refine (S_getR (ka_128 L _) rfl (f_128_2 L _) at_180_344).trans ?_
      refine (S_iload_n rfl at_180_347).trans ?_
      refine (H_laload (ka_131 L _) at_180_348).trans ?_
      refine ite_congr rfl (fun hi => ?_) (fun _ => rfl)
      refine (S_aload_n rfl at_180_349).trans ?_
      refine (S_getR (ka_128 L _) rfl (f_128_1 L _) at_180_350).trans ?_
      refine (S_iload_n rfl at_180_353).trans ?_
      refine (H_laload (ka_130 L _) at_180_354).trans ?_
      refine ite_congr rfl (fun hi => ?_) (fun _ => rfl)
      refine (S_lmul at_180_355).trans ?_
      refine (S_lsub at_180_356).trans ?_
      refine (S_aload_n rfl at_180_357).trans ?_
      refine (H_get1 (ka_128 L _) rfl at_180_358).trans ?_
      refine (S_ldiv at_180_361).trans ?_
      refine ite_congr rfl (fun _ => rfl) (fun hz => ?_)
      refine (S_invs (by decide) (Nat.le_of_ble_eq_true rfl) (Nat.le_of_ble_eq_true rfl) at_180_362).trans ?_
      rfl
theorem T180_322_109_128 {C : Nat → List j_V → j_H → Option j_Z} {L : Nat} {m : j_M0} {x2 : Int} {x3 : Int} {y4 : Int} {x6 : Int} {x7 : Int} {o8 : Option j_V} {o10 : Option j_V} {o11 : Option j_V} {s0 : Int} {s1 : Int} : j_fin C 180 322 [some (jR 109), some (jR 128), some (jI x2), some (jI x3), some (jL y4), none, some (jI x6), some (jI x7), o8, none, o10, o11, none] [jI s1, jI s0] (hH L m) = j_fin C 180 244 [some (jR 109), some (jR 128), some (jI x2), some (jI x3), some (jL y4), none, some (jI (j_and s0 s1)), some (jI (w32 (x7 + 1))), o8, none, o10, o11, none] [] (hH L m) := by
  refine (S_iand at_180_322).trans ?_
  refine (S_istore (l1 := [some (jR 109), some (jR 128), some (jI x2), some (jI x3), some (jL y4), none, some (jI (j_and s0 s1)), some (jI x7), o8, none, o10, o11, none]) rfl at_180_323).trans ?_
  refine (S_iinc (l1 := [some (jR 109), some (jR 128), some (jI x2), some (jI x3), some (jL y4), none, some (jI (j_and s0 s1)), some (jI (w32 (x7 + 1))), o8, none, o10, o11, none]) rfl rfl at_180_325).trans ?_
  refine (S_goto at_180_328).trans ?_
  rfl
theorem T180_365_109_128 {C : Nat → List j_V → j_H → Option j_Z} {L : Nat} {m : j_M0} {x2 : Int} {x3 : Int} {y4 : Int} {x6 : Int} {x7 : Int} {o8 : Option j_V} {o10 : Option j_V} {o11 : Option j_V} {s0 : Int} : j_fin C 180 365 [some (jR 109), some (jR 128), some (jI x2), some (jI x3), some (jL y4), none, some (jI x6), some (jI x7), o8, none, o10, o11, none] [jI s0] (hH L m) = if s0 = 0 then some (some (jI 0), hH L m) else some (some (jI 1), hH L m) := by
  refine (S_if_eq at_180_365).trans ?_
  refine ite_congr rfl (fun _ => ?_) (fun _ => ?_)
  · refine (S_iconst at_180_372).trans ?_
    exact (S_iretz rfl at_180_373).trans (if_pos (by decide))
  · refine (S_iconst at_180_368).trans ?_
    refine (S_goto at_180_369).trans ?_
    exact (S_iretz rfl at_180_373).trans (if_pos (by decide))
theorem T181_0_109_115 {C : Nat → List j_V → j_H → Option j_Z} {L : Nat} {m : j_M0} {x2 : Int} {x3 : Int} : j_fin C 181 0 [some (jR 109), some (jR 115), some (jI x2), some (jI x3), none, none, none] [] (hH L m) = (C 180 [jR 109, jR 115, jI x2, jI x3] (hH L m)).bind fun z => j_fin C 181 7 [some (jR 109), some (jR 115), some (jI x2), some (jI x3), none, none, none] (z.1.toList ++ []) z.2 := by
  refine (S_aload_n rfl at_181_0).trans ?_
  refine (S_aload_n rfl at_181_1).trans ?_
  refine (S_iload_n rfl at_181_2).trans ?_
  refine (S_iload_n rfl at_181_3).trans ?_
  refine (S_invv (b := 3) kn_180 rfl (ka_109 L _) (Nat.le_of_ble_eq_true rfl) at_181_4).trans ?_
  rfl
theorem T181_7_109_115 {C : Nat → List j_V → j_H → Option j_Z} {L : Nat} {m : j_M0} {x2 : Int} {x3 : Int} {s0 : Int} : j_fin C 181 7 [some (jR 109), some (jR 115), some (jI x2), some (jI x3), none, none, none] [jI s0] (hH L m) = if s0 = 0 then some (some (jI 0), hH L m) else if 0 ≤ (w32 ((w32 (5 * x2)) + x3)) ∧ (w32 ((w32 (5 * x2)) + x3)) < 100 then if 0 ≤ x3 ∧ x3 < 5 then if 0 ≤ x2 ∧ x2 < 20 then if m 115 13 = 0 then none else j_fin C 181 58 [some (jR 109), some (jR 115), some (jI x2), some (jI x3), some (jL (w64 (-(m 116 (w32 ((w32 (5 * x2)) + x3)).toNat)))), none, some (jI 0)] [] (hH L (j_up m 115 12 (w64 (Int.tdiv (w64 ((w64 ((w64 (-(m 116 (w32 ((w32 (5 * x2)) + x3)).toNat))) * (m 115 12))) - (w64 ((m 118 x3.toNat) * (m 117 x2.toNat))))) (m 115 13))))) else none else none else none := by
  refine (S_if_ne at_181_7).trans ?_
  refine ite_congr rfl (fun _ => ?_) (fun _ => ?_)
  · refine (S_iconst at_181_10).trans ?_
    exact (S_iretz rfl at_181_11).trans (if_pos (by decide))
  · refine (S_aload_n rfl at_181_12).trans ?_
    refine (S_getR (ka_115 L _) rfl (f_115_0 L _) at_181_13).trans ?_
    refine (S_iconst at_181_16).trans ?_
    refine (S_iload_n rfl at_181_17).trans ?_
    refine (S_imul at_181_18).trans ?_
    refine (S_iload_n rfl at_181_19).trans ?_
    refine (S_iadd at_181_20).trans ?_
    refine (H_laload (ka_116 L _) at_181_21).trans ?_
    refine ite_congr rfl (fun hi => ?_) (fun _ => rfl)
    refine (S_lneg at_181_22).trans ?_
    refine (S_lstore (l1 := [some (jR 109), some (jR 115), some (jI x2), some (jI x3), some (jL (w64 (-(m 116 (w32 ((w32 (5 * x2)) + x3)).toNat)))), none, none]) rfl at_181_23).trans ?_
    refine (S_aload_n rfl at_181_25).trans ?_
    refine (S_lload rfl at_181_26).trans ?_
    refine (S_aload_n rfl at_181_28).trans ?_
    refine (H_get1 (ka_115 L _) rfl at_181_29).trans ?_
    refine (S_lmul at_181_32).trans ?_
    refine (S_aload_n rfl at_181_33).trans ?_
    refine (S_getR (ka_115 L _) rfl (f_115_2 L _) at_181_34).trans ?_
    refine (S_iload_n rfl at_181_37).trans ?_
    refine (H_laload (ka_118 L _) at_181_38).trans ?_
    refine ite_congr rfl (fun hi => ?_) (fun _ => rfl)
    refine (S_aload_n rfl at_181_39).trans ?_
    refine (S_getR (ka_115 L _) rfl (f_115_1 L _) at_181_40).trans ?_
    refine (S_iload_n rfl at_181_43).trans ?_
    refine (H_laload (ka_117 L _) at_181_44).trans ?_
    refine ite_congr rfl (fun hi => ?_) (fun _ => rfl)
    refine (S_lmul at_181_45).trans ?_
    refine (S_lsub at_181_46).trans ?_
    refine (S_aload_n rfl at_181_47).trans ?_
    refine (H_get1 (ka_115 L _) rfl at_181_48).trans ?_
    refine (S_ldiv at_181_51).trans ?_
    refine ite_congr rfl (fun _ => rfl) (fun hz => ?_)
    refine (H_put1 (ka_115 L _) rfl at_181_52).trans ?_
    refine (S_iconst at_181_55).trans ?_
    refine (S_istore (l1 := [some (jR 109), some (jR 115), some (jI x2), some (jI x3), some (jL (w64 (-(m 116 (w32 ((w32 (5 * x2)) + x3)).toNat)))), none, some (jI 0)]) rfl at_181_56).trans ?_
    rfl
theorem T181_58_109_115 {C : Nat → List j_V → j_H → Option j_Z} {L : Nat} {m : j_M0} {x2 : Int} {x3 : Int} {y4 : Int} {x6 : Int} : j_fin C 181 58 [some (jR 109), some (jR 115), some (jI x2), some (jI x3), some (jL y4), none, some (jI x6)] [] (hH L m) = if x6 < (w32 (5 * (m 115 15))) then if 0 ≤ x6 ∧ x6 < 100 then if 0 ≤ x6 ∧ x6 < 100 then j_fin C 181 58 [some (jR 109), some (jR 115), some (jI x2), some (jI x3), some (jL y4), none, some (jI (w32 (x6 + 1)))] [] (hH L (j_up m 116 x6.toNat (m 119 x6.toNat))) else none else none else j_fin C 181 92 [some (jR 109), some (jR 115), some (jI x2), some (jI x3), some (jL y4), none, some (jI 0)] [] (hH L m) := by
  refine (S_iload rfl at_181_58).trans ?_
  refine (S_iconst at_181_60).trans ?_
  refine (S_aload_n rfl at_181_61).trans ?_
  refine (H_get0 (ka_115 L _) rfl at_181_62).trans ?_
  refine (S_imul at_181_65).trans ?_
  refine (S_icmp_ge at_181_66).trans ?_
  refine ite_congr rfl (fun _ => ?_) (fun _ => ?_)
  · refine (S_aload_n rfl at_181_69).trans ?_
    refine (S_getR (ka_115 L _) rfl (f_115_0 L _) at_181_70).trans ?_
    refine (S_iload rfl at_181_73).trans ?_
    refine (S_aload_n rfl at_181_75).trans ?_
    refine (S_getR (ka_115 L _) rfl (f_115_3 L _) at_181_76).trans ?_
    refine (S_iload rfl at_181_79).trans ?_
    refine (H_laload (ka_119 L _) at_181_81).trans ?_
    refine ite_congr rfl (fun hi => ?_) (fun _ => rfl)
    refine (H_lastore (by omega) (ka_116 L _) at_181_82).trans ?_
    refine ite_congr rfl (fun hi => ?_) (fun _ => rfl)
    refine (S_iinc (l1 := [some (jR 109), some (jR 115), some (jI x2), some (jI x3), some (jL y4), none, some (jI (w32 (x6 + 1)))]) rfl rfl at_181_83).trans ?_
    refine (S_goto at_181_86).trans ?_
    rfl
  · refine (S_iconst at_181_89).trans ?_
    refine (S_istore (l1 := [some (jR 109), some (jR 115), some (jI x2), some (jI x3), some (jL y4), none, some (jI 0)]) rfl at_181_90).trans ?_
    rfl
theorem T181_92_109_115 {C : Nat → List j_V → j_H → Option j_Z} {L : Nat} {m : j_M0} {x2 : Int} {x3 : Int} {y4 : Int} {x6 : Int} : j_fin C 181 92 [some (jR 109), some (jR 115), some (jI x2), some (jI x3), some (jL y4), none, some (jI x6)] [] (hH L m) = if x6 < (m 115 15) then if 0 ≤ x6 ∧ x6 < 20 then if 0 ≤ x6 ∧ x6 < 20 then j_fin C 181 92 [some (jR 109), some (jR 115), some (jI x2), some (jI x3), some (jL y4), none, some (jI (w32 (x6 + 1)))] [] (hH L (j_up m 117 x6.toNat (m 120 x6.toNat))) else none else none else j_fin C 181 124 [some (jR 109), some (jR 115), some (jI x2), some (jI x3), some (jL y4), none, some (jI 0)] [] (hH L m) := by
  refine (S_iload rfl at_181_92).trans ?_
  refine (S_aload_n rfl at_181_94).trans ?_
  refine (H_get0 (ka_115 L _) rfl at_181_95).trans ?_
  refine (S_icmp_ge at_181_98).trans ?_
  refine ite_congr rfl (fun _ => ?_) (fun _ => ?_)
  · refine (S_aload_n rfl at_181_101).trans ?_
    refine (S_getR (ka_115 L _) rfl (f_115_1 L _) at_181_102).trans ?_
    refine (S_iload rfl at_181_105).trans ?_
    refine (S_aload_n rfl at_181_107).trans ?_
    refine (S_getR (ka_115 L _) rfl (f_115_4 L _) at_181_108).trans ?_
    refine (S_iload rfl at_181_111).trans ?_
    refine (H_laload (ka_120 L _) at_181_113).trans ?_
    refine ite_congr rfl (fun hi => ?_) (fun _ => rfl)
    refine (H_lastore (by omega) (ka_117 L _) at_181_114).trans ?_
    refine ite_congr rfl (fun hi => ?_) (fun _ => rfl)
    refine (S_iinc (l1 := [some (jR 109), some (jR 115), some (jI x2), some (jI x3), some (jL y4), none, some (jI (w32 (x6 + 1)))]) rfl rfl at_181_115).trans ?_
    refine (S_goto at_181_118).trans ?_
    rfl
  · refine (S_iconst at_181_121).trans ?_
    refine (S_istore (l1 := [some (jR 109), some (jR 115), some (jI x2), some (jI x3), some (jL y4), none, some (jI 0)]) rfl at_181_122).trans ?_
    rfl
theorem T181_124_109_115 {C : Nat → List j_V → j_H → Option j_Z} {L : Nat} {m : j_M0} {x2 : Int} {x3 : Int} {y4 : Int} {x6 : Int} : j_fin C 181 124 [some (jR 109), some (jR 115), some (jI x2), some (jI x3), some (jL y4), none, some (jI x6)] [] (hH L m) = if x6 < (m 115 14) then if 0 ≤ x6 ∧ x6 < 5 then if 0 ≤ x6 ∧ x6 < 5 then j_fin C 181 124 [some (jR 109), some (jR 115), some (jI x2), some (jI x3), some (jL y4), none, some (jI (w32 (x6 + 1)))] [] (hH L (j_up m 118 x6.toNat (m 121 x6.toNat))) else none else none else if 0 ≤ x2 ∧ x2 < 20 then if 0 ≤ x3 ∧ x3 < 5 then if 0 ≤ x2 ∧ x2 < 20 then if 0 ≤ x3 ∧ x3 < 5 then some (some (jI 1), hH L (j_up (j_up (j_up (j_up m 115 13 y4) 122 x2.toNat ((j_up m 115 13 y4) 123 x3.toNat)) 123 x3.toNat ((j_up m 115 13 y4) 122 x2.toNat)) 115 17 (w32 (((j_up (j_up (j_up m 115 13 y4) 122 x2.toNat ((j_up m 115 13 y4) 123 x3.toNat)) 123 x3.toNat ((j_up m 115 13 y4) 122 x2.toNat)) 115 17) + 1)))) else none else none else none else none := by
  refine (S_iload rfl at_181_124).trans ?_
  refine (S_aload_n rfl at_181_126).trans ?_
  refine (H_get0 (ka_115 L _) rfl at_181_127).trans ?_
  refine (S_icmp_ge at_181_130).trans ?_
  refine ite_congr rfl (fun _ => ?_) (fun _ => ?_)
  · refine (S_aload_n rfl at_181_133).trans ?_
    refine (S_getR (ka_115 L _) rfl (f_115_2 L _) at_181_134).trans ?_
    refine (S_iload rfl at_181_137).trans ?_
    refine (S_aload_n rfl at_181_139).trans ?_
    refine (S_getR (ka_115 L _) rfl (f_115_5 L _) at_181_140).trans ?_
    refine (S_iload rfl at_181_143).trans ?_
    refine (H_laload (ka_121 L _) at_181_145).trans ?_
    refine ite_congr rfl (fun hi => ?_) (fun _ => rfl)
    refine (H_lastore (by omega) (ka_118 L _) at_181_146).trans ?_
    refine ite_congr rfl (fun hi => ?_) (fun _ => rfl)
    refine (S_iinc (l1 := [some (jR 109), some (jR 115), some (jI x2), some (jI x3), some (jL y4), none, some (jI (w32 (x6 + 1)))]) rfl rfl at_181_147).trans ?_
    refine (S_goto at_181_150).trans ?_
    rfl
  · refine (S_aload_n rfl at_181_153).trans ?_
    refine (S_lload rfl at_181_154).trans ?_
    refine (H_put1 (ka_115 L _) rfl at_181_156).trans ?_
    refine (S_aload_n rfl at_181_159).trans ?_
    refine (S_getR (ka_115 L _) rfl (f_115_6 L _) at_181_160).trans ?_
    refine (S_iload_n rfl at_181_163).trans ?_
    refine (H_iaload (ka_122 L _) at_181_164).trans ?_
    refine ite_congr rfl (fun hi => ?_) (fun _ => rfl)
    refine (S_istore (l1 := [some (jR 109), some (jR 115), some (jI x2), some (jI x3), some (jL y4), none, some (jI ((j_up m 115 13 y4) 122 x2.toNat))]) rfl at_181_165).trans ?_
    refine (S_aload_n rfl at_181_167).trans ?_
    refine (S_getR (ka_115 L _) rfl (f_115_6 L _) at_181_168).trans ?_
    refine (S_iload_n rfl at_181_171).trans ?_
    refine (S_aload_n rfl at_181_172).trans ?_
    refine (S_getR (ka_115 L _) rfl (f_115_7 L _) at_181_173).trans ?_
    refine (S_iload_n rfl at_181_176).trans ?_
    refine (H_iaload (ka_123 L _) at_181_177).trans ?_
    refine ite_congr rfl (fun hi => ?_) (fun _ => rfl)
    refine (H_iastore (by omega) (ka_122 L _) at_181_178).trans ?_
    refine ite_congr rfl (fun hi => ?_) (fun _ => rfl)
    refine (S_aload_n rfl at_181_179).trans ?_
    refine (S_getR (ka_115 L _) rfl (f_115_7 L _) at_181_180).trans ?_
    refine (S_iload_n rfl at_181_183).trans ?_
    refine (S_iload rfl at_181_184).trans ?_
    refine (H_iastore (by omega) (ka_123 L _) at_181_186).trans ?_
    refine ite_congr rfl (fun hi => ?_) (fun _ => rfl)
    refine (S_aload_n rfl at_181_187).trans ?_
    refine (S_dup rfl at_181_188).trans ?_
    refine (H_get0 (ka_115 L _) rfl at_181_189).trans ?_
    refine (S_iconst at_181_192).trans ?_
    refine (S_iadd at_181_193).trans ?_
    refine (H_put0 (ka_115 L _) rfl at_181_194).trans ?_
    refine (S_iconst at_181_197).trans ?_
    exact (S_iretz rfl at_181_198).trans (if_pos (by decide))
theorem T181_0_109_128 {C : Nat → List j_V → j_H → Option j_Z} {L : Nat} {m : j_M0} {x2 : Int} {x3 : Int} : j_fin C 181 0 [some (jR 109), some (jR 128), some (jI x2), some (jI x3), none, none, none] [] (hH L m) = (C 180 [jR 109, jR 128, jI x2, jI x3] (hH L m)).bind fun z => j_fin C 181 7 [some (jR 109), some (jR 128), some (jI x2), some (jI x3), none, none, none] (z.1.toList ++ []) z.2 := by
  refine (S_aload_n rfl at_181_0).trans ?_
  refine (S_aload_n rfl at_181_1).trans ?_
  refine (S_iload_n rfl at_181_2).trans ?_
  refine (S_iload_n rfl at_181_3).trans ?_
  refine (S_invv (b := 3) kn_180 rfl (ka_109 L _) (Nat.le_of_ble_eq_true rfl) at_181_4).trans ?_
  rfl
theorem T181_7_109_128 {C : Nat → List j_V → j_H → Option j_Z} {L : Nat} {m : j_M0} {x2 : Int} {x3 : Int} {s0 : Int} : j_fin C 181 7 [some (jR 109), some (jR 128), some (jI x2), some (jI x3), none, none, none] [jI s0] (hH L m) = if s0 = 0 then some (some (jI 0), hH L m) else if 0 ≤ (w32 ((w32 (5 * x2)) + x3)) ∧ (w32 ((w32 (5 * x2)) + x3)) < 100 then if 0 ≤ x3 ∧ x3 < 5 then if 0 ≤ x2 ∧ x2 < 20 then if m 128 13 = 0 then none else j_fin C 181 58 [some (jR 109), some (jR 128), some (jI x2), some (jI x3), some (jL (w64 (-(m 129 (w32 ((w32 (5 * x2)) + x3)).toNat)))), none, some (jI 0)] [] (hH L (j_up m 128 12 (w64 (Int.tdiv (w64 ((w64 ((w64 (-(m 129 (w32 ((w32 (5 * x2)) + x3)).toNat))) * (m 128 12))) - (w64 ((m 131 x3.toNat) * (m 130 x2.toNat))))) (m 128 13))))) else none else none else none := by
  refine (S_if_ne at_181_7).trans ?_
  refine ite_congr rfl (fun _ => ?_) (fun _ => ?_)
  · refine (S_iconst at_181_10).trans ?_
    exact (S_iretz rfl at_181_11).trans (if_pos (by decide))
  · refine (S_aload_n rfl at_181_12).trans ?_
    refine (S_getR (ka_128 L _) rfl (f_128_0 L _) at_181_13).trans ?_
    refine (S_iconst at_181_16).trans ?_
    refine (S_iload_n rfl at_181_17).trans ?_
    refine (S_imul at_181_18).trans ?_
    refine (S_iload_n rfl at_181_19).trans ?_
    refine (S_iadd at_181_20).trans ?_
    refine (H_laload (ka_129 L _) at_181_21).trans ?_
    refine ite_congr rfl (fun hi => ?_) (fun _ => rfl)
    refine (S_lneg at_181_22).trans ?_
    refine (S_lstore (l1 := [some (jR 109), some (jR 128), some (jI x2), some (jI x3), some (jL (w64 (-(m 129 (w32 ((w32 (5 * x2)) + x3)).toNat)))), none, none]) rfl at_181_23).trans ?_
    refine (S_aload_n rfl at_181_25).trans ?_
    refine (S_lload rfl at_181_26).trans ?_
    refine (S_aload_n rfl at_181_28).trans ?_
    refine (H_get1 (ka_128 L _) rfl at_181_29).trans ?_
    refine (S_lmul at_181_32).trans ?_
    refine (S_aload_n rfl at_181_33).trans ?_
    refine (S_getR (ka_128 L _) rfl (f_128_2 L _) at_181_34).trans ?_
    refine (S_iload_n rfl at_181_37).trans ?_
    refine (H_laload (ka_131 L _) at_181_38).trans ?_
    refine ite_congr rfl (fun hi => ?_) (fun _ => rfl)
    refine (S_aload_n rfl at_181_39).trans ?_
    refine (S_getR (ka_128 L _) rfl (f_128_1 L _) at_181_40).trans ?_
    refine (S_iload_n rfl at_181_43).trans ?_
    refine (H_laload (ka_130 L _) at_181_44).trans ?_
    refine ite_congr rfl (fun hi => ?_) (fun _ => rfl)
    refine (S_lmul at_181_45).trans ?_
    refine (S_lsub at_181_46).trans ?_
    refine (S_aload_n rfl at_181_47).trans ?_
    refine (H_get1 (ka_128 L _) rfl at_181_48).trans ?_
    refine (S_ldiv at_181_51).trans ?_
    refine ite_congr rfl (fun _ => rfl) (fun hz => ?_)
    refine (H_put1 (ka_128 L _) rfl at_181_52).trans ?_
    refine (S_iconst at_181_55).trans ?_
    refine (S_istore (l1 := [some (jR 109), some (jR 128), some (jI x2), some (jI x3), some (jL (w64 (-(m 129 (w32 ((w32 (5 * x2)) + x3)).toNat)))), none, some (jI 0)]) rfl at_181_56).trans ?_
    rfl
theorem T181_58_109_128 {C : Nat → List j_V → j_H → Option j_Z} {L : Nat} {m : j_M0} {x2 : Int} {x3 : Int} {y4 : Int} {x6 : Int} : j_fin C 181 58 [some (jR 109), some (jR 128), some (jI x2), some (jI x3), some (jL y4), none, some (jI x6)] [] (hH L m) = if x6 < (w32 (5 * (m 128 15))) then if 0 ≤ x6 ∧ x6 < 100 then if 0 ≤ x6 ∧ x6 < 100 then j_fin C 181 58 [some (jR 109), some (jR 128), some (jI x2), some (jI x3), some (jL y4), none, some (jI (w32 (x6 + 1)))] [] (hH L (j_up m 129 x6.toNat (m 132 x6.toNat))) else none else none else j_fin C 181 92 [some (jR 109), some (jR 128), some (jI x2), some (jI x3), some (jL y4), none, some (jI 0)] [] (hH L m) := by
  refine (S_iload rfl at_181_58).trans ?_
  refine (S_iconst at_181_60).trans ?_
  refine (S_aload_n rfl at_181_61).trans ?_
  refine (H_get0 (ka_128 L _) rfl at_181_62).trans ?_
  refine (S_imul at_181_65).trans ?_
  refine (S_icmp_ge at_181_66).trans ?_
  refine ite_congr rfl (fun _ => ?_) (fun _ => ?_)
  · refine (S_aload_n rfl at_181_69).trans ?_
    refine (S_getR (ka_128 L _) rfl (f_128_0 L _) at_181_70).trans ?_
    refine (S_iload rfl at_181_73).trans ?_
    refine (S_aload_n rfl at_181_75).trans ?_
    refine (S_getR (ka_128 L _) rfl (f_128_3 L _) at_181_76).trans ?_
    refine (S_iload rfl at_181_79).trans ?_
    refine (H_laload (ka_132 L _) at_181_81).trans ?_
    refine ite_congr rfl (fun hi => ?_) (fun _ => rfl)
    refine (H_lastore (by omega) (ka_129 L _) at_181_82).trans ?_
    refine ite_congr rfl (fun hi => ?_) (fun _ => rfl)
    refine (S_iinc (l1 := [some (jR 109), some (jR 128), some (jI x2), some (jI x3), some (jL y4), none, some (jI (w32 (x6 + 1)))]) rfl rfl at_181_83).trans ?_
    refine (S_goto at_181_86).trans ?_
    rfl
  · refine (S_iconst at_181_89).trans ?_
    refine (S_istore (l1 := [some (jR 109), some (jR 128), some (jI x2), some (jI x3), some (jL y4), none, some (jI 0)]) rfl at_181_90).trans ?_
    rfl
theorem T181_92_109_128 {C : Nat → List j_V → j_H → Option j_Z} {L : Nat} {m : j_M0} {x2 : Int} {x3 : Int} {y4 : Int} {x6 : Int} : j_fin C 181 92 [some (jR 109), some (jR 128), some (jI x2), some (jI x3), some (jL y4), none, some (jI x6)] [] (hH L m) = if x6 < (m 128 15) then if 0 ≤ x6 ∧ x6 < 20 then if 0 ≤ x6 ∧ x6 < 20 then j_fin C 181 92 [some (jR 109), some (jR 128), some (jI x2), some (jI x3), some (jL y4), none, some (jI (w32 (x6 + 1)))] [] (hH L (j_up m 130 x6.toNat (m 133 x6.toNat))) else none else none else j_fin C 181 124 [some (jR 109), some (jR 128), some (jI x2), some (jI x3), some (jL y4), none, some (jI 0)] [] (hH L m) := by
  refine (S_iload rfl at_181_92).trans ?_
  refine (S_aload_n rfl at_181_94).trans ?_
  refine (H_get0 (ka_128 L _) rfl at_181_95).trans ?_
  refine (S_icmp_ge at_181_98).trans ?_
  refine ite_congr rfl (fun _ => ?_) (fun _ => ?_)
  · refine (S_aload_n rfl at_181_101).trans ?_
    refine (S_getR (ka_128 L _) rfl (f_128_1 L _) at_181_102).trans ?_
    refine (S_iload rfl at_181_105).trans ?_
    refine (S_aload_n rfl at_181_107).trans ?_
    refine (S_getR (ka_128 L _) rfl (f_128_4 L _) at_181_108).trans ?_
    refine (S_iload rfl at_181_111).trans ?_
    refine (H_laload (ka_133 L _) at_181_113).trans ?_
    refine ite_congr rfl (fun hi => ?_) (fun _ => rfl)
    refine (H_lastore (by omega) (ka_130 L _) at_181_114).trans ?_
    refine ite_congr rfl (fun hi => ?_) (fun _ => rfl)
    refine (S_iinc (l1 := [some (jR 109), some (jR 128), some (jI x2), some (jI x3), some (jL y4), none, some (jI (w32 (x6 + 1)))]) rfl rfl at_181_115).trans ?_
    refine (S_goto at_181_118).trans ?_
    rfl
  · refine (S_iconst at_181_121).trans ?_
    refine (S_istore (l1 := [some (jR 109), some (jR 128), some (jI x2), some (jI x3), some (jL y4), none, some (jI 0)]) rfl at_181_122).trans ?_
    rfl
theorem T181_124_109_128 {C : Nat → List j_V → j_H → Option j_Z} {L : Nat} {m : j_M0} {x2 : Int} {x3 : Int} {y4 : Int} {x6 : Int} : j_fin C 181 124 [some (jR 109), some (jR 128), some (jI x2), some (jI x3), some (jL y4), none, some (jI x6)] [] (hH L m) = if x6 < (m 128 14) then if 0 ≤ x6 ∧ x6 < 5 then if 0 ≤ x6 ∧ x6 < 5 then j_fin C 181 124 [some (jR 109), some (jR 128), some (jI x2), some (jI x3), some (jL y4), none, some (jI (w32 (x6 + 1)))] [] (hH L (j_up m 131 x6.toNat (m 134 x6.toNat))) else none else none else if 0 ≤ x2 ∧ x2 < 20 then if 0 ≤ x3 ∧ x3 < 5 then if 0 ≤ x2 ∧ x2 < 20 then if 0 ≤ x3 ∧ x3 < 5 then some (some (jI 1), hH L (j_up (j_up (j_up (j_up m 128 13 y4) 135 x2.toNat ((j_up m 128 13 y4) 136 x3.toNat)) 136 x3.toNat ((j_up m 128 13 y4) 135 x2.toNat)) 128 17 (w32 (((j_up (j_up (j_up m 128 13 y4) 135 x2.toNat ((j_up m 128 13 y4) 136 x3.toNat)) 136 x3.toNat ((j_up m 128 13 y4) 135 x2.toNat)) 128 17) + 1)))) else none else none else none else none := by
  refine (S_iload rfl at_181_124).trans ?_
  refine (S_aload_n rfl at_181_126).trans ?_
  refine (H_get0 (ka_128 L _) rfl at_181_127).trans ?_
  refine (S_icmp_ge at_181_130).trans ?_
  refine ite_congr rfl (fun _ => ?_) (fun _ => ?_)
  · refine (S_aload_n rfl at_181_133).trans ?_
    refine (S_getR (ka_128 L _) rfl (f_128_2 L _) at_181_134).trans ?_
    refine (S_iload rfl at_181_137).trans ?_
    refine (S_aload_n rfl at_181_139).trans ?_
    refine (S_getR (ka_128 L _) rfl (f_128_5 L _) at_181_140).trans ?_
    refine (S_iload rfl at_181_143).trans ?_
    refine (H_laload (ka_134 L _) at_181_145).trans ?_
    refine ite_congr rfl (fun hi => ?_) (fun _ => rfl)
    refine (H_lastore (by omega) (ka_131 L _) at_181_146).trans ?_
    refine ite_congr rfl (fun hi => ?_) (fun _ => rfl)
    refine (S_iinc (l1 := [some (jR 109), some (jR 128), some (jI x2), some (jI x3), some (jL y4), none, some (jI (w32 (x6 + 1)))]) rfl rfl at_181_147).trans ?_
    refine (S_goto at_181_150).trans ?_
    rfl
  · refine (S_aload_n rfl at_181_153).trans ?_
    refine (S_lload rfl at_181_154).trans ?_
    refine (H_put1 (ka_128 L _) rfl at_181_156).trans ?_
    refine (S_aload_n rfl at_181_159).trans ?_
    refine (S_getR (ka_128 L _) rfl (f_128_6 L _) at_181_160).trans ?_
    refine (S_iload_n rfl at_181_163).trans ?_
    refine (H_iaload (ka_135 L _) at_181_164).trans ?_
    refine ite_congr rfl (fun hi => ?_) (fun _ => rfl)
    refine (S_istore (l1 := [some (jR 109), some (jR 128), some (jI x2), some (jI x3), some (jL y4), none, some (jI ((j_up m 128 13 y4) 135 x2.toNat))]) rfl at_181_165).trans ?_
    refine (S_aload_n rfl at_181_167).trans ?_
    refine (S_getR (ka_128 L _) rfl (f_128_6 L _) at_181_168).trans ?_
    refine (S_iload_n rfl at_181_171).trans ?_
    refine (S_aload_n rfl at_181_172).trans ?_
    refine (S_getR (ka_128 L _) rfl (f_128_7 L _) at_181_173).trans ?_
    refine (S_iload_n rfl at_181_176).trans ?_
    refine (H_iaload (ka_136 L _) at_181_177).trans ?_
    refine ite_congr rfl (fun hi => ?_) (fun _ => rfl)
    refine (H_iastore (by omega) (ka_135 L _) at_181_178).trans ?_
    refine ite_congr rfl (fun hi => ?_) (fun _ => rfl)
    refine (S_aload_n rfl at_181_179).trans ?_
    refine (S_getR (ka_128 L _) rfl (f_128_7 L _) at_181_180).trans ?_
    refine (S_iload_n rfl at_181_183).trans ?_
    refine (S_iload rfl at_181_184).trans ?_
    refine (H_iastore (by omega) (ka_136 L _) at_181_186).trans ?_
    refine ite_congr rfl (fun hi => ?_) (fun _ => rfl)
    refine (S_aload_n rfl at_181_187).trans ?_
    refine (S_dup rfl at_181_188).trans ?_
    refine (H_get0 (ka_128 L _) rfl at_181_189).trans ?_
    refine (S_iconst at_181_192).trans ?_
    refine (S_iadd at_181_193).trans ?_
    refine (H_put0 (ka_128 L _) rfl at_181_194).trans ?_
    refine (S_iconst at_181_197).trans ?_
    exact (S_iretz rfl at_181_198).trans (if_pos (by decide))
theorem T182_0_109_115 {C : Nat → List j_V → j_H → Option j_Z} {L : Nat} {m : j_M0} {x2 : Int} : j_fin C 182 0 [some (jR 109), some (jR 115), some (jI x2), none, none, none, none, none, none] [] (hH L m) = j_fin C 182 5 [some (jR 109), some (jR 115), some (jI x2), some (jI (-1)), some (jI 0), none, none, none, none] [] (hH L m) := by
  refine (S_iconst at_182_0).trans ?_
  refine (S_istore_n (l1 := [some (jR 109), some (jR 115), some (jI x2), some (jI (-1)), none, none, none, none, none]) rfl at_182_1).trans ?_
  refine (S_iconst at_182_2).trans ?_
  refine (S_istore (l1 := [some (jR 109), some (jR 115), some (jI x2), some (jI (-1)), some (jI 0), none, none, none, none]) rfl at_182_3).trans ?_
  rfl
theorem T182_5_109_115 {C : Nat → List j_V → j_H → Option j_Z} {L : Nat} {m : j_M0} {x2 : Int} {x3 : Int} {x4 : Int} {o5 : Option j_V} {o7 : Option j_V} : j_fin C 182 5 [some (jR 109), some (jR 115), some (jI x2), some (jI x3), some (jI x4), o5, none, o7, none] [] (hH L m) = if x4 < (m 115 14) then if 0 ≤ (w32 ((w32 (5 * x2)) + x4)) ∧ (w32 ((w32 (5 * x2)) + x4)) < 100 then if 0 < (j_cmp (w64 (-(m 116 (w32 ((w32 (5 * x2)) + x4)).toNat))) 0) then if x3 < 0 then if (j_cmp (-1) 0) < 0 then j_fin C 182 5 [some (jR 109), some (jR 115), some (jI x2), some (jI x4), some (jI (w32 (x4 + 1))), some (jL (w64 (-(m 116 (w32 ((w32 (5 * x2)) + x4)).toNat)))), none, some (jL (-1)), none] [] (hH L m) else if (j_cmp (-1) 0) = 0 then if 0 ≤ x4 ∧ x4 < 5 then if 0 ≤ x3 ∧ x3 < 5 then if (m 123 x4.toNat) < (m 123 x3.toNat) then j_fin C 182 5 [some (jR 109), some (jR 115), some (jI x2), some (jI x4), some (jI (w32 (x4 + 1))), some (jL (w64 (-(m 116 (w32 ((w32 (5 * x2)) + x4)).toNat)))), none, some (jL (-1)), none] [] (hH L m) else j_fin C 182 5 [some (jR 109), some (jR 115), some (jI x2), some (jI x3), some (jI (w32 (x4 + 1))), some (jL (w64 (-(m 116 (w32 ((w32 (5 * x2)) + x4)).toNat)))), none, some (jL (-1)), none] [] (hH L m) else none else none else j_fin C 182 5 [some (jR 109), some (jR 115), some (jI x2), some (jI x3), some (jI (w32 (x4 + 1))), some (jL (w64 (-(m 116 (w32 ((w32 (5 * x2)) + x4)).toNat)))), none, some (jL (-1)), none] [] (hH L m) else if 0 ≤ x4 ∧ x4 < 5 then if 0 ≤ (w32 ((w32 (5 * x2)) + x3)) ∧ (w32 ((w32 (5 * x2)) + x3)) < 100 then if 0 ≤ x3 ∧ x3 < 5 then if (j_cmp (w64 ((w64 ((m 118 x4.toNat) * (w64 (-(m 116 (w32 ((w32 (5 * x2)) + x3)).toNat))))) - (w64 ((m 118 x3.toNat) * (w64 (-(m 116 (w32 ((w32 (5 * x2)) + x4)).toNat))))))) 0) < 0 then j_fin C 182 5 [some (jR 109), some (jR 115), some (jI x2), some (jI x4), some (jI (w32 (x4 + 1))), some (jL (w64 (-(m 116 (w32 ((w32 (5 * x2)) + x4)).toNat)))), none, some (jL (w64 ((w64 ((m 118 x4.toNat) * (w64 (-(m 116 (w32 ((w32 (5 * x2)) + x3)).toNat))))) - (w64 ((m 118 x3.toNat) * (w64 (-(m 116 (w32 ((w32 (5 * x2)) + x4)).toNat)))))))), none] [] (hH L m) else if (j_cmp (w64 ((w64 ((m 118 x4.toNat) * (w64 (-(m 116 (w32 ((w32 (5 * x2)) + x3)).toNat))))) - (w64 ((m 118 x3.toNat) * (w64 (-(m 116 (w32 ((w32 (5 * x2)) + x4)).toNat))))))) 0) = 0 then if 0 ≤ x4 ∧ x4 < 5 then if 0 ≤ x3 ∧ x3 < 5 then if (m 123 x4.toNat) < (m 123 x3.toNat) then j_fin C 182 5 [some (jR 109), some (jR 115), some (jI x2), some (jI x4), some (jI (w32 (x4 + 1))), some (jL (w64 (-(m 116 (w32 ((w32 (5 * x2)) + x4)).toNat)))), none, some (jL (w64 ((w64 ((m 118 x4.toNat) * (w64 (-(m 116 (w32 ((w32 (5 * x2)) + x3)).toNat))))) - (w64 ((m 118 x3.toNat) * (w64 (-(m 116 (w32 ((w32 (5 * x2)) + x4)).toNat)))))))), none] [] (hH L m) else j_fin C 182 5 [some (jR 109), some (jR 115), some (jI x2), some (jI x3), some (jI (w32 (x4 + 1))), some (jL (w64 (-(m 116 (w32 ((w32 (5 * x2)) + x4)).toNat)))), none, some (jL (w64 ((w64 ((m 118 x4.toNat) * (w64 (-(m 116 (w32 ((w32 (5 * x2)) + x3)).toNat))))) - (w64 ((m 118 x3.toNat) * (w64 (-(m 116 (w32 ((w32 (5 * x2)) + x4)).toNat)))))))), none] [] (hH L m) else none else none else j_fin C 182 5 [some (jR 109), some (jR 115), some (jI x2), some (jI x3), some (jI (w32 (x4 + 1))), some (jL (w64 (-(m 116 (w32 ((w32 (5 * x2)) + x4)).toNat)))), none, some (jL (w64 ((w64 ((m 118 x4.toNat) * (w64 (-(m 116 (w32 ((w32 (5 * x2)) + x3)).toNat))))) - (w64 ((m 118 x3.toNat) * (w64 (-(m 116 (w32 ((w32 (5 * x2)) + x4)).toNat)))))))), none] [] (hH L m) else none else none else none else j_fin C 182 5 [some (jR 109), some (jR 115), some (jI x2), some (jI x3), some (jI (w32 (x4 + 1))), some (jL (w64 (-(m 116 (w32 ((w32 (5 * x2)) + x4)).toNat)))), none, o7, none] [] (hH L m) else none else some (some (jI x3), hH L m) := by
  refine (S_iload rfl at_182_5).trans ?_
  refine (S_aload_n rfl at_182_7).trans ?_
  refine (H_get0 (ka_115 L _) rfl at_182_8).trans ?_
  refine (S_icmp_ge at_182_11).trans ?_
  refine ite_congr rfl (fun _ => ?_) (fun _ => ?_)
  · refine (S_aload_n rfl at_182_14).trans ?_
    refine (S_getR (ka_115 L _) rfl (f_115_0 L _) at_182_15).trans ?_
    refine (S_iconst at_182_18).trans ?_
    refine (S_iload_n rfl at_182_19).trans ?_
    refine (S_imul at_182_20).trans ?_
    refine (S_iload rfl at_182_21).trans ?_
    refine (S_iadd at_182_23).trans ?_
    refine (H_laload (ka_116 L _) at_182_24).trans ?_
    refine ite_congr rfl (fun hi => ?_) (fun _ => rfl)
    refine (S_lneg at_182_25).trans ?_
    refine (S_lstore (l1 := [some (jR 109), some (jR 115), some (jI x2), some (jI x3), some (jI x4), some (jL (w64 (-(m 116 (w32 ((w32 (5 * x2)) + x4)).toNat)))), none, o7, none]) rfl at_182_26).trans ?_
    refine (S_lload rfl at_182_28).trans ?_
    refine (S_lconst at_182_30).trans ?_
    refine (S_lcmp at_182_31).trans ?_
    refine (S_if_gt at_182_32).trans ?_
    refine ite_congr rfl (fun _ => ?_) (fun _ => ?_)
    · refine (S_iload_n rfl at_182_38).trans ?_
      refine (S_if_ge at_182_39).trans ?_
      refine ite_congr rfl (fun _ => ?_) (fun _ => ?_)
      · refine (S_ldc2_w at_182_42).trans ?_
        refine (S_goto at_182_45).trans ?_
        refine (S_lstore (l1 := [some (jR 109), some (jR 115), some (jI x2), some (jI x3), some (jI x4), some (jL (w64 (-(m 116 (w32 ((w32 (5 * x2)) + x4)).toNat)))), none, some (jL (-1)), none]) rfl at_182_77).trans ?_
        refine (S_lload rfl at_182_79).trans ?_
        refine (S_lconst at_182_81).trans ?_
        refine (S_lcmp at_182_82).trans ?_
        refine (S_if_lt at_182_83).trans ?_
        refine ite_congr rfl (fun _ => ?_) (fun _ => ?_)
        · refine (S_iload rfl at_182_109).trans ?_
          refine (S_istore_n (l1 := [some (jR 109), some (jR 115), some (jI x2), some (jI x4), some (jI x4), some (jL (w64 (-(m 116 (w32 ((w32 (5 * x2)) + x4)).toNat)))), none, some (jL (-1)), none]) rfl at_182_111).trans ?_
          refine (S_iinc (l1 := [some (jR 109), some (jR 115), some (jI x2), some (jI x4), some (jI (w32 (x4 + 1))), some (jL (w64 (-(m 116 (w32 ((w32 (5 * x2)) + x4)).toNat)))), none, some (jL (-1)), none]) rfl rfl at_182_112).trans ?_
          refine (S_goto at_182_115).trans ?_
          rfl
        · refine (S_lload rfl at_182_86).trans ?_
          refine (S_lconst at_182_88).trans ?_
          refine (S_lcmp at_182_89).trans ?_
          refine (S_if_ne at_182_90).trans ?_
          refine ite_congr rfl (fun _ => ?_) (fun _ => ?_)
          · refine (S_aload_n rfl at_182_93).trans ?_
            refine (S_getR (ka_115 L _) rfl (f_115_7 L _) at_182_94).trans ?_
            refine (S_iload rfl at_182_97).trans ?_
            refine (H_iaload (ka_123 L _) at_182_99).trans ?_
            refine ite_congr rfl (fun hi => ?_) (fun _ => rfl)
            refine (S_aload_n rfl at_182_100).trans ?_
            refine (S_getR (ka_115 L _) rfl (f_115_7 L _) at_182_101).trans ?_
            refine (S_iload_n rfl at_182_104).trans ?_
            refine (H_iaload (ka_123 L _) at_182_105).trans ?_
            refine ite_congr rfl (fun hi => ?_) (fun _ => rfl)
            refine (S_icmp_ge at_182_106).trans ?_
            refine ite_congr rfl (fun _ => ?_) (fun _ => ?_)
            · refine (S_iload rfl at_182_109).trans ?_
              refine (S_istore_n (l1 := [some (jR 109), some (jR 115), some (jI x2), some (jI x4), some (jI x4), some (jL (w64 (-(m 116 (w32 ((w32 (5 * x2)) + x4)).toNat)))), none, some (jL (-1)), none]) rfl at_182_111).trans ?_
              refine (S_iinc (l1 := [some (jR 109), some (jR 115), some (jI x2), some (jI x4), some (jI (w32 (x4 + 1))), some (jL (w64 (-(m 116 (w32 ((w32 (5 * x2)) + x4)).toNat)))), none, some (jL (-1)), none]) rfl rfl at_182_112).trans ?_
              refine (S_goto at_182_115).trans ?_
              rfl
            · refine (S_iinc (l1 := [some (jR 109), some (jR 115), some (jI x2), some (jI x3), some (jI (w32 (x4 + 1))), some (jL (w64 (-(m 116 (w32 ((w32 (5 * x2)) + x4)).toNat)))), none, some (jL (-1)), none]) rfl rfl at_182_112).trans ?_
              refine (S_goto at_182_115).trans ?_
              rfl
          · refine (S_iinc (l1 := [some (jR 109), some (jR 115), some (jI x2), some (jI x3), some (jI (w32 (x4 + 1))), some (jL (w64 (-(m 116 (w32 ((w32 (5 * x2)) + x4)).toNat)))), none, some (jL (-1)), none]) rfl rfl at_182_112).trans ?_
            refine (S_goto at_182_115).trans ?_
            rfl
      · refine (S_aload_n rfl at_182_48).trans ?_
        refine (S_getR (ka_115 L _) rfl (f_115_2 L _) at_182_49).trans ?_
        refine (S_iload rfl at_182_52).trans ?_
        refine (H_laload (ka_118 L _) at_182_54).trans ?_
        refine ite_congr rfl (fun hi => ?_) (fun _ => rfl)
        refine (S_aload_n rfl at_182_55).trans ?_
        refine (S_getR (ka_115 L _) rfl (f_115_0 L _) at_182_56).trans ?_
        refine (S_iconst at_182_59).trans ?_
        refine (S_iload_n rfl at_182_60).trans ?_
        refine (S_imul at_182_61).trans ?_
        refine (S_iload_n rfl at_182_62).trans ?_
        refine (S_iadd at_182_63).trans ?_
        refine (H_laload (ka_116 L _) at_182_64).trans ?_
        refine ite_congr rfl (fun hi => ?_) (fun _ => rfl)
        refine (S_lneg at_182_65).trans ?_
        refine (S_lmul at_182_66).trans ?_
        refine (S_aload_n rfl at_182_67).trans ?_
        refine (S_getR (ka_115 L _) rfl (f_115_2 L _) at_182_68).trans ?_
        refine (S_iload_n rfl at_182_71).trans ?_
        refine (H_laload (ka_118 L _) at_182_72).trans ?_
        refine ite_congr rfl (fun hi => ?_) (fun _ => rfl)
        refine (S_lload rfl at_182_73).trans ?_
        refine (S_lmul at_182_75).trans ?_
        refine (S_lsub at_182_76).trans ?_
        refine (S_lstore (l1 := [some (jR 109), some (jR 115), some (jI x2), some (jI x3), some (jI x4), some (jL (w64 (-(m 116 (w32 ((w32 (5 * x2)) + x4)).toNat)))), none, some (jL (w64 ((w64 ((m 118 x4.toNat) * (w64 (-(m 116 (w32 ((w32 (5 * x2)) + x3)).toNat))))) - (w64 ((m 118 x3.toNat) * (w64 (-(m 116 (w32 ((w32 (5 * x2)) + x4)).toNat)))))))), none]) rfl at_182_77).trans ?_
        refine (S_lload rfl at_182_79).trans ?_
        refine (S_lconst at_182_81).trans ?_
        refine (S_lcmp at_182_82).trans ?_
        refine (S_if_lt at_182_83).trans ?_
        refine ite_congr rfl (fun _ => ?_) (fun _ => ?_)
        · refine (S_iload rfl at_182_109).trans ?_
          refine (S_istore_n (l1 := [some (jR 109), some (jR 115), some (jI x2), some (jI x4), some (jI x4), some (jL (w64 (-(m 116 (w32 ((w32 (5 * x2)) + x4)).toNat)))), none, some (jL (w64 ((w64 ((m 118 x4.toNat) * (w64 (-(m 116 (w32 ((w32 (5 * x2)) + x3)).toNat))))) - (w64 ((m 118 x3.toNat) * (w64 (-(m 116 (w32 ((w32 (5 * x2)) + x4)).toNat)))))))), none]) rfl at_182_111).trans ?_
          refine (S_iinc (l1 := [some (jR 109), some (jR 115), some (jI x2), some (jI x4), some (jI (w32 (x4 + 1))), some (jL (w64 (-(m 116 (w32 ((w32 (5 * x2)) + x4)).toNat)))), none, some (jL (w64 ((w64 ((m 118 x4.toNat) * (w64 (-(m 116 (w32 ((w32 (5 * x2)) + x3)).toNat))))) - (w64 ((m 118 x3.toNat) * (w64 (-(m 116 (w32 ((w32 (5 * x2)) + x4)).toNat)))))))), none]) rfl rfl at_182_112).trans ?_
          refine (S_goto at_182_115).trans ?_
          rfl
        · refine (S_lload rfl at_182_86).trans ?_
          refine (S_lconst at_182_88).trans ?_
          refine (S_lcmp at_182_89).trans ?_
          refine (S_if_ne at_182_90).trans ?_
          refine ite_congr rfl (fun _ => ?_) (fun _ => ?_)
          · refine (S_aload_n rfl at_182_93).trans ?_
            refine (S_getR (ka_115 L _) rfl (f_115_7 L _) at_182_94).trans ?_
            refine (S_iload rfl at_182_97).trans ?_
            refine (H_iaload (ka_123 L _) at_182_99).trans ?_
            refine ite_congr rfl (fun hi => ?_) (fun _ => rfl)
            refine (S_aload_n rfl at_182_100).trans ?_
            refine (S_getR (ka_115 L _) rfl (f_115_7 L _) at_182_101).trans ?_
            refine (S_iload_n rfl at_182_104).trans ?_
            refine (H_iaload (ka_123 L _) at_182_105).trans ?_
            refine ite_congr rfl (fun hi => ?_) (fun _ => rfl)
            refine (S_icmp_ge at_182_106).trans ?_
            refine ite_congr rfl (fun _ => ?_) (fun _ => ?_)
            · refine (S_iload rfl at_182_109).trans ?_
              refine (S_istore_n (l1 := [some (jR 109), some (jR 115), some (jI x2), some (jI x4), some (jI x4), some (jL (w64 (-(m 116 (w32 ((w32 (5 * x2)) + x4)).toNat)))), none, some (jL (w64 ((w64 ((m 118 x4.toNat) * (w64 (-(m 116 (w32 ((w32 (5 * x2)) + x3)).toNat))))) - (w64 ((m 118 x3.toNat) * (w64 (-(m 116 (w32 ((w32 (5 * x2)) + x4)).toNat)))))))), none]) rfl at_182_111).trans ?_
              refine (S_iinc (l1 := [some (jR 109), some (jR 115), some (jI x2), some (jI x4), some (jI (w32 (x4 + 1))), some (jL (w64 (-(m 116 (w32 ((w32 (5 * x2)) + x4)).toNat)))), none, some (jL (w64 ((w64 ((m 118 x4.toNat) * (w64 (-(m 116 (w32 ((w32 (5 * x2)) + x3)).toNat))))) - (w64 ((m 118 x3.toNat) * (w64 (-(m 116 (w32 ((w32 (5 * x2)) + x4)).toNat)))))))), none]) rfl rfl at_182_112).trans ?_
              refine (S_goto at_182_115).trans ?_
              rfl
            · refine (S_iinc (l1 := [some (jR 109), some (jR 115), some (jI x2), some (jI x3), some (jI (w32 (x4 + 1))), some (jL (w64 (-(m 116 (w32 ((w32 (5 * x2)) + x4)).toNat)))), none, some (jL (w64 ((w64 ((m 118 x4.toNat) * (w64 (-(m 116 (w32 ((w32 (5 * x2)) + x3)).toNat))))) - (w64 ((m 118 x3.toNat) * (w64 (-(m 116 (w32 ((w32 (5 * x2)) + x4)).toNat)))))))), none]) rfl rfl at_182_112).trans ?_
              refine (S_goto at_182_115).trans ?_
              rfl
          · refine (S_iinc (l1 := [some (jR 109), some (jR 115), some (jI x2), some (jI x3), some (jI (w32 (x4 + 1))), some (jL (w64 (-(m 116 (w32 ((w32 (5 * x2)) + x4)).toNat)))), none, some (jL (w64 ((w64 ((m 118 x4.toNat) * (w64 (-(m 116 (w32 ((w32 (5 * x2)) + x3)).toNat))))) - (w64 ((m 118 x3.toNat) * (w64 (-(m 116 (w32 ((w32 (5 * x2)) + x4)).toNat)))))))), none]) rfl rfl at_182_112).trans ?_
            refine (S_goto at_182_115).trans ?_
            rfl
    · refine (S_goto at_182_35).trans ?_
      refine (S_iinc (l1 := [some (jR 109), some (jR 115), some (jI x2), some (jI x3), some (jI (w32 (x4 + 1))), some (jL (w64 (-(m 116 (w32 ((w32 (5 * x2)) + x4)).toNat)))), none, o7, none]) rfl rfl at_182_112).trans ?_
      refine (S_goto at_182_115).trans ?_
      rfl
  · refine (S_iload_n rfl at_182_118).trans ?_
    exact S_ireti rfl at_182_119
theorem T182_0_109_128 {C : Nat → List j_V → j_H → Option j_Z} {L : Nat} {m : j_M0} {x2 : Int} : j_fin C 182 0 [some (jR 109), some (jR 128), some (jI x2), none, none, none, none, none, none] [] (hH L m) = j_fin C 182 5 [some (jR 109), some (jR 128), some (jI x2), some (jI (-1)), some (jI 0), none, none, none, none] [] (hH L m) := by
  refine (S_iconst at_182_0).trans ?_
  refine (S_istore_n (l1 := [some (jR 109), some (jR 128), some (jI x2), some (jI (-1)), none, none, none, none, none]) rfl at_182_1).trans ?_
  refine (S_iconst at_182_2).trans ?_
  refine (S_istore (l1 := [some (jR 109), some (jR 128), some (jI x2), some (jI (-1)), some (jI 0), none, none, none, none]) rfl at_182_3).trans ?_
  rfl
theorem T182_5_109_128 {C : Nat → List j_V → j_H → Option j_Z} {L : Nat} {m : j_M0} {x2 : Int} {x3 : Int} {x4 : Int} {o5 : Option j_V} {o7 : Option j_V} : j_fin C 182 5 [some (jR 109), some (jR 128), some (jI x2), some (jI x3), some (jI x4), o5, none, o7, none] [] (hH L m) = if x4 < (m 128 14) then if 0 ≤ (w32 ((w32 (5 * x2)) + x4)) ∧ (w32 ((w32 (5 * x2)) + x4)) < 100 then if 0 < (j_cmp (w64 (-(m 129 (w32 ((w32 (5 * x2)) + x4)).toNat))) 0) then if x3 < 0 then if (j_cmp (-1) 0) < 0 then j_fin C 182 5 [some (jR 109), some (jR 128), some (jI x2), some (jI x4), some (jI (w32 (x4 + 1))), some (jL (w64 (-(m 129 (w32 ((w32 (5 * x2)) + x4)).toNat)))), none, some (jL (-1)), none] [] (hH L m) else if (j_cmp (-1) 0) = 0 then if 0 ≤ x4 ∧ x4 < 5 then if 0 ≤ x3 ∧ x3 < 5 then if (m 136 x4.toNat) < (m 136 x3.toNat) then j_fin C 182 5 [some (jR 109), some (jR 128), some (jI x2), some (jI x4), some (jI (w32 (x4 + 1))), some (jL (w64 (-(m 129 (w32 ((w32 (5 * x2)) + x4)).toNat)))), none, some (jL (-1)), none] [] (hH L m) else j_fin C 182 5 [some (jR 109), some (jR 128), some (jI x2), some (jI x3), some (jI (w32 (x4 + 1))), some (jL (w64 (-(m 129 (w32 ((w32 (5 * x2)) + x4)).toNat)))), none, some (jL (-1)), none] [] (hH L m) else none else none else j_fin C 182 5 [some (jR 109), some (jR 128), some (jI x2), some (jI x3), some (jI (w32 (x4 + 1))), some (jL (w64 (-(m 129 (w32 ((w32 (5 * x2)) + x4)).toNat)))), none, some (jL (-1)), none] [] (hH L m) else if 0 ≤ x4 ∧ x4 < 5 then if 0 ≤ (w32 ((w32 (5 * x2)) + x3)) ∧ (w32 ((w32 (5 * x2)) + x3)) < 100 then if 0 ≤ x3 ∧ x3 < 5 then if (j_cmp (w64 ((w64 ((m 131 x4.toNat) * (w64 (-(m 129 (w32 ((w32 (5 * x2)) + x3)).toNat))))) - (w64 ((m 131 x3.toNat) * (w64 (-(m 129 (w32 ((w32 (5 * x2)) + x4)).toNat))))))) 0) < 0 then j_fin C 182 5 [some (jR 109), some (jR 128), some (jI x2), some (jI x4), some (jI (w32 (x4 + 1))), some (jL (w64 (-(m 129 (w32 ((w32 (5 * x2)) + x4)).toNat)))), none, some (jL (w64 ((w64 ((m 131 x4.toNat) * (w64 (-(m 129 (w32 ((w32 (5 * x2)) + x3)).toNat))))) - (w64 ((m 131 x3.toNat) * (w64 (-(m 129 (w32 ((w32 (5 * x2)) + x4)).toNat)))))))), none] [] (hH L m) else if (j_cmp (w64 ((w64 ((m 131 x4.toNat) * (w64 (-(m 129 (w32 ((w32 (5 * x2)) + x3)).toNat))))) - (w64 ((m 131 x3.toNat) * (w64 (-(m 129 (w32 ((w32 (5 * x2)) + x4)).toNat))))))) 0) = 0 then if 0 ≤ x4 ∧ x4 < 5 then if 0 ≤ x3 ∧ x3 < 5 then if (m 136 x4.toNat) < (m 136 x3.toNat) then j_fin C 182 5 [some (jR 109), some (jR 128), some (jI x2), some (jI x4), some (jI (w32 (x4 + 1))), some (jL (w64 (-(m 129 (w32 ((w32 (5 * x2)) + x4)).toNat)))), none, some (jL (w64 ((w64 ((m 131 x4.toNat) * (w64 (-(m 129 (w32 ((w32 (5 * x2)) + x3)).toNat))))) - (w64 ((m 131 x3.toNat) * (w64 (-(m 129 (w32 ((w32 (5 * x2)) + x4)).toNat)))))))), none] [] (hH L m) else j_fin C 182 5 [some (jR 109), some (jR 128), some (jI x2), some (jI x3), some (jI (w32 (x4 + 1))), some (jL (w64 (-(m 129 (w32 ((w32 (5 * x2)) + x4)).toNat)))), none, some (jL (w64 ((w64 ((m 131 x4.toNat) * (w64 (-(m 129 (w32 ((w32 (5 * x2)) + x3)).toNat))))) - (w64 ((m 131 x3.toNat) * (w64 (-(m 129 (w32 ((w32 (5 * x2)) + x4)).toNat)))))))), none] [] (hH L m) else none else none else j_fin C 182 5 [some (jR 109), some (jR 128), some (jI x2), some (jI x3), some (jI (w32 (x4 + 1))), some (jL (w64 (-(m 129 (w32 ((w32 (5 * x2)) + x4)).toNat)))), none, some (jL (w64 ((w64 ((m 131 x4.toNat) * (w64 (-(m 129 (w32 ((w32 (5 * x2)) + x3)).toNat))))) - (w64 ((m 131 x3.toNat) * (w64 (-(m 129 (w32 ((w32 (5 * x2)) + x4)).toNat)))))))), none] [] (hH L m) else none else none else none else j_fin C 182 5 [some (jR 109), some (jR 128), some (jI x2), some (jI x3), some (jI (w32 (x4 + 1))), some (jL (w64 (-(m 129 (w32 ((w32 (5 * x2)) + x4)).toNat)))), none, o7, none] [] (hH L m) else none else some (some (jI x3), hH L m) := by
  refine (S_iload rfl at_182_5).trans ?_
  refine (S_aload_n rfl at_182_7).trans ?_
  refine (H_get0 (ka_128 L _) rfl at_182_8).trans ?_
  refine (S_icmp_ge at_182_11).trans ?_
  refine ite_congr rfl (fun _ => ?_) (fun _ => ?_)
  · refine (S_aload_n rfl at_182_14).trans ?_
    refine (S_getR (ka_128 L _) rfl (f_128_0 L _) at_182_15).trans ?_
    refine (S_iconst at_182_18).trans ?_
    refine (S_iload_n rfl at_182_19).trans ?_
    refine (S_imul at_182_20).trans ?_
    refine (S_iload rfl at_182_21).trans ?_
    refine (S_iadd at_182_23).trans ?_
    refine (H_laload (ka_129 L _) at_182_24).trans ?_
    refine ite_congr rfl (fun hi => ?_) (fun _ => rfl)
    refine (S_lneg at_182_25).trans ?_
    refine (S_lstore (l1 := [some (jR 109), some (jR 128), some (jI x2), some (jI x3), some (jI x4), some (jL (w64 (-(m 129 (w32 ((w32 (5 * x2)) + x4)).toNat)))), none, o7, none]) rfl at_182_26).trans ?_
    refine (S_lload rfl at_182_28).trans ?_
    refine (S_lconst at_182_30).trans ?_
    refine (S_lcmp at_182_31).trans ?_
    refine (S_if_gt at_182_32).trans ?_
    refine ite_congr rfl (fun _ => ?_) (fun _ => ?_)
    · refine (S_iload_n rfl at_182_38).trans ?_
      refine (S_if_ge at_182_39).trans ?_
      refine ite_congr rfl (fun _ => ?_) (fun _ => ?_)
      · refine (S_ldc2_w at_182_42).trans ?_
        refine (S_goto at_182_45).trans ?_
        refine (S_lstore (l1 := [some (jR 109), some (jR 128), some (jI x2), some (jI x3), some (jI x4), some (jL (w64 (-(m 129 (w32 ((w32 (5 * x2)) + x4)).toNat)))), none, some (jL (-1)), none]) rfl at_182_77).trans ?_
        refine (S_lload rfl at_182_79).trans ?_
        refine (S_lconst at_182_81).trans ?_
        refine (S_lcmp at_182_82).trans ?_
        refine (S_if_lt at_182_83).trans ?_
        refine ite_congr rfl (fun _ => ?_) (fun _ => ?_)
        · refine (S_iload rfl at_182_109).trans ?_
          refine (S_istore_n (l1 := [some (jR 109), some (jR 128), some (jI x2), some (jI x4), some (jI x4), some (jL (w64 (-(m 129 (w32 ((w32 (5 * x2)) + x4)).toNat)))), none, some (jL (-1)), none]) rfl at_182_111).trans ?_
          refine (S_iinc (l1 := [some (jR 109), some (jR 128), some (jI x2), some (jI x4), some (jI (w32 (x4 + 1))), some (jL (w64 (-(m 129 (w32 ((w32 (5 * x2)) + x4)).toNat)))), none, some (jL (-1)), none]) rfl rfl at_182_112).trans ?_
          refine (S_goto at_182_115).trans ?_
          rfl
        · refine (S_lload rfl at_182_86).trans ?_
          refine (S_lconst at_182_88).trans ?_
          refine (S_lcmp at_182_89).trans ?_
          refine (S_if_ne at_182_90).trans ?_
          refine ite_congr rfl (fun _ => ?_) (fun _ => ?_)
          · refine (S_aload_n rfl at_182_93).trans ?_
            refine (S_getR (ka_128 L _) rfl (f_128_7 L _) at_182_94).trans ?_
            refine (S_iload rfl at_182_97).trans ?_
            refine (H_iaload (ka_136 L _) at_182_99).trans ?_
            refine ite_congr rfl (fun hi => ?_) (fun _ => rfl)
            refine (S_aload_n rfl at_182_100).trans ?_
            refine (S_getR (ka_128 L _) rfl (f_128_7 L _) at_182_101).trans ?_
            refine (S_iload_n rfl at_182_104).trans ?_
            refine (H_iaload (ka_136 L _) at_182_105).trans ?_
            refine ite_congr rfl (fun hi => ?_) (fun _ => rfl)
            refine (S_icmp_ge at_182_106).trans ?_
            refine ite_congr rfl (fun _ => ?_) (fun _ => ?_)
            · refine (S_iload rfl at_182_109).trans ?_
              refine (S_istore_n (l1 := [some (jR 109), some (jR 128), some (jI x2), some (jI x4), some (jI x4), some (jL (w64 (-(m 129 (w32 ((w32 (5 * x2)) + x4)).toNat)))), none, some (jL (-1)), none]) rfl at_182_111).trans ?_
              refine (S_iinc (l1 := [some (jR 109), some (jR 128), some (jI x2), some (jI x4), some (jI (w32 (x4 + 1))), some (jL (w64 (-(m 129 (w32 ((w32 (5 * x2)) + x4)).toNat)))), none, some (jL (-1)), none]) rfl rfl at_182_112).trans ?_
              refine (S_goto at_182_115).trans ?_
              rfl
            · refine (S_iinc (l1 := [some (jR 109), some (jR 128), some (jI x2), some (jI x3), some (jI (w32 (x4 + 1))), some (jL (w64 (-(m 129 (w32 ((w32 (5 * x2)) + x4)).toNat)))), none, some (jL (-1)), none]) rfl rfl at_182_112).trans ?_
              refine (S_goto at_182_115).trans ?_
              rfl
          · refine (S_iinc (l1 := [some (jR 109), some (jR 128), some (jI x2), some (jI x3), some (jI (w32 (x4 + 1))), some (jL (w64 (-(m 129 (w32 ((w32 (5 * x2)) + x4)).toNat)))), none, some (jL (-1)), none]) rfl rfl at_182_112).trans ?_
            refine (S_goto at_182_115).trans ?_
            rfl
      · refine (S_aload_n rfl at_182_48).trans ?_
        refine (S_getR (ka_128 L _) rfl (f_128_2 L _) at_182_49).trans ?_
        refine (S_iload rfl at_182_52).trans ?_
        refine (H_laload (ka_131 L _) at_182_54).trans ?_
        refine ite_congr rfl (fun hi => ?_) (fun _ => rfl)
        refine (S_aload_n rfl at_182_55).trans ?_
        refine (S_getR (ka_128 L _) rfl (f_128_0 L _) at_182_56).trans ?_
        refine (S_iconst at_182_59).trans ?_
        refine (S_iload_n rfl at_182_60).trans ?_
        refine (S_imul at_182_61).trans ?_
        refine (S_iload_n rfl at_182_62).trans ?_
        refine (S_iadd at_182_63).trans ?_
        refine (H_laload (ka_129 L _) at_182_64).trans ?_
        refine ite_congr rfl (fun hi => ?_) (fun _ => rfl)
        refine (S_lneg at_182_65).trans ?_
        refine (S_lmul at_182_66).trans ?_
        refine (S_aload_n rfl at_182_67).trans ?_
        refine (S_getR (ka_128 L _) rfl (f_128_2 L _) at_182_68).trans ?_
        refine (S_iload_n rfl at_182_71).trans ?_
        refine (H_laload (ka_131 L _) at_182_72).trans ?_
        refine ite_congr rfl (fun hi => ?_) (fun _ => rfl)
        refine (S_lload rfl at_182_73).trans ?_
        refine (S_lmul at_182_75).trans ?_
        refine (S_lsub at_182_76).trans ?_
        refine (S_lstore (l1 := [some (jR 109), some (jR 128), some (jI x2), some (jI x3), some (jI x4), some (jL (w64 (-(m 129 (w32 ((w32 (5 * x2)) + x4)).toNat)))), none, some (jL (w64 ((w64 ((m 131 x4.toNat) * (w64 (-(m 129 (w32 ((w32 (5 * x2)) + x3)).toNat))))) - (w64 ((m 131 x3.toNat) * (w64 (-(m 129 (w32 ((w32 (5 * x2)) + x4)).toNat)))))))), none]) rfl at_182_77).trans ?_
        refine (S_lload rfl at_182_79).trans ?_
        refine (S_lconst at_182_81).trans ?_
        refine (S_lcmp at_182_82).trans ?_
        refine (S_if_lt at_182_83).trans ?_
        refine ite_congr rfl (fun _ => ?_) (fun _ => ?_)
        · refine (S_iload rfl at_182_109).trans ?_
          refine (S_istore_n (l1 := [some (jR 109), some (jR 128), some (jI x2), some (jI x4), some (jI x4), some (jL (w64 (-(m 129 (w32 ((w32 (5 * x2)) + x4)).toNat)))), none, some (jL (w64 ((w64 ((m 131 x4.toNat) * (w64 (-(m 129 (w32 ((w32 (5 * x2)) + x3)).toNat))))) - (w64 ((m 131 x3.toNat) * (w64 (-(m 129 (w32 ((w32 (5 * x2)) + x4)).toNat)))))))), none]) rfl at_182_111).trans ?_
          refine (S_iinc (l1 := [some (jR 109), some (jR 128), some (jI x2), some (jI x4), some (jI (w32 (x4 + 1))), some (jL (w64 (-(m 129 (w32 ((w32 (5 * x2)) + x4)).toNat)))), none, some (jL (w64 ((w64 ((m 131 x4.toNat) * (w64 (-(m 129 (w32 ((w32 (5 * x2)) + x3)).toNat))))) - (w64 ((m 131 x3.toNat) * (w64 (-(m 129 (w32 ((w32 (5 * x2)) + x4)).toNat)))))))), none]) rfl rfl at_182_112).trans ?_
          refine (S_goto at_182_115).trans ?_
          rfl
        · refine (S_lload rfl at_182_86).trans ?_
          refine (S_lconst at_182_88).trans ?_
          refine (S_lcmp at_182_89).trans ?_
          refine (S_if_ne at_182_90).trans ?_
          refine ite_congr rfl (fun _ => ?_) (fun _ => ?_)
          · refine (S_aload_n rfl at_182_93).trans ?_
            refine (S_getR (ka_128 L _) rfl (f_128_7 L _) at_182_94).trans ?_
            refine (S_iload rfl at_182_97).trans ?_
            refine (H_iaload (ka_136 L _) at_182_99).trans ?_
            refine ite_congr rfl (fun hi => ?_) (fun _ => rfl)
            refine (S_aload_n rfl at_182_100).trans ?_
            refine (S_getR (ka_128 L _) rfl (f_128_7 L _) at_182_101).trans ?_
            refine (S_iload_n rfl at_182_104).trans ?_
            refine (H_iaload (ka_136 L _) at_182_105).trans ?_
            refine ite_congr rfl (fun hi => ?_) (fun _ => rfl)
            refine (S_icmp_ge at_182_106).trans ?_
            refine ite_congr rfl (fun _ => ?_) (fun _ => ?_)
            · refine (S_iload rfl at_182_109).trans ?_
              refine (S_istore_n (l1 := [some (jR 109), some (jR 128), some (jI x2), some (jI x4), some (jI x4), some (jL (w64 (-(m 129 (w32 ((w32 (5 * x2)) + x4)).toNat)))), none, some (jL (w64 ((w64 ((m 131 x4.toNat) * (w64 (-(m 129 (w32 ((w32 (5 * x2)) + x3)).toNat))))) - (w64 ((m 131 x3.toNat) * (w64 (-(m 129 (w32 ((w32 (5 * x2)) + x4)).toNat)))))))), none]) rfl at_182_111).trans ?_
              refine (S_iinc (l1 := [some (jR 109), some (jR 128), some (jI x2), some (jI x4), some (jI (w32 (x4 + 1))), some (jL (w64 (-(m 129 (w32 ((w32 (5 * x2)) + x4)).toNat)))), none, some (jL (w64 ((w64 ((m 131 x4.toNat) * (w64 (-(m 129 (w32 ((w32 (5 * x2)) + x3)).toNat))))) - (w64 ((m 131 x3.toNat) * (w64 (-(m 129 (w32 ((w32 (5 * x2)) + x4)).toNat)))))))), none]) rfl rfl at_182_112).trans ?_
              refine (S_goto at_182_115).trans ?_
              rfl
            · refine (S_iinc (l1 := [some (jR 109), some (jR 128), some (jI x2), some (jI x3), some (jI (w32 (x4 + 1))), some (jL (w64 (-(m 129 (w32 ((w32 (5 * x2)) + x4)).toNat)))), none, some (jL (w64 ((w64 ((m 131 x4.toNat) * (w64 (-(m 129 (w32 ((w32 (5 * x2)) + x3)).toNat))))) - (w64 ((m 131 x3.toNat) * (w64 (-(m 129 (w32 ((w32 (5 * x2)) + x4)).toNat)))))))), none]) rfl rfl at_182_112).trans ?_
              refine (S_goto at_182_115).trans ?_
              rfl
          · refine (S_iinc (l1 := [some (jR 109), some (jR 128), some (jI x2), some (jI x3), some (jI (w32 (x4 + 1))), some (jL (w64 (-(m 129 (w32 ((w32 (5 * x2)) + x4)).toNat)))), none, some (jL (w64 ((w64 ((m 131 x4.toNat) * (w64 (-(m 129 (w32 ((w32 (5 * x2)) + x3)).toNat))))) - (w64 ((m 131 x3.toNat) * (w64 (-(m 129 (w32 ((w32 (5 * x2)) + x4)).toNat)))))))), none]) rfl rfl at_182_112).trans ?_
            refine (S_goto at_182_115).trans ?_
            rfl
    · refine (S_goto at_182_35).trans ?_
      refine (S_iinc (l1 := [some (jR 109), some (jR 128), some (jI x2), some (jI x3), some (jI (w32 (x4 + 1))), some (jL (w64 (-(m 129 (w32 ((w32 (5 * x2)) + x4)).toNat)))), none, o7, none]) rfl rfl at_182_112).trans ?_
      refine (S_goto at_182_115).trans ?_
      rfl
  · refine (S_iload_n rfl at_182_118).trans ?_
    exact S_ireti rfl at_182_119
theorem T183_0_109_115 {C : Nat → List j_V → j_H → Option j_Z} {L : Nat} {m : j_M0} {o2 : Option j_V} {o3 : Option j_V} : j_fin C 183 0 [some (jR 109), some (jR 115), o2, o3] [] (hH L m) = j_fin C 183 4 [some (jR 109), some (jR 115), some (jI (-1)), some (jI 0)] [] (hH L m) := by
  refine (S_iconst at_183_0).trans ?_
  refine (S_istore_n (l1 := [some (jR 109), some (jR 115), some (jI (-1)), o3]) rfl at_183_1).trans ?_
  refine (S_iconst at_183_2).trans ?_
  refine (S_istore_n (l1 := [some (jR 109), some (jR 115), some (jI (-1)), some (jI 0)]) rfl at_183_3).trans ?_
  rfl
theorem T183_4_109_115 {C : Nat → List j_V → j_H → Option j_Z} {L : Nat} {m : j_M0} {x2 : Int} {x3 : Int} : j_fin C 183 4 [some (jR 109), some (jR 115), some (jI x2), some (jI x3)] [] (hH L m) = if x3 < (m 115 15) then if 0 ≤ x3 ∧ x3 < 20 then if (j_cmp (m 117 x3.toNat) 0) < 0 then if x2 < 0 then j_fin C 183 4 [some (jR 109), some (jR 115), some (jI x3), some (jI (w32 (x3 + 1)))] [] (hH L m) else if 0 ≤ x3 ∧ x3 < 20 then if 0 ≤ x2 ∧ x2 < 20 then if (j_cmp (m 117 x3.toNat) (m 117 x2.toNat)) < 0 then j_fin C 183 4 [some (jR 109), some (jR 115), some (jI x3), some (jI (w32 (x3 + 1)))] [] (hH L m) else j_fin C 183 4 [some (jR 109), some (jR 115), some (jI x2), some (jI (w32 (x3 + 1)))] [] (hH L m) else none else none else j_fin C 183 4 [some (jR 109), some (jR 115), some (jI x2), some (jI (w32 (x3 + 1)))] [] (hH L m) else none else if x2 < 0 then some (some (jI 1), hH L m) else (C 182 [jR 109, jR 115, jI x2] (hH L m)).bind fun z => j_fin C 183 63 [some (jR 109), some (jR 115), some (jI x2), some (jI x3)] (z.1.toList ++ []) z.2 := by
  refine (S_iload_n rfl at_183_4).trans ?_
  refine (S_aload_n rfl at_183_5).trans ?_
  refine (H_get0 (ka_115 L _) rfl at_183_6).trans ?_
  refine (S_icmp_ge at_183_9).trans ?_
  refine ite_congr rfl (fun _ => ?_) (fun _ => ?_)
  · refine (S_aload_n rfl at_183_12).trans ?_
    refine (S_getR (ka_115 L _) rfl (f_115_1 L _) at_183_13).trans ?_
    refine (S_iload_n rfl at_183_16).trans ?_
    refine (H_laload (ka_117 L _) at_183_17).trans ?_
    refine ite_congr rfl (fun hi => ?_) (fun _ => rfl)
    refine (S_lconst at_183_18).trans ?_
    refine (S_lcmp at_183_19).trans ?_
    refine (S_if_ge at_183_20).trans ?_
    refine ite_congr rfl (fun _ => ?_) (fun _ => ?_)
    · refine (S_iload_n rfl at_183_23).trans ?_
      refine (S_if_lt at_183_24).trans ?_
      refine ite_congr rfl (fun _ => ?_) (fun _ => ?_)
      · refine (S_iload_n rfl at_183_43).trans ?_
        refine (S_istore_n (l1 := [some (jR 109), some (jR 115), some (jI x3), some (jI x3)]) rfl at_183_44).trans ?_
        refine (S_iinc (l1 := [some (jR 109), some (jR 115), some (jI x3), some (jI (w32 (x3 + 1)))]) rfl rfl at_183_45).trans ?_
        refine (S_goto at_183_48).trans ?_
        rfl
      · refine (S_aload_n rfl at_183_27).trans ?_
        refine (S_getR (ka_115 L _) rfl (f_115_1 L _) at_183_28).trans ?_
        refine (S_iload_n rfl at_183_31).trans ?_
        refine (H_laload (ka_117 L _) at_183_32).trans ?_
        refine ite_congr rfl (fun hi => ?_) (fun _ => rfl)
        refine (S_aload_n rfl at_183_33).trans ?_
        refine (S_getR (ka_115 L _) rfl (f_115_1 L _) at_183_34).trans ?_
        refine (S_iload_n rfl at_183_37).trans ?_
        refine (H_laload (ka_117 L _) at_183_38).trans ?_
        refine ite_congr rfl (fun hi => ?_) (fun _ => rfl)
        refine (S_lcmp at_183_39).trans ?_
        refine (S_if_ge at_183_40).trans ?_
        refine ite_congr rfl (fun _ => ?_) (fun _ => ?_)
        · refine (S_iload_n rfl at_183_43).trans ?_
          refine (S_istore_n (l1 := [some (jR 109), some (jR 115), some (jI x3), some (jI x3)]) rfl at_183_44).trans ?_
          refine (S_iinc (l1 := [some (jR 109), some (jR 115), some (jI x3), some (jI (w32 (x3 + 1)))]) rfl rfl at_183_45).trans ?_
          refine (S_goto at_183_48).trans ?_
          rfl
        · refine (S_iinc (l1 := [some (jR 109), some (jR 115), some (jI x2), some (jI (w32 (x3 + 1)))]) rfl rfl at_183_45).trans ?_
          refine (S_goto at_183_48).trans ?_
          rfl
    · refine (S_iinc (l1 := [some (jR 109), some (jR 115), some (jI x2), some (jI (w32 (x3 + 1)))]) rfl rfl at_183_45).trans ?_
      refine (S_goto at_183_48).trans ?_
      rfl
  · refine (S_iload_n rfl at_183_51).trans ?_
    refine (S_if_ge at_183_52).trans ?_
    refine ite_congr rfl (fun _ => ?_) (fun _ => ?_)
    · refine (S_iconst at_183_55).trans ?_
      exact S_ireti rfl at_183_56
    · refine (S_aload_n rfl at_183_57).trans ?_
      refine (S_aload_n rfl at_183_58).trans ?_
      refine (S_iload_n rfl at_183_59).trans ?_
      refine (S_invv (b := 2) kn_182 rfl (ka_109 L _) (Nat.le_of_ble_eq_true rfl) at_183_60).trans ?_
      rfl
theorem T183_63_109_115 {C : Nat → List j_V → j_H → Option j_Z} {L : Nat} {m : j_M0} {x2 : Int} {x3 : Int} {s0 : Int} : j_fin C 183 63 [some (jR 109), some (jR 115), some (jI x2), some (jI x3)] [jI s0] (hH L m) = if s0 < 0 then some (some (jI 0), hH L m) else if (m 115 17) = 60 then some (some (jI (-6)), hH L m) else (C 181 [jR 109, jR 115, jI x2, jI s0] (hH L m)).bind fun z => j_fin C 183 86 [some (jR 109), some (jR 115), some (jI x2), some (jI s0)] (z.1.toList ++ []) z.2 := by
  refine (S_istore_n (l1 := [some (jR 109), some (jR 115), some (jI x2), some (jI s0)]) rfl at_183_63).trans ?_
  refine (S_iload_n rfl at_183_64).trans ?_
  refine (S_if_ge at_183_65).trans ?_
  refine ite_congr rfl (fun _ => ?_) (fun _ => ?_)
  · refine (S_iconst at_183_68).trans ?_
    exact S_ireti rfl at_183_69
  · refine (S_aload_n rfl at_183_70).trans ?_
    refine (H_get0 (ka_115 L _) rfl at_183_71).trans ?_
    refine (S_bipush at_183_74).trans ?_
    refine (S_icmp_eq at_183_76).trans ?_
    refine ite_congr rfl (fun _ => ?_) (fun _ => ?_)
    · refine (S_bipush at_183_89).trans ?_
      exact S_ireti rfl at_183_91
    · refine (S_aload_n rfl at_183_79).trans ?_
      refine (S_aload_n rfl at_183_80).trans ?_
      refine (S_iload_n rfl at_183_81).trans ?_
      refine (S_iload_n rfl at_183_82).trans ?_
      refine (S_invv (b := 3) kn_181 rfl (ka_109 L _) (Nat.le_of_ble_eq_true rfl) at_183_83).trans ?_
      rfl
theorem T183_86_109_115 {C : Nat → List j_V → j_H → Option j_Z} {L : Nat} {m : j_M0} {x2 : Int} {x3 : Int} {s0 : Int} : j_fin C 183 86 [some (jR 109), some (jR 115), some (jI x2), some (jI x3)] [jI s0] (hH L m) = if s0 = 0 then some (some (jI (-6)), hH L m) else j_fin C 183 0 [some (jR 109), some (jR 115), some (jI x2), some (jI x3)] [] (hH L m) := by
  refine (S_if_ne at_183_86).trans ?_
  refine ite_congr rfl (fun _ => ?_) (fun _ => ?_)
  · refine (S_bipush at_183_89).trans ?_
    exact S_ireti rfl at_183_91
  · refine (S_goto at_183_92).trans ?_
    rfl
theorem T183_0_109_128 {C : Nat → List j_V → j_H → Option j_Z} {L : Nat} {m : j_M0} {o2 : Option j_V} {o3 : Option j_V} : j_fin C 183 0 [some (jR 109), some (jR 128), o2, o3] [] (hH L m) = j_fin C 183 4 [some (jR 109), some (jR 128), some (jI (-1)), some (jI 0)] [] (hH L m) := by
  refine (S_iconst at_183_0).trans ?_
  refine (S_istore_n (l1 := [some (jR 109), some (jR 128), some (jI (-1)), o3]) rfl at_183_1).trans ?_
  refine (S_iconst at_183_2).trans ?_
  refine (S_istore_n (l1 := [some (jR 109), some (jR 128), some (jI (-1)), some (jI 0)]) rfl at_183_3).trans ?_
  rfl
theorem T183_4_109_128 {C : Nat → List j_V → j_H → Option j_Z} {L : Nat} {m : j_M0} {x2 : Int} {x3 : Int} : j_fin C 183 4 [some (jR 109), some (jR 128), some (jI x2), some (jI x3)] [] (hH L m) = if x3 < (m 128 15) then if 0 ≤ x3 ∧ x3 < 20 then if (j_cmp (m 130 x3.toNat) 0) < 0 then if x2 < 0 then j_fin C 183 4 [some (jR 109), some (jR 128), some (jI x3), some (jI (w32 (x3 + 1)))] [] (hH L m) else if 0 ≤ x3 ∧ x3 < 20 then if 0 ≤ x2 ∧ x2 < 20 then if (j_cmp (m 130 x3.toNat) (m 130 x2.toNat)) < 0 then j_fin C 183 4 [some (jR 109), some (jR 128), some (jI x3), some (jI (w32 (x3 + 1)))] [] (hH L m) else j_fin C 183 4 [some (jR 109), some (jR 128), some (jI x2), some (jI (w32 (x3 + 1)))] [] (hH L m) else none else none else j_fin C 183 4 [some (jR 109), some (jR 128), some (jI x2), some (jI (w32 (x3 + 1)))] [] (hH L m) else none else if x2 < 0 then some (some (jI 1), hH L m) else (C 182 [jR 109, jR 128, jI x2] (hH L m)).bind fun z => j_fin C 183 63 [some (jR 109), some (jR 128), some (jI x2), some (jI x3)] (z.1.toList ++ []) z.2 := by
  refine (S_iload_n rfl at_183_4).trans ?_
  refine (S_aload_n rfl at_183_5).trans ?_
  refine (H_get0 (ka_128 L _) rfl at_183_6).trans ?_
  refine (S_icmp_ge at_183_9).trans ?_
  refine ite_congr rfl (fun _ => ?_) (fun _ => ?_)
  · refine (S_aload_n rfl at_183_12).trans ?_
    refine (S_getR (ka_128 L _) rfl (f_128_1 L _) at_183_13).trans ?_
    refine (S_iload_n rfl at_183_16).trans ?_
    refine (H_laload (ka_130 L _) at_183_17).trans ?_
    refine ite_congr rfl (fun hi => ?_) (fun _ => rfl)
    refine (S_lconst at_183_18).trans ?_
    refine (S_lcmp at_183_19).trans ?_
    refine (S_if_ge at_183_20).trans ?_
    refine ite_congr rfl (fun _ => ?_) (fun _ => ?_)
    · refine (S_iload_n rfl at_183_23).trans ?_
      refine (S_if_lt at_183_24).trans ?_
      refine ite_congr rfl (fun _ => ?_) (fun _ => ?_)
      · refine (S_iload_n rfl at_183_43).trans ?_
        refine (S_istore_n (l1 := [some (jR 109), some (jR 128), some (jI x3), some (jI x3)]) rfl at_183_44).trans ?_
        refine (S_iinc (l1 := [some (jR 109), some (jR 128), some (jI x3), some (jI (w32 (x3 + 1)))]) rfl rfl at_183_45).trans ?_
        refine (S_goto at_183_48).trans ?_
        rfl
      · refine (S_aload_n rfl at_183_27).trans ?_
        refine (S_getR (ka_128 L _) rfl (f_128_1 L _) at_183_28).trans ?_
        refine (S_iload_n rfl at_183_31).trans ?_
        refine (H_laload (ka_130 L _) at_183_32).trans ?_
        refine ite_congr rfl (fun hi => ?_) (fun _ => rfl)
        refine (S_aload_n rfl at_183_33).trans ?_
        refine (S_getR (ka_128 L _) rfl (f_128_1 L _) at_183_34).trans ?_
        refine (S_iload_n rfl at_183_37).trans ?_
        refine (H_laload (ka_130 L _) at_183_38).trans ?_
        refine ite_congr rfl (fun hi => ?_) (fun _ => rfl)
        refine (S_lcmp at_183_39).trans ?_
        refine (S_if_ge at_183_40).trans ?_
        refine ite_congr rfl (fun _ => ?_) (fun _ => ?_)
        · refine (S_iload_n rfl at_183_43).trans ?_
          refine (S_istore_n (l1 := [some (jR 109), some (jR 128), some (jI x3), some (jI x3)]) rfl at_183_44).trans ?_
          refine (S_iinc (l1 := [some (jR 109), some (jR 128), some (jI x3), some (jI (w32 (x3 + 1)))]) rfl rfl at_183_45).trans ?_
          refine (S_goto at_183_48).trans ?_
          rfl
        · refine (S_iinc (l1 := [some (jR 109), some (jR 128), some (jI x2), some (jI (w32 (x3 + 1)))]) rfl rfl at_183_45).trans ?_
          refine (S_goto at_183_48).trans ?_
          rfl
    · refine (S_iinc (l1 := [some (jR 109), some (jR 128), some (jI x2), some (jI (w32 (x3 + 1)))]) rfl rfl at_183_45).trans ?_
      refine (S_goto at_183_48).trans ?_
      rfl
  · refine (S_iload_n rfl at_183_51).trans ?_
    refine (S_if_ge at_183_52).trans ?_
    refine ite_congr rfl (fun _ => ?_) (fun _ => ?_)
    · refine (S_iconst at_183_55).trans ?_
      exact S_ireti rfl at_183_56
    · refine (S_aload_n rfl at_183_57).trans ?_
      refine (S_aload_n rfl at_183_58).trans ?_
      refine (S_iload_n rfl at_183_59).trans ?_
      refine (S_invv (b := 2) kn_182 rfl (ka_109 L _) (Nat.le_of_ble_eq_true rfl) at_183_60).trans ?_
      rfl
theorem T183_63_109_128 {C : Nat → List j_V → j_H → Option j_Z} {L : Nat} {m : j_M0} {x2 : Int} {x3 : Int} {s0 : Int} : j_fin C 183 63 [some (jR 109), some (jR 128), some (jI x2), some (jI x3)] [jI s0] (hH L m) = if s0 < 0 then some (some (jI 0), hH L m) else if (m 128 17) = 60 then some (some (jI (-6)), hH L m) else (C 181 [jR 109, jR 128, jI x2, jI s0] (hH L m)).bind fun z => j_fin C 183 86 [some (jR 109), some (jR 128), some (jI x2), some (jI s0)] (z.1.toList ++ []) z.2 := by
  refine (S_istore_n (l1 := [some (jR 109), some (jR 128), some (jI x2), some (jI s0)]) rfl at_183_63).trans ?_
  refine (S_iload_n rfl at_183_64).trans ?_
  refine (S_if_ge at_183_65).trans ?_
  refine ite_congr rfl (fun _ => ?_) (fun _ => ?_)
  · refine (S_iconst at_183_68).trans ?_
    exact S_ireti rfl at_183_69
  · refine (S_aload_n rfl at_183_70).trans ?_
    refine (H_get0 (ka_128 L _) rfl at_183_71).trans ?_
    refine (S_bipush at_183_74).trans ?_
    refine (S_icmp_eq at_183_76).trans ?_
    refine ite_congr rfl (fun _ => ?_) (fun _ => ?_)
    · refine (S_bipush at_183_89).trans ?_
      exact S_ireti rfl at_183_91
    · refine (S_aload_n rfl at_183_79).trans ?_
      refine (S_aload_n rfl at_183_80).trans ?_
      refine (S_iload_n rfl at_183_81).trans ?_
      refine (S_iload_n rfl at_183_82).trans ?_
      refine (S_invv (b := 3) kn_181 rfl (ka_109 L _) (Nat.le_of_ble_eq_true rfl) at_183_83).trans ?_
      rfl
theorem T183_86_109_128 {C : Nat → List j_V → j_H → Option j_Z} {L : Nat} {m : j_M0} {x2 : Int} {x3 : Int} {s0 : Int} : j_fin C 183 86 [some (jR 109), some (jR 128), some (jI x2), some (jI x3)] [jI s0] (hH L m) = if s0 = 0 then some (some (jI (-6)), hH L m) else j_fin C 183 0 [some (jR 109), some (jR 128), some (jI x2), some (jI x3)] [] (hH L m) := by
  refine (S_if_ne at_183_86).trans ?_
  refine ite_congr rfl (fun _ => ?_) (fun _ => ?_)
  · refine (S_bipush at_183_89).trans ?_
    exact S_ireti rfl at_183_91
  · refine (S_goto at_183_92).trans ?_
    rfl
theorem T184_0_109_115 {C : Nat → List j_V → j_H → Option j_Z} {L : Nat} {m : j_M0} {x2 : Int} : j_fin C 184 0 [some (jR 109), some (jR 115), some (jI x2), none] [] (hH L m) = j_fin C 184 2 [some (jR 109), some (jR 115), some (jI x2), some (jI 0)] [] (hH L m) := by
  refine (S_iconst at_184_0).trans ?_
  refine (S_istore_n (l1 := [some (jR 109), some (jR 115), some (jI x2), some (jI 0)]) rfl at_184_1).trans ?_
  rfl
theorem T184_2_109_115 {C : Nat → List j_V → j_H → Option j_Z} {L : Nat} {m : j_M0} {x2 : Int} {x3 : Int} : j_fin C 184 2 [some (jR 109), some (jR 115), some (jI x2), some (jI x3)] [] (hH L m) = if x3 < (m 115 15) then if 0 ≤ x3 ∧ x3 < 20 then if (m 122 x3.toNat) = x2 then some (some (jI x3), hH L m) else j_fin C 184 2 [some (jR 109), some (jR 115), some (jI x2), some (jI (w32 (x3 + 1)))] [] (hH L m) else none else some (some (jI (-1)), hH L m) := by
  refine (S_iload_n rfl at_184_2).trans ?_
  refine (S_aload_n rfl at_184_3).trans ?_
  refine (H_get0 (ka_115 L _) rfl at_184_4).trans ?_
  refine (S_icmp_ge at_184_7).trans ?_
  refine ite_congr rfl (fun _ => ?_) (fun _ => ?_)
  · refine (S_aload_n rfl at_184_10).trans ?_
    refine (S_getR (ka_115 L _) rfl (f_115_6 L _) at_184_11).trans ?_
    refine (S_iload_n rfl at_184_14).trans ?_
    refine (H_iaload (ka_122 L _) at_184_15).trans ?_
    refine ite_congr rfl (fun hi => ?_) (fun _ => rfl)
    refine (S_iload_n rfl at_184_16).trans ?_
    refine (S_icmp_ne at_184_17).trans ?_
    refine ite_congr rfl (fun _ => ?_) (fun _ => ?_)
    · refine (S_iload_n rfl at_184_20).trans ?_
      exact S_ireti rfl at_184_21
    · refine (S_iinc (l1 := [some (jR 109), some (jR 115), some (jI x2), some (jI (w32 (x3 + 1)))]) rfl rfl at_184_22).trans ?_
      refine (S_goto at_184_25).trans ?_
      rfl
  · refine (S_iconst at_184_28).trans ?_
    exact S_ireti rfl at_184_29
theorem T184_0_109_128 {C : Nat → List j_V → j_H → Option j_Z} {L : Nat} {m : j_M0} {x2 : Int} : j_fin C 184 0 [some (jR 109), some (jR 128), some (jI x2), none] [] (hH L m) = j_fin C 184 2 [some (jR 109), some (jR 128), some (jI x2), some (jI 0)] [] (hH L m) := by
  refine (S_iconst at_184_0).trans ?_
  refine (S_istore_n (l1 := [some (jR 109), some (jR 128), some (jI x2), some (jI 0)]) rfl at_184_1).trans ?_
  rfl
theorem T184_2_109_128 {C : Nat → List j_V → j_H → Option j_Z} {L : Nat} {m : j_M0} {x2 : Int} {x3 : Int} : j_fin C 184 2 [some (jR 109), some (jR 128), some (jI x2), some (jI x3)] [] (hH L m) = if x3 < (m 128 15) then if 0 ≤ x3 ∧ x3 < 20 then if (m 135 x3.toNat) = x2 then some (some (jI x3), hH L m) else j_fin C 184 2 [some (jR 109), some (jR 128), some (jI x2), some (jI (w32 (x3 + 1)))] [] (hH L m) else none else some (some (jI (-1)), hH L m) := by
  refine (S_iload_n rfl at_184_2).trans ?_
  refine (S_aload_n rfl at_184_3).trans ?_
  refine (H_get0 (ka_128 L _) rfl at_184_4).trans ?_
  refine (S_icmp_ge at_184_7).trans ?_
  refine ite_congr rfl (fun _ => ?_) (fun _ => ?_)
  · refine (S_aload_n rfl at_184_10).trans ?_
    refine (S_getR (ka_128 L _) rfl (f_128_6 L _) at_184_11).trans ?_
    refine (S_iload_n rfl at_184_14).trans ?_
    refine (H_iaload (ka_135 L _) at_184_15).trans ?_
    refine ite_congr rfl (fun hi => ?_) (fun _ => rfl)
    refine (S_iload_n rfl at_184_16).trans ?_
    refine (S_icmp_ne at_184_17).trans ?_
    refine ite_congr rfl (fun _ => ?_) (fun _ => ?_)
    · refine (S_iload_n rfl at_184_20).trans ?_
      exact S_ireti rfl at_184_21
    · refine (S_iinc (l1 := [some (jR 109), some (jR 128), some (jI x2), some (jI (w32 (x3 + 1)))]) rfl rfl at_184_22).trans ?_
      refine (S_goto at_184_25).trans ?_
      rfl
  · refine (S_iconst at_184_28).trans ?_
    exact S_ireti rfl at_184_29
theorem T185_0_109_115 {C : Nat → List j_V → j_H → Option j_Z} {L : Nat} {m : j_M0} : j_fin C 185 0 [some (jR 109), some (jR 115), none] [] (hH L m) = j_fin C 185 2 [some (jR 109), some (jR 115), some (jI 0)] [] (hH L m) := by
  refine (S_iconst at_185_0).trans ?_
  refine (S_istore_n (l1 := [some (jR 109), some (jR 115), some (jI 0)]) rfl at_185_1).trans ?_
  rfl
theorem T185_2_109_115 {C : Nat → List j_V → j_H → Option j_Z} {L : Nat} {m : j_M0} {x2 : Int} : j_fin C 185 2 [some (jR 109), some (jR 115), some (jI x2)] [] (hH L m) = if x2 < (m 115 15) then if 0 ≤ x2 ∧ x2 < 20 then if (m 122 x2.toNat) < 10 then if 0 ≤ x2 ∧ x2 < 20 then if m 115 13 = 0 then none else if (j_cmp (Int.tmod (m 117 x2.toNat) (m 115 13)) 0) = 0 then j_fin C 185 2 [some (jR 109), some (jR 115), some (jI (w32 (x2 + 1)))] [] (hH L m) else some (some (jI x2), hH L m) else none else j_fin C 185 2 [some (jR 109), some (jR 115), some (jI (w32 (x2 + 1)))] [] (hH L m) else none else some (some (jI (-1)), hH L m) := by
  refine (S_iload_n rfl at_185_2).trans ?_
  refine (S_aload_n rfl at_185_3).trans ?_
  refine (H_get0 (ka_115 L _) rfl at_185_4).trans ?_
  refine (S_icmp_ge at_185_7).trans ?_
  refine ite_congr rfl (fun _ => ?_) (fun _ => ?_)
  · refine (S_aload_n rfl at_185_10).trans ?_
    refine (S_getR (ka_115 L _) rfl (f_115_6 L _) at_185_11).trans ?_
    refine (S_iload_n rfl at_185_14).trans ?_
    refine (H_iaload (ka_122 L _) at_185_15).trans ?_
    refine ite_congr rfl (fun hi => ?_) (fun _ => rfl)
    refine (S_bipush at_185_16).trans ?_
    refine (S_icmp_ge at_185_18).trans ?_
    refine ite_congr rfl (fun _ => ?_) (fun _ => ?_)
    · refine (S_aload_n rfl at_185_21).trans ?_
      refine (S_getR (ka_115 L _) rfl (f_115_1 L _) at_185_22).trans ?_
      refine (S_iload_n rfl at_185_25).trans ?_
      refine (H_laload (ka_117 L _) at_185_26).trans ?_
      refine ite_congr rfl (fun hi => ?_) (fun _ => rfl)
      refine (S_aload_n rfl at_185_27).trans ?_
      refine (H_get1 (ka_115 L _) rfl at_185_28).trans ?_
      refine (S_lrem at_185_31).trans ?_
      refine ite_congr rfl (fun _ => rfl) (fun hz => ?_)
      refine (S_lconst at_185_32).trans ?_
      refine (S_lcmp at_185_33).trans ?_
      refine (S_if_eq at_185_34).trans ?_
      refine ite_congr rfl (fun _ => ?_) (fun _ => ?_)
      · refine (S_iinc (l1 := [some (jR 109), some (jR 115), some (jI (w32 (x2 + 1)))]) rfl rfl at_185_39).trans ?_
        refine (S_goto at_185_42).trans ?_
        rfl
      · refine (S_iload_n rfl at_185_37).trans ?_
        exact S_ireti rfl at_185_38
    · refine (S_iinc (l1 := [some (jR 109), some (jR 115), some (jI (w32 (x2 + 1)))]) rfl rfl at_185_39).trans ?_
      refine (S_goto at_185_42).trans ?_
      rfl
  · refine (S_iconst at_185_45).trans ?_
    exact S_ireti rfl at_185_46
theorem T185_0_109_128 {C : Nat → List j_V → j_H → Option j_Z} {L : Nat} {m : j_M0} : j_fin C 185 0 [some (jR 109), some (jR 128), none] [] (hH L m) = j_fin C 185 2 [some (jR 109), some (jR 128), some (jI 0)] [] (hH L m) := by
  refine (S_iconst at_185_0).trans ?_
  refine (S_istore_n (l1 := [some (jR 109), some (jR 128), some (jI 0)]) rfl at_185_1).trans ?_
  rfl
theorem T185_2_109_128 {C : Nat → List j_V → j_H → Option j_Z} {L : Nat} {m : j_M0} {x2 : Int} : j_fin C 185 2 [some (jR 109), some (jR 128), some (jI x2)] [] (hH L m) = if x2 < (m 128 15) then if 0 ≤ x2 ∧ x2 < 20 then if (m 135 x2.toNat) < 10 then if 0 ≤ x2 ∧ x2 < 20 then if m 128 13 = 0 then none else if (j_cmp (Int.tmod (m 130 x2.toNat) (m 128 13)) 0) = 0 then j_fin C 185 2 [some (jR 109), some (jR 128), some (jI (w32 (x2 + 1)))] [] (hH L m) else some (some (jI x2), hH L m) else none else j_fin C 185 2 [some (jR 109), some (jR 128), some (jI (w32 (x2 + 1)))] [] (hH L m) else none else some (some (jI (-1)), hH L m) := by
  refine (S_iload_n rfl at_185_2).trans ?_
  refine (S_aload_n rfl at_185_3).trans ?_
  refine (H_get0 (ka_128 L _) rfl at_185_4).trans ?_
  refine (S_icmp_ge at_185_7).trans ?_
  refine ite_congr rfl (fun _ => ?_) (fun _ => ?_)
  · refine (S_aload_n rfl at_185_10).trans ?_
    refine (S_getR (ka_128 L _) rfl (f_128_6 L _) at_185_11).trans ?_
    refine (S_iload_n rfl at_185_14).trans ?_
    refine (H_iaload (ka_135 L _) at_185_15).trans ?_
    refine ite_congr rfl (fun hi => ?_) (fun _ => rfl)
    refine (S_bipush at_185_16).trans ?_
    refine (S_icmp_ge at_185_18).trans ?_
    refine ite_congr rfl (fun _ => ?_) (fun _ => ?_)
    · refine (S_aload_n rfl at_185_21).trans ?_
      refine (S_getR (ka_128 L _) rfl (f_128_1 L _) at_185_22).trans ?_
      refine (S_iload_n rfl at_185_25).trans ?_
      refine (H_laload (ka_130 L _) at_185_26).trans ?_
      refine ite_congr rfl (fun hi => ?_) (fun _ => rfl)
      refine (S_aload_n rfl at_185_27).trans ?_
      refine (H_get1 (ka_128 L _) rfl at_185_28).trans ?_
      refine (S_lrem at_185_31).trans ?_
      refine ite_congr rfl (fun _ => rfl) (fun hz => ?_)
      refine (S_lconst at_185_32).trans ?_
      refine (S_lcmp at_185_33).trans ?_
      refine (S_if_eq at_185_34).trans ?_
      refine ite_congr rfl (fun _ => ?_) (fun _ => ?_)
      · refine (S_iinc (l1 := [some (jR 109), some (jR 128), some (jI (w32 (x2 + 1)))]) rfl rfl at_185_39).trans ?_
        refine (S_goto at_185_42).trans ?_
        rfl
      · refine (S_iload_n rfl at_185_37).trans ?_
        exact S_ireti rfl at_185_38
    · refine (S_iinc (l1 := [some (jR 109), some (jR 128), some (jI (w32 (x2 + 1)))]) rfl rfl at_185_39).trans ?_
      refine (S_goto at_185_42).trans ?_
      rfl
  · refine (S_iconst at_185_45).trans ?_
    exact S_ireti rfl at_185_46
theorem T186_0_109_115 {C : Nat → List j_V → j_H → Option j_Z} {L : Nat} {m : j_M0} {x2 : Int} {x3 : Int} : j_fin C 186 0 [some (jR 109), some (jR 115), some (jI x2), some (jI x3)] [] (hH L m) = if x2 < 20 then (C 157 [jR 109, jI (w32 (x2 - 10)), jI x3] (hH L m)).bind fun z => j_fin C 186 15 [some (jR 109), some (jR 115), some (jI x2), some (jI x3)] (z.1.toList ++ []) z.2 else if 0 ≤ (w32 ((w32 (5 * (w32 (x2 - 20)))) + x3)) ∧ (w32 ((w32 (5 * (w32 (x2 - 20)))) + x3)) < 60 then some (some (jL (m 124 (w32 ((w32 (5 * (w32 (x2 - 20)))) + x3)).toNat)), hH L m) else none := by
  refine (S_iload_n rfl at_186_0).trans ?_
  refine (S_bipush at_186_1).trans ?_
  refine (S_icmp_ge at_186_3).trans ?_
  refine ite_congr rfl (fun _ => ?_) (fun _ => ?_)
  · refine (S_aload_n rfl at_186_6).trans ?_
    refine (S_iload_n rfl at_186_7).trans ?_
    refine (S_bipush at_186_8).trans ?_
    refine (S_isub at_186_10).trans ?_
    refine (S_iload_n rfl at_186_11).trans ?_
    refine (S_invv (b := 2) kn_157 rfl (ka_109 L _) (Nat.le_of_ble_eq_true rfl) at_186_12).trans ?_
    rfl
  · refine (S_aload_n rfl at_186_18).trans ?_
    refine (S_getR (ka_115 L _) rfl (f_115_8 L _) at_186_19).trans ?_
    refine (S_iconst at_186_22).trans ?_
    refine (S_iload_n rfl at_186_23).trans ?_
    refine (S_bipush at_186_24).trans ?_
    refine (S_isub at_186_26).trans ?_
    refine (S_imul at_186_27).trans ?_
    refine (S_iload_n rfl at_186_28).trans ?_
    refine (S_iadd at_186_29).trans ?_
    refine (H_laload (ka_124 L _) at_186_30).trans ?_
    refine ite_congr rfl (fun hi => ?_) (fun _ => rfl)
    exact S_lret rfl at_186_31
theorem T186_15_109_115 {C : Nat → List j_V → j_H → Option j_Z} {L : Nat} {m : j_M0} {x2 : Int} {x3 : Int} {t0 : Int} : j_fin C 186 15 [some (jR 109), some (jR 115), some (jI x2), some (jI x3)] [jL t0] (hH L m) = some (some (jL t0), hH L m) := by
  refine (S_goto at_186_15).trans ?_
  exact S_lret rfl at_186_31
theorem T186_0_109_128 {C : Nat → List j_V → j_H → Option j_Z} {L : Nat} {m : j_M0} {x2 : Int} {x3 : Int} : j_fin C 186 0 [some (jR 109), some (jR 128), some (jI x2), some (jI x3)] [] (hH L m) = if x2 < 20 then (C 157 [jR 109, jI (w32 (x2 - 10)), jI x3] (hH L m)).bind fun z => j_fin C 186 15 [some (jR 109), some (jR 128), some (jI x2), some (jI x3)] (z.1.toList ++ []) z.2 else if 0 ≤ (w32 ((w32 (5 * (w32 (x2 - 20)))) + x3)) ∧ (w32 ((w32 (5 * (w32 (x2 - 20)))) + x3)) < 60 then some (some (jL (m 137 (w32 ((w32 (5 * (w32 (x2 - 20)))) + x3)).toNat)), hH L m) else none := by
  refine (S_iload_n rfl at_186_0).trans ?_
  refine (S_bipush at_186_1).trans ?_
  refine (S_icmp_ge at_186_3).trans ?_
  refine ite_congr rfl (fun _ => ?_) (fun _ => ?_)
  · refine (S_aload_n rfl at_186_6).trans ?_
    refine (S_iload_n rfl at_186_7).trans ?_
    refine (S_bipush at_186_8).trans ?_
    refine (S_isub at_186_10).trans ?_
    refine (S_iload_n rfl at_186_11).trans ?_
    refine (S_invv (b := 2) kn_157 rfl (ka_109 L _) (Nat.le_of_ble_eq_true rfl) at_186_12).trans ?_
    rfl
  · refine (S_aload_n rfl at_186_18).trans ?_
    refine (S_getR (ka_128 L _) rfl (f_128_8 L _) at_186_19).trans ?_
    refine (S_iconst at_186_22).trans ?_
    refine (S_iload_n rfl at_186_23).trans ?_
    refine (S_bipush at_186_24).trans ?_
    refine (S_isub at_186_26).trans ?_
    refine (S_imul at_186_27).trans ?_
    refine (S_iload_n rfl at_186_28).trans ?_
    refine (S_iadd at_186_29).trans ?_
    refine (H_laload (ka_137 L _) at_186_30).trans ?_
    refine ite_congr rfl (fun hi => ?_) (fun _ => rfl)
    exact S_lret rfl at_186_31
theorem T186_15_109_128 {C : Nat → List j_V → j_H → Option j_Z} {L : Nat} {m : j_M0} {x2 : Int} {x3 : Int} {t0 : Int} : j_fin C 186 15 [some (jR 109), some (jR 128), some (jI x2), some (jI x3)] [jL t0] (hH L m) = some (some (jL t0), hH L m) := by
  refine (S_goto at_186_15).trans ?_
  exact S_lret rfl at_186_31
theorem T187_0_109_115 {C : Nat → List j_V → j_H → Option j_Z} {L : Nat} {m : j_M0} {x2 : Int} : j_fin C 187 0 [some (jR 109), some (jR 115), some (jI x2)] [] (hH L m) = if x2 < 20 then (C 158 [jR 109, jI (w32 (x2 - 10))] (hH L m)).bind fun z => j_fin C 187 14 [some (jR 109), some (jR 115), some (jI x2)] (z.1.toList ++ []) z.2 else if 0 ≤ (w32 (x2 - 20)) ∧ (w32 (x2 - 20)) < 12 then some (some (jL (m 125 (w32 (x2 - 20)).toNat)), hH L m) else none := by
  refine (S_iload_n rfl at_187_0).trans ?_
  refine (S_bipush at_187_1).trans ?_
  refine (S_icmp_ge at_187_3).trans ?_
  refine ite_congr rfl (fun _ => ?_) (fun _ => ?_)
  · refine (S_aload_n rfl at_187_6).trans ?_
    refine (S_iload_n rfl at_187_7).trans ?_
    refine (S_bipush at_187_8).trans ?_
    refine (S_isub at_187_10).trans ?_
    refine (S_invv (b := 1) kn_158 rfl (ka_109 L _) (Nat.le_of_ble_eq_true rfl) at_187_11).trans ?_
    rfl
  · refine (S_aload_n rfl at_187_17).trans ?_
    refine (S_getR (ka_115 L _) rfl (f_115_9 L _) at_187_18).trans ?_
    refine (S_iload_n rfl at_187_21).trans ?_
    refine (S_bipush at_187_22).trans ?_
    refine (S_isub at_187_24).trans ?_
    refine (H_laload (ka_125 L _) at_187_25).trans ?_
    refine ite_congr rfl (fun hi => ?_) (fun _ => rfl)
    exact S_lret rfl at_187_26
theorem T187_14_109_115 {C : Nat → List j_V → j_H → Option j_Z} {L : Nat} {m : j_M0} {x2 : Int} {t0 : Int} : j_fin C 187 14 [some (jR 109), some (jR 115), some (jI x2)] [jL t0] (hH L m) = some (some (jL t0), hH L m) := by
  refine (S_goto at_187_14).trans ?_
  exact S_lret rfl at_187_26
theorem T187_0_109_128 {C : Nat → List j_V → j_H → Option j_Z} {L : Nat} {m : j_M0} {x2 : Int} : j_fin C 187 0 [some (jR 109), some (jR 128), some (jI x2)] [] (hH L m) = if x2 < 20 then (C 158 [jR 109, jI (w32 (x2 - 10))] (hH L m)).bind fun z => j_fin C 187 14 [some (jR 109), some (jR 128), some (jI x2)] (z.1.toList ++ []) z.2 else if 0 ≤ (w32 (x2 - 20)) ∧ (w32 (x2 - 20)) < 12 then some (some (jL (m 138 (w32 (x2 - 20)).toNat)), hH L m) else none := by
  refine (S_iload_n rfl at_187_0).trans ?_
  refine (S_bipush at_187_1).trans ?_
  refine (S_icmp_ge at_187_3).trans ?_
  refine ite_congr rfl (fun _ => ?_) (fun _ => ?_)
  · refine (S_aload_n rfl at_187_6).trans ?_
    refine (S_iload_n rfl at_187_7).trans ?_
    refine (S_bipush at_187_8).trans ?_
    refine (S_isub at_187_10).trans ?_
    refine (S_invv (b := 1) kn_158 rfl (ka_109 L _) (Nat.le_of_ble_eq_true rfl) at_187_11).trans ?_
    rfl
  · refine (S_aload_n rfl at_187_17).trans ?_
    refine (S_getR (ka_128 L _) rfl (f_128_9 L _) at_187_18).trans ?_
    refine (S_iload_n rfl at_187_21).trans ?_
    refine (S_bipush at_187_22).trans ?_
    refine (S_isub at_187_24).trans ?_
    refine (H_laload (ka_138 L _) at_187_25).trans ?_
    refine ite_congr rfl (fun hi => ?_) (fun _ => rfl)
    exact S_lret rfl at_187_26
theorem T187_14_109_128 {C : Nat → List j_V → j_H → Option j_Z} {L : Nat} {m : j_M0} {x2 : Int} {t0 : Int} : j_fin C 187 14 [some (jR 109), some (jR 128), some (jI x2)] [jL t0] (hH L m) = some (some (jL t0), hH L m) := by
  refine (S_goto at_187_14).trans ?_
  exact S_lret rfl at_187_26
theorem T188_0_109_115 {C : Nat → List j_V → j_H → Option j_Z} {L : Nat} {m : j_M0} {x2 : Int} : j_fin C 188 0 [some (jR 109), some (jR 115), some (jI x2), none, none, none, none, none, none, none, none] [] (hH L m) = j_fin C 188 11 [some (jR 109), some (jR 115), some (jI x2), some (jI (m 115 16)), some (jI 1), some (jI 0), none, none, none, none, none] [] (hH L m) := by
  refine (S_aload_n rfl at_188_0).trans ?_
  refine (H_get0 (ka_115 L _) rfl at_188_1).trans ?_
  refine (S_istore_n (l1 := [some (jR 109), some (jR 115), some (jI x2), some (jI (m 115 16)), none, none, none, none, none, none, none]) rfl at_188_4).trans ?_
  refine (S_iconst at_188_5).trans ?_
  refine (S_istore (l1 := [some (jR 109), some (jR 115), some (jI x2), some (jI (m 115 16)), some (jI 1), none, none, none, none, none, none]) rfl at_188_6).trans ?_
  refine (S_iconst at_188_8).trans ?_
  refine (S_istore (l1 := [some (jR 109), some (jR 115), some (jI x2), some (jI (m 115 16)), some (jI 1), some (jI 0), none, none, none, none, none]) rfl at_188_9).trans ?_
  rfl
theorem T188_11_109_115 {C : Nat → List j_V → j_H → Option j_Z} {L : Nat} {m : j_M0} {x2 : Int} {x3 : Int} {x4 : Int} {x5 : Int} {o6 : Option j_V} {o8 : Option j_V} {o9 : Option j_V} : j_fin C 188 11 [some (jR 109), some (jR 115), some (jI x2), some (jI x3), some (jI x4), some (jI x5), o6, none, o8, o9, none] [] (hH L m) = if x5 < (m 115 14) then if 0 ≤ x2 ∧ x2 < 20 then if (m 122 x2.toNat) = x5 then j_fin C 188 41 [some (jR 109), some (jR 115), some (jI x2), some (jI x3), some (jI x4), some (jI x5), some (jL 1), none, some (jI 0), o9, none] [] (hH L m) else j_fin C 188 41 [some (jR 109), some (jR 115), some (jI x2), some (jI x3), some (jI x4), some (jI x5), some (jL 0), none, some (jI 0), o9, none] [] (hH L m) else none else if 0 ≤ x2 ∧ x2 < 20 then (C 265 [jL (m 117 x2.toNat), jL (m 115 13)] (hH L m)).bind fun z => j_fin C 188 174 [some (jR 109), some (jR 115), some (jI x2), some (jI x3), some (jI x4), some (jI x5), o6, none, o8, o9, none] (z.1.toList ++ []) z.2 else none := by
  refine (S_iload rfl at_188_11).trans ?_
  refine (S_aload_n rfl at_188_13).trans ?_
  refine (H_get0 (ka_115 L _) rfl at_188_14).trans ?_
  refine (S_icmp_ge at_188_17).trans ?_
  refine ite_congr rfl (fun _ => ?_) (fun _ => ?_)
  · refine (S_aload_n rfl at_188_20).trans ?_
    refine (S_getR (ka_115 L _) rfl (f_115_6 L _) at_188_21).trans ?_
    refine (S_iload_n rfl at_188_24).trans ?_
    refine (H_iaload (ka_122 L _) at_188_25).trans ?_
    refine ite_congr rfl (fun hi => ?_) (fun _ => rfl)
    refine (S_iload rfl at_188_26).trans ?_
    refine (S_icmp_ne at_188_28).trans ?_
    refine ite_congr rfl (fun _ => ?_) (fun _ => ?_)
    · refine (S_lconst at_188_31).trans ?_
      refine (S_goto at_188_32).trans ?_
      refine (S_lstore (l1 := [some (jR 109), some (jR 115), some (jI x2), some (jI x3), some (jI x4), some (jI x5), some (jL 1), none, o8, o9, none]) rfl at_188_36).trans ?_
      refine (S_iconst at_188_38).trans ?_
      refine (S_istore (l1 := [some (jR 109), some (jR 115), some (jI x2), some (jI x3), some (jI x4), some (jI x5), some (jL 1), none, some (jI 0), o9, none]) rfl at_188_39).trans ?_
      rfl
    · refine (S_lconst at_188_35).trans ?_
      refine (S_lstore (l1 := [some (jR 109), some (jR 115), some (jI x2), some (jI x3), some (jI x4), some (jI x5), some (jL 0), none, o8, o9, none]) rfl at_188_36).trans ?_
      refine (S_iconst at_188_38).trans ?_
      refine (S_istore (l1 := [some (jR 109), some (jR 115), some (jI x2), some (jI x3), some (jI x4), some (jI x5), some (jL 0), none, some (jI 0), o9, none]) rfl at_188_39).trans ?_
      rfl
  · refine (S_aload_n rfl at_188_161).trans ?_
    refine (S_getR (ka_115 L _) rfl (f_115_1 L _) at_188_162).trans ?_
    refine (S_iload_n rfl at_188_165).trans ?_
    refine (H_laload (ka_117 L _) at_188_166).trans ?_
    refine ite_congr rfl (fun hi => ?_) (fun _ => rfl)
    refine (S_aload_n rfl at_188_167).trans ?_
    refine (H_get1 (ka_115 L _) rfl at_188_168).trans ?_
    refine (S_invs (by decide) (Nat.le_of_ble_eq_true rfl) (Nat.le_of_ble_eq_true rfl) at_188_171).trans ?_
    rfl
theorem T188_41_109_115 {C : Nat → List j_V → j_H → Option j_Z} {L : Nat} {m : j_M0} {x2 : Int} {x3 : Int} {x4 : Int} {x5 : Int} {y6 : Int} {x8 : Int} {o9 : Option j_V} : j_fin C 188 41 [some (jR 109), some (jR 115), some (jI x2), some (jI x3), some (jI x4), some (jI x5), some (jL y6), none, some (jI x8), o9, none] [] (hH L m) = if x8 < (m 115 14) then if 0 ≤ (w32 ((w32 (5 * x2)) + x8)) ∧ (w32 ((w32 (5 * x2)) + x8)) < 100 then (C 265 [jL (m 116 (w32 ((w32 (5 * x2)) + x8)).toNat), jL (m 115 13)] (hH L m)).bind fun z => j_fin C 188 68 [some (jR 109), some (jR 115), some (jI x2), some (jI x3), some (jI x4), some (jI x5), some (jL y6), none, some (jI x8), o9, none] (z.1.toList ++ []) z.2 else none else if 0 ≤ (w32 ((w32 (5 * x3)) + x5)) ∧ (w32 ((w32 (5 * x3)) + x5)) < 60 then (C 179 [jL y6] (hH L (j_up m 124 (w32 ((w32 (5 * x3)) + x5)).toNat y6))).bind fun z => j_fin C 188 152 [some (jR 109), some (jR 115), some (jI x2), some (jI x3), some (jI x4), some (jI x5), some (jL y6), none, some (jI x8), o9, none] (z.1.toList ++ [jI x4]) z.2 else none := by
  refine (S_iload rfl at_188_41).trans ?_
  refine (S_aload_n rfl at_188_43).trans ?_
  refine (H_get0 (ka_115 L _) rfl at_188_44).trans ?_
  refine (S_icmp_ge at_188_47).trans ?_
  refine ite_congr rfl (fun _ => ?_) (fun _ => ?_)
  · refine (S_aload_n rfl at_188_50).trans ?_
    refine (S_getR (ka_115 L _) rfl (f_115_0 L _) at_188_51).trans ?_
    refine (S_iconst at_188_54).trans ?_
    refine (S_iload_n rfl at_188_55).trans ?_
    refine (S_imul at_188_56).trans ?_
    refine (S_iload rfl at_188_57).trans ?_
    refine (S_iadd at_188_59).trans ?_
    refine (H_laload (ka_116 L _) at_188_60).trans ?_
    refine ite_congr rfl (fun hi => ?_) (fun _ => rfl)
    refine (S_aload_n rfl at_188_61).trans ?_
    refine (H_get1 (ka_115 L _) rfl at_188_62).trans ?_
    refine (S_invs (by decide) (Nat.le_of_ble_eq_true rfl) (Nat.le_of_ble_eq_true rfl) at_188_65).trans ?_
    rfl
  · refine (S_aload_n rfl at_188_132).trans ?_
    refine (S_getR (ka_115 L _) rfl (f_115_8 L _) at_188_133).trans ?_
    refine (S_iconst at_188_136).trans ?_
    refine (S_iload_n rfl at_188_137).trans ?_
    refine (S_imul at_188_138).trans ?_
    refine (S_iload rfl at_188_139).trans ?_
    refine (S_iadd at_188_141).trans ?_
    refine (S_lload rfl at_188_142).trans ?_
    refine (H_lastore (by omega) (ka_124 L _) at_188_144).trans ?_
    refine ite_congr rfl (fun hi => ?_) (fun _ => rfl)
    refine (S_iload rfl at_188_145).trans ?_
    refine (S_lload rfl at_188_147).trans ?_
    refine (S_invs (by decide) (Nat.le_of_ble_eq_true rfl) (Nat.le_of_ble_eq_true rfl) at_188_149).trans ?_
    rfl
theorem T188_68_109_115 {C : Nat → List j_V → j_H → Option j_Z} {L : Nat} {m : j_M0} {x2 : Int} {x3 : Int} {x4 : Int} {x5 : Int} {y6 : Int} {x8 : Int} {o9 : Option j_V} {t0 : Int} : j_fin C 188 68 [some (jR 109), some (jR 115), some (jI x2), some (jI x3), some (jI x4), some (jI x5), some (jL y6), none, some (jI x8), o9, none] [jL t0] (hH L m) = if 0 ≤ x8 ∧ x8 < 5 then if (m 123 x8.toNat) < 10 then if 0 ≤ x8 ∧ x8 < 5 then if (m 123 x8.toNat) = x5 then j_fin C 188 41 [some (jR 109), some (jR 115), some (jI x2), some (jI x3), some (jI x4), some (jI x5), some (jL (w64 (y6 + t0))), none, some (jI (w32 (x8 + 1))), some (jL t0), none] [] (hH L m) else j_fin C 188 41 [some (jR 109), some (jR 115), some (jI x2), some (jI x3), some (jI x4), some (jI x5), some (jL (w64 (y6 + 0))), none, some (jI (w32 (x8 + 1))), some (jL t0), none] [] (hH L m) else none else if 0 ≤ x8 ∧ x8 < 5 then (C 186 [jR 109, jR 115, jI (m 123 x8.toNat), jI x5] (hH L m)).bind fun z => j_fin C 188 122 [some (jR 109), some (jR 115), some (jI x2), some (jI x3), some (jI x4), some (jI x5), some (jL y6), none, some (jI x8), some (jL t0), none] (z.1.toList ++ [jL (w64 (-t0)), jL y6]) z.2 else none else none := by
  refine (S_lstore (l1 := [some (jR 109), some (jR 115), some (jI x2), some (jI x3), some (jI x4), some (jI x5), some (jL y6), none, some (jI x8), some (jL t0), none]) rfl at_188_68).trans ?_
  refine (S_lload rfl at_188_70).trans ?_
  refine (S_aload_n rfl at_188_72).trans ?_
  refine (S_getR (ka_115 L _) rfl (f_115_7 L _) at_188_73).trans ?_
  refine (S_iload rfl at_188_76).trans ?_
  refine (H_iaload (ka_123 L _) at_188_78).trans ?_
  refine ite_congr rfl (fun hi => ?_) (fun _ => rfl)
  refine (S_bipush at_188_79).trans ?_
  refine (S_icmp_ge at_188_81).trans ?_
  refine ite_congr rfl (fun _ => ?_) (fun _ => ?_)
  · refine (S_aload_n rfl at_188_84).trans ?_
    refine (S_getR (ka_115 L _) rfl (f_115_7 L _) at_188_85).trans ?_
    refine (S_iload rfl at_188_88).trans ?_
    refine (H_iaload (ka_123 L _) at_188_90).trans ?_
    refine ite_congr rfl (fun hi => ?_) (fun _ => rfl)
    refine (S_iload rfl at_188_91).trans ?_
    refine (S_icmp_ne at_188_93).trans ?_
    refine ite_congr rfl (fun _ => ?_) (fun _ => ?_)
    · refine (S_lload rfl at_188_96).trans ?_
      refine (S_goto at_188_98).trans ?_
      refine (S_ladd at_188_123).trans ?_
      refine (S_lstore (l1 := [some (jR 109), some (jR 115), some (jI x2), some (jI x3), some (jI x4), some (jI x5), some (jL (w64 (y6 + t0))), none, some (jI x8), some (jL t0), none]) rfl at_188_124).trans ?_
      refine (S_iinc (l1 := [some (jR 109), some (jR 115), some (jI x2), some (jI x3), some (jI x4), some (jI x5), some (jL (w64 (y6 + t0))), none, some (jI (w32 (x8 + 1))), some (jL t0), none]) rfl rfl at_188_126).trans ?_
      refine (S_goto at_188_129).trans ?_
      rfl
    · refine (S_lconst at_188_101).trans ?_
      refine (S_goto at_188_102).trans ?_
      refine (S_ladd at_188_123).trans ?_
      refine (S_lstore (l1 := [some (jR 109), some (jR 115), some (jI x2), some (jI x3), some (jI x4), some (jI x5), some (jL (w64 (y6 + 0))), none, some (jI x8), some (jL t0), none]) rfl at_188_124).trans ?_
      refine (S_iinc (l1 := [some (jR 109), some (jR 115), some (jI x2), some (jI x3), some (jI x4), some (jI x5), some (jL (w64 (y6 + 0))), none, some (jI (w32 (x8 + 1))), some (jL t0), none]) rfl rfl at_188_126).trans ?_
      refine (S_goto at_188_129).trans ?_
      rfl
  · refine (S_lload rfl at_188_105).trans ?_
    refine (S_lneg at_188_107).trans ?_
    refine (S_aload_n rfl at_188_108).trans ?_
    refine (S_aload_n rfl at_188_109).trans ?_
    refine (S_aload_n rfl at_188_110).trans ?_
    refine (S_getR (ka_115 L _) rfl (f_115_7 L _) at_188_111).trans ?_
    refine (S_iload rfl at_188_114).trans ?_
    refine (H_iaload (ka_123 L _) at_188_116).trans ?_
    refine ite_congr rfl (fun hi => ?_) (fun _ => rfl)
    refine (S_iload rfl at_188_117).trans ?_
    refine (S_invv (b := 3) kn_186 rfl (ka_109 L _) (Nat.le_of_ble_eq_true rfl) at_188_119).trans ?_
    rfl
theorem T188_122_109_115 {C : Nat → List j_V → j_H → Option j_Z} {L : Nat} {m : j_M0} {x2 : Int} {x3 : Int} {x4 : Int} {x5 : Int} {y6 : Int} {x8 : Int} {y9 : Int} {t0 : Int} {t1 : Int} {t2 : Int} : j_fin C 188 122 [some (jR 109), some (jR 115), some (jI x2), some (jI x3), some (jI x4), some (jI x5), some (jL y6), none, some (jI x8), some (jL y9), none] [jL t2, jL t1, jL t0] (hH L m) = j_fin C 188 41 [some (jR 109), some (jR 115), some (jI x2), some (jI x3), some (jI x4), some (jI x5), some (jL (w64 (t0 + (w64 (t1 * t2))))), none, some (jI (w32 (x8 + 1))), some (jL y9), none] [] (hH L m) := by
  refine (S_lmul at_188_122).trans ?_
  refine (S_ladd at_188_123).trans ?_
  refine (S_lstore (l1 := [some (jR 109), some (jR 115), some (jI x2), some (jI x3), some (jI x4), some (jI x5), some (jL (w64 (t0 + (w64 (t1 * t2))))), none, some (jI x8), some (jL y9), none]) rfl at_188_124).trans ?_
  refine (S_iinc (l1 := [some (jR 109), some (jR 115), some (jI x2), some (jI x3), some (jI x4), some (jI x5), some (jL (w64 (t0 + (w64 (t1 * t2))))), none, some (jI (w32 (x8 + 1))), some (jL y9), none]) rfl rfl at_188_126).trans ?_
  refine (S_goto at_188_129).trans ?_
  rfl
theorem T188_152_109_115 {C : Nat → List j_V → j_H → Option j_Z} {L : Nat} {m : j_M0} {x2 : Int} {x3 : Int} {x4 : Int} {x5 : Int} {y6 : Int} {x8 : Int} {o9 : Option j_V} {s0 : Int} {s1 : Int} : j_fin C 188 152 [some (jR 109), some (jR 115), some (jI x2), some (jI x3), some (jI x4), some (jI x5), some (jL y6), none, some (jI x8), o9, none] [jI s1, jI s0] (hH L m) = j_fin C 188 11 [some (jR 109), some (jR 115), some (jI x2), some (jI x3), some (jI (j_and s0 s1)), some (jI (w32 (x5 + 1))), some (jL y6), none, some (jI x8), o9, none] [] (hH L m) := by
  refine (S_iand at_188_152).trans ?_
  refine (S_istore (l1 := [some (jR 109), some (jR 115), some (jI x2), some (jI x3), some (jI (j_and s0 s1)), some (jI x5), some (jL y6), none, some (jI x8), o9, none]) rfl at_188_153).trans ?_
  refine (S_iinc (l1 := [some (jR 109), some (jR 115), some (jI x2), some (jI x3), some (jI (j_and s0 s1)), some (jI (w32 (x5 + 1))), some (jL y6), none, some (jI x8), o9, none]) rfl rfl at_188_155).trans ?_
  refine (S_goto at_188_158).trans ?_
  rfl
theorem T188_174_109_115 {C : Nat → List j_V → j_H → Option j_Z} {L : Nat} {m : j_M0} {x2 : Int} {x3 : Int} {x4 : Int} {x5 : Int} {o6 : Option j_V} {o8 : Option j_V} {o9 : Option j_V} {t0 : Int} : j_fin C 188 174 [some (jR 109), some (jR 115), some (jI x2), some (jI x3), some (jI x4), some (jI x5), o6, none, o8, o9, none] [jL t0] (hH L m) = j_fin C 188 179 [some (jR 109), some (jR 115), some (jI x2), some (jI x3), some (jI x4), some (jL t0), none, some (jI 0), o8, o9, none] [] (hH L m) := by
  refine (S_lstore (l1 := [some (jR 109), some (jR 115), some (jI x2), some (jI x3), some (jI x4), some (jL t0), none, none, o8, o9, none]) rfl at_188_174).trans ?_
  refine (S_iconst at_188_176).trans ?_
  refine (S_istore (l1 := [some (jR 109), some (jR 115), some (jI x2), some (jI x3), some (jI x4), some (jL t0), none, some (jI 0), o8, o9, none]) rfl at_188_177).trans ?_
  rfl
theorem T188_179_109_115 {C : Nat → List j_V → j_H → Option j_Z} {L : Nat} {m : j_M0} {x2 : Int} {x3 : Int} {x4 : Int} {y5 : Int} {x7 : Int} {o8 : Option j_V} {o9 : Option j_V} : j_fin C 188 179 [some (jR 109), some (jR 115), some (jI x2), some (jI x3), some (jI x4), some (jL y5), none, some (jI x7), o8, o9, none] [] (hH L m) = if x7 < (m 115 14) then if 0 ≤ x7 ∧ x7 < 5 then if (m 123 x7.toNat) < 10 then j_fin C 188 179 [some (jR 109), some (jR 115), some (jI x2), some (jI x3), some (jI x4), some (jL y5), none, some (jI (w32 (x7 + 1))), o8, o9, none] [] (hH L m) else if 0 ≤ (w32 ((w32 (5 * x2)) + x7)) ∧ (w32 ((w32 (5 * x2)) + x7)) < 100 then (C 265 [jL (m 116 (w32 ((w32 (5 * x2)) + x7)).toNat), jL (m 115 13)] (hH L m)).bind fun z => j_fin C 188 220 [some (jR 109), some (jR 115), some (jI x2), some (jI x3), some (jI x4), some (jL y5), none, some (jI x7), o8, o9, none] (z.1.toList ++ [jL y5]) z.2 else none else none else if 0 ≤ x3 ∧ x3 < 12 then if x4 = 0 then some (some (jI 0), hH L (j_up m 125 x3.toNat y5)) else (C 179 [jL y5] (hH L (j_up m 125 x3.toNat y5))).bind fun z => j_fin C 188 260 [some (jR 109), some (jR 115), some (jI x2), some (jI x3), some (jI x4), some (jL y5), none, some (jI x7), o8, o9, none] (z.1.toList ++ []) z.2 else none := by
  refine (S_iload rfl at_188_179).trans ?_
  refine (S_aload_n rfl at_188_181).trans ?_
  refine (H_get0 (ka_115 L _) rfl at_188_182).trans ?_
  refine (S_icmp_ge at_188_185).trans ?_
  refine ite_congr rfl (fun _ => ?_) (fun _ => ?_)
  · refine (S_aload_n rfl at_188_188).trans ?_
    refine (S_getR (ka_115 L _) rfl (f_115_7 L _) at_188_189).trans ?_
    refine (S_iload rfl at_188_192).trans ?_
    refine (H_iaload (ka_123 L _) at_188_194).trans ?_
    refine ite_congr rfl (fun hi => ?_) (fun _ => rfl)
    refine (S_bipush at_188_195).trans ?_
    refine (S_icmp_lt at_188_197).trans ?_
    refine ite_congr rfl (fun _ => ?_) (fun _ => ?_)
    · refine (S_iinc (l1 := [some (jR 109), some (jR 115), some (jI x2), some (jI x3), some (jI x4), some (jL y5), none, some (jI (w32 (x7 + 1))), o8, o9, none]) rfl rfl at_188_236).trans ?_
      refine (S_goto at_188_239).trans ?_
      rfl
    · refine (S_lload rfl at_188_200).trans ?_
      refine (S_aload_n rfl at_188_202).trans ?_
      refine (S_getR (ka_115 L _) rfl (f_115_0 L _) at_188_203).trans ?_
      refine (S_iconst at_188_206).trans ?_
      refine (S_iload_n rfl at_188_207).trans ?_
      refine (S_imul at_188_208).trans ?_
      refine (S_iload rfl at_188_209).trans ?_
      refine (S_iadd at_188_211).trans ?_
      refine (H_laload (ka_116 L _) at_188_212).trans ?_
      refine ite_congr rfl (fun hi => ?_) (fun _ => rfl)
      refine (S_aload_n rfl at_188_213).trans ?_
      refine (H_get1 (ka_115 L _) rfl at_188_214).trans ?_
      refine (S_invs (by decide) (Nat.le_of_ble_eq_true rfl) (Nat.le_of_ble_eq_true rfl) at_188_217).trans ?_
      rfl
  · refine (S_aload_n rfl at_188_242).trans ?_
    refine (S_getR (ka_115 L _) rfl (f_115_9 L _) at_188_243).trans ?_
    refine (S_iload_n rfl at_188_246).trans ?_
    refine (S_lload rfl at_188_247).trans ?_
    refine (H_lastore (by omega) (ka_125 L _) at_188_249).trans ?_
    refine ite_congr rfl (fun hi => ?_) (fun _ => rfl)
    refine (S_iload rfl at_188_250).trans ?_
    refine (S_if_eq at_188_252).trans ?_
    refine ite_congr rfl (fun _ => ?_) (fun _ => ?_)
    · refine (S_iconst at_188_267).trans ?_
      exact (S_iretz rfl at_188_268).trans (if_pos (by decide))
    · refine (S_lload rfl at_188_255).trans ?_
      refine (S_invs (by decide) (Nat.le_of_ble_eq_true rfl) (Nat.le_of_ble_eq_true rfl) at_188_257).trans ?_
      rfl
theorem T188_220_109_115 {C : Nat → List j_V → j_H → Option j_Z} {L : Nat} {m : j_M0} {x2 : Int} {x3 : Int} {x4 : Int} {y5 : Int} {x7 : Int} {o8 : Option j_V} {o9 : Option j_V} {t0 : Int} {t1 : Int} : j_fin C 188 220 [some (jR 109), some (jR 115), some (jI x2), some (jI x3), some (jI x4), some (jL y5), none, some (jI x7), o8, o9, none] [jL t1, jL t0] (hH L m) = if 0 ≤ x7 ∧ x7 < 5 then (C 187 [jR 109, jR 115, jI (m 123 x7.toNat)] (hH L m)).bind fun z => j_fin C 188 232 [some (jR 109), some (jR 115), some (jI x2), some (jI x3), some (jI x4), some (jL y5), none, some (jI x7), o8, o9, none] (z.1.toList ++ [jL t1, jL t0]) z.2 else none := by
  refine (S_aload_n rfl at_188_220).trans ?_
  refine (S_aload_n rfl at_188_221).trans ?_
  refine (S_aload_n rfl at_188_222).trans ?_
  refine (S_getR (ka_115 L _) rfl (f_115_7 L _) at_188_223).trans ?_
  refine (S_iload rfl at_188_226).trans ?_
  refine (H_iaload (ka_123 L _) at_188_228).trans ?_
  refine ite_congr rfl (fun hi => ?_) (fun _ => rfl)
  refine (S_invv (b := 2) kn_187 rfl (ka_109 L _) (Nat.le_of_ble_eq_true rfl) at_188_229).trans ?_
  rfl
