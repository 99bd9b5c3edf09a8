theorem T81_102 {C : Nat → List j_V → j_H → Option j_Z} {L : Nat} {m : j_M0} {x2 : Int} {x3 : Int} {s1 : Int} {s2 : Int} : j_fin C 81 102 [some (jR 86), some (jR 4), some (jI x2), some (jI x3)] [jI s2, jI s1, jR 88] (hH L m) = if 0 ≤ s1 ∧ s1 < 8 then j_fin C 81 71 [some (jR 86), some (jR 4), some (jI x2), some (jI (w32 (x3 + 1)))] [] (hH L (j_up m 88 s1.toNat s2)) else none := by
  refine (H_iastore (by omega) (ka_88 L _) at_81_102).trans ?_
  refine ite_congr rfl (fun hi => ?_) (fun _ => rfl)
  refine (S_iinc (l1 := [some (jR 86), some (jR 4), some (jI x2), some (jI (w32 (x3 + 1)))]) rfl rfl at_81_103).trans ?_
  refine (S_goto at_81_106).trans ?_
  rfl
theorem T82_0 {C : Nat → List j_V → j_H → Option j_Z} {L : Nat} {m : j_M0} : j_fin C 82 0 [some (jR 86), none] [] (hH L m) = j_fin C 82 10 [some (jR 86), some (jI (w32 ((m 155 0) - 1)))] [] (hH L m) := by
  refine (S_aload_n rfl at_82_0).trans ?_
  refine (S_getR (ka_86 L _) rfl (f_86_4 L _) at_82_1).trans ?_
  refine (H_get0 (ka_155 L _) rfl at_82_4).trans ?_
  refine (S_iconst at_82_7).trans ?_
  refine (S_isub at_82_8).trans ?_
  refine (S_istore_n (l1 := [some (jR 86), some (jI (w32 ((m 155 0) - 1)))]) rfl at_82_9).trans ?_
  rfl
theorem T82_10 {C : Nat → List j_V → j_H → Option j_Z} {L : Nat} {m : j_M0} {x1 : Int} : j_fin C 82 10 [some (jR 86), some (jI x1)] [] (hH L m) = if x1 < 0 then some (none, hH L m) else if 0 ≤ x1 ∧ x1 < 5 then if (m 87 x1.toNat) < (m 86 3) then (C 83 [jR 86, jI x1, jI 1] (hH L m)).bind fun z => j_fin C 82 33 [some (jR 86), some (jI x1)] (z.1.toList ++ []) z.2 else if 0 ≤ x1 ∧ x1 < 5 then (C 83 [jR 86, jI x1, jI (w32 (-(m 87 x1.toNat)))] (hH L m)).bind fun z => j_fin C 82 46 [some (jR 86), some (jI x1)] (z.1.toList ++ []) z.2 else none else none := by
  refine (S_iload_n rfl at_82_10).trans ?_
  refine (S_if_lt at_82_11).trans ?_
  refine ite_congr rfl (fun _ => ?_) (fun _ => ?_)
  · exact S_ret rfl at_82_52
  · refine (S_aload_n rfl at_82_14).trans ?_
    refine (S_getR (ka_86 L _) rfl (f_86_5 L _) at_82_15).trans ?_
    refine (S_iload_n rfl at_82_18).trans ?_
    refine (H_iaload (ka_87 L _) at_82_19).trans ?_
    refine ite_congr rfl (fun hi => ?_) (fun _ => rfl)
    refine (S_aload_n rfl at_82_20).trans ?_
    refine (H_get0 (ka_86 L _) rfl at_82_21).trans ?_
    refine (S_icmp_ge at_82_24).trans ?_
    refine ite_congr rfl (fun _ => ?_) (fun _ => ?_)
    · refine (S_aload_n rfl at_82_27).trans ?_
      refine (S_iload_n rfl at_82_28).trans ?_
      refine (S_iconst at_82_29).trans ?_
      refine (S_invv (b := 2) kn_83 rfl (ka_86 L _) (Nat.le_of_ble_eq_true rfl) at_82_30).trans ?_
      rfl
    · refine (S_aload_n rfl at_82_34).trans ?_
      refine (S_iload_n rfl at_82_35).trans ?_
      refine (S_aload_n rfl at_82_36).trans ?_
      refine (S_getR (ka_86 L _) rfl (f_86_5 L _) at_82_37).trans ?_
      refine (S_iload_n rfl at_82_40).trans ?_
      refine (H_iaload (ka_87 L _) at_82_41).trans ?_
      refine ite_congr rfl (fun hi => ?_) (fun _ => rfl)
      refine (S_ineg at_82_42).trans ?_
      refine (S_invv (b := 2) kn_83 rfl (ka_86 L _) (Nat.le_of_ble_eq_true rfl) at_82_43).trans ?_
      rfl
theorem T82_33 {C : Nat → List j_V → j_H → Option j_Z} {L : Nat} {m : j_M0} {x1 : Int} : j_fin C 82 33 [some (jR 86), some (jI x1)] [] (hH L m) = some (none, hH L m) := by
  exact S_ret rfl at_82_33
theorem T82_46 {C : Nat → List j_V → j_H → Option j_Z} {L : Nat} {m : j_M0} {x1 : Int} : j_fin C 82 46 [some (jR 86), some (jI x1)] [] (hH L m) = j_fin C 82 10 [some (jR 86), some (jI (w32 (x1 + (-1))))] [] (hH L m) := by
  refine (S_iinc (l1 := [some (jR 86), some (jI (w32 (x1 + (-1))))]) rfl rfl at_82_46).trans ?_
  refine (S_goto at_82_49).trans ?_
  rfl
theorem T83_0 {C : Nat → List j_V → j_H → Option j_Z} {L : Nat} {m : j_M0} {x1 : Int} {x2 : Int} : j_fin C 83 0 [some (jR 86), some (jI x1), some (jI x2), none] [] (hH L m) = if 0 ≤ x1 ∧ x1 < 5 then if 0 ≤ x1 ∧ x1 < 5 then if 0 ≤ (w32 ((w32 (((j_up m 87 x1.toNat (w32 ((m 87 x1.toNat) + x2))) 155 0) - 1)) - x1)) ∧ (w32 ((w32 (((j_up m 87 x1.toNat (w32 ((m 87 x1.toNat) + x2))) 155 0) - 1)) - x1)) < 6 then if 0 ≤ x1 ∧ x1 < 5 then j_fin C 83 58 [some (jR 86), some (jI x1), some (jI x2), some (jI 0)] [] (hH L (j_up (j_up (j_up m 87 x1.toNat (w32 ((m 87 x1.toNat) + x2))) 86 1 (w32 (((j_up m 87 x1.toNat (w32 ((m 87 x1.toNat) + x2))) 86 1) + (w32 (x2 * ((j_up m 87 x1.toNat (w32 ((m 87 x1.toNat) + x2))) 1 (w32 ((w32 (((j_up m 87 x1.toNat (w32 ((m 87 x1.toNat) + x2))) 155 0) - 1)) - x1)).toNat)))))) 86 2 (w32 (((j_up (j_up m 87 x1.toNat (w32 ((m 87 x1.toNat) + x2))) 86 1 (w32 (((j_up m 87 x1.toNat (w32 ((m 87 x1.toNat) + x2))) 86 1) + (w32 (x2 * ((j_up m 87 x1.toNat (w32 ((m 87 x1.toNat) + x2))) 1 (w32 ((w32 (((j_up m 87 x1.toNat (w32 ((m 87 x1.toNat) + x2))) 155 0) - 1)) - x1)).toNat)))))) 86 2) + (w32 (x2 * ((j_up (j_up m 87 x1.toNat (w32 ((m 87 x1.toNat) + x2))) 86 1 (w32 (((j_up m 87 x1.toNat (w32 ((m 87 x1.toNat) + x2))) 86 1) + (w32 (x2 * ((j_up m 87 x1.toNat (w32 ((m 87 x1.toNat) + x2))) 1 (w32 ((w32 (((j_up m 87 x1.toNat (w32 ((m 87 x1.toNat) + x2))) 155 0) - 1)) - x1)).toNat)))))) 156 x1.toNat))))))) else none else none else none else none := by
  refine (S_aload_n rfl at_83_0).trans ?_
  refine (S_getR (ka_86 L _) rfl (f_86_5 L _) at_83_1).trans ?_
  refine (S_iload_n rfl at_83_4).trans ?_
  refine (S_dup2RI at_83_5).trans ?_
  refine (H_iaload (ka_87 L _) at_83_6).trans ?_
  refine ite_congr rfl (fun hi => ?_) (fun _ => rfl)
  refine (S_iload_n rfl at_83_7).trans ?_
  refine (S_iadd at_83_8).trans ?_
  refine (H_iastore (by omega) (ka_87 L _) at_83_9).trans ?_
  refine ite_congr rfl (fun hi => ?_) (fun _ => rfl)
  refine (S_aload_n rfl at_83_10).trans ?_
  refine (S_dup rfl at_83_11).trans ?_
  refine (H_get0 (ka_86 L _) rfl at_83_12).trans ?_
  refine (S_iload_n rfl at_83_15).trans ?_
  refine (S_gets at_83_16).trans ?_
  refine (S_aload_n rfl at_83_19).trans ?_
  refine (S_getR (ka_86 L _) rfl (f_86_4 L _) at_83_20).trans ?_
  refine (H_get0 (ka_155 L _) rfl at_83_23).trans ?_
  refine (S_iconst at_83_26).trans ?_
  refine (S_isub at_83_27).trans ?_
  refine (S_iload_n rfl at_83_28).trans ?_
  refine (S_isub at_83_29).trans ?_
  refine (H_iaload (ka_1 L _) at_83_30).trans ?_
  refine ite_congr rfl (fun hi => ?_) (fun _ => rfl)
  refine (S_imul at_83_31).trans ?_
  refine (S_iadd at_83_32).trans ?_
  refine (H_put0 (ka_86 L _) rfl at_83_33).trans ?_
  refine (S_aload_n rfl at_83_36).trans ?_
  refine (S_dup rfl at_83_37).trans ?_
  refine (H_get0 (ka_86 L _) rfl at_83_38).trans ?_
  refine (S_iload_n rfl at_83_41).trans ?_
  refine (S_aload_n rfl at_83_42).trans ?_
  refine (S_getR (ka_86 L _) rfl (f_86_4 L _) at_83_43).trans ?_
  refine (S_getR (ka_155 L _) rfl (f_155_2 L _) at_83_46).trans ?_
  refine (S_iload_n rfl at_83_49).trans ?_
  refine (H_iaload (ka_156 L _) at_83_50).trans ?_
  refine ite_congr rfl (fun hi => ?_) (fun _ => rfl)
  refine (S_imul at_83_51).trans ?_
  refine (S_iadd at_83_52).trans ?_
  refine (H_put0 (ka_86 L _) rfl at_83_53).trans ?_
  refine (S_iconst at_83_56).trans ?_
  refine (S_istore_n (l1 := [some (jR 86), some (jI x1), some (jI x2), some (jI 0)]) rfl at_83_57).trans ?_
  rfl
theorem T83_58 {C : Nat → List j_V → j_H → Option j_Z} {L : Nat} {m : j_M0} {x1 : Int} {x2 : Int} {x3 : Int} : j_fin C 83 58 [some (jR 86), some (jI x1), some (jI x2), some (jI x3)] [] (hH L m) = if x3 < (m 155 1) then if 0 ≤ x3 ∧ x3 < 8 then (C 13 [jR 155, jI x3, jI x1] (hH L m)).bind fun z => j_fin C 83 86 [some (jR 86), some (jI x1), some (jI x2), some (jI x3)] (z.1.toList ++ [jI x2, jI (m 88 x3.toNat), jI x3, jR 88]) z.2 else none else some (none, hH L m) := by
  refine (S_iload_n rfl at_83_58).trans ?_
  refine (S_aload_n rfl at_83_59).trans ?_
  refine (S_getR (ka_86 L _) rfl (f_86_4 L _) at_83_60).trans ?_
  refine (H_get0 (ka_155 L _) rfl at_83_63).trans ?_
  refine (S_icmp_ge at_83_66).trans ?_
  refine ite_congr rfl (fun _ => ?_) (fun _ => ?_)
  · refine (S_aload_n rfl at_83_69).trans ?_
    refine (S_getR (ka_86 L _) rfl (f_86_6 L _) at_83_70).trans ?_
    refine (S_iload_n rfl at_83_73).trans ?_
    refine (S_dup2RI at_83_74).trans ?_
    refine (H_iaload (ka_88 L _) at_83_75).trans ?_
    refine ite_congr rfl (fun hi => ?_) (fun _ => rfl)
    refine (S_iload_n rfl at_83_76).trans ?_
    refine (S_aload_n rfl at_83_77).trans ?_
    refine (S_getR (ka_86 L _) rfl (f_86_4 L _) at_83_78).trans ?_
    refine (S_iload_n rfl at_83_81).trans ?_
    refine (S_iload_n rfl at_83_82).trans ?_
    refine (S_invv (b := 2) kn_13 rfl (ka_155 L _) (Nat.le_of_ble_eq_true rfl) at_83_83).trans ?_
    rfl
  · exact S_ret rfl at_83_95
theorem T83_86 {C : Nat → List j_V → j_H → Option j_Z} {L : Nat} {m : j_M0} {x1 : Int} {x2 : Int} {x3 : Int} {s1 : Int} {s2 : Int} {s3 : Int} {s4 : Int} : j_fin C 83 86 [some (jR 86), some (jI x1), some (jI x2), some (jI x3)] [jI s4, jI s3, jI s2, jI s1, jR 88] (hH L m) = if 0 ≤ s1 ∧ s1 < 8 then j_fin C 83 58 [some (jR 86), some (jI x1), some (jI x2), some (jI (w32 (x3 + 1)))] [] (hH L (j_up m 88 s1.toNat (w32 (s2 - (w32 (s3 * s4)))))) else none := by
  refine (S_imul at_83_86).trans ?_
  refine (S_isub at_83_87).trans ?_
  refine (H_iastore (by omega) (ka_88 L _) at_83_88).trans ?_
  refine ite_congr rfl (fun hi => ?_) (fun _ => rfl)
  refine (S_iinc (l1 := [some (jR 86), some (jI x1), some (jI x2), some (jI (w32 (x3 + 1)))]) rfl rfl at_83_89).trans ?_
  refine (S_goto at_83_92).trans ?_
  rfl
theorem T84_0 {C : Nat → List j_V → j_H → Option j_Z} {L : Nat} {m : j_M0} : j_fin C 84 0 [some (jR 86), none] [] (hH L m) = j_fin C 84 2 [some (jR 86), some (jI 0)] [] (hH L m) := by
  refine (S_iconst at_84_0).trans ?_
  refine (S_istore_n (l1 := [some (jR 86), some (jI 0)]) rfl at_84_1).trans ?_
  rfl
theorem T84_2 {C : Nat → List j_V → j_H → Option j_Z} {L : Nat} {m : j_M0} {x1 : Int} : j_fin C 84 2 [some (jR 86), some (jI x1)] [] (hH L m) = if x1 < (m 155 1) then if 0 ≤ x1 ∧ x1 < 8 then if (m 88 x1.toNat) < 0 then some (some (jI 0), hH L m) else j_fin C 84 2 [some (jR 86), some (jI (w32 (x1 + 1)))] [] (hH L m) else none else some (some (jI 1), hH L m) := by
  refine (S_iload_n rfl at_84_2).trans ?_
  refine (S_aload_n rfl at_84_3).trans ?_
  refine (S_getR (ka_86 L _) rfl (f_86_4 L _) at_84_4).trans ?_
  refine (H_get0 (ka_155 L _) rfl at_84_7).trans ?_
  refine (S_icmp_ge at_84_10).trans ?_
  refine ite_congr rfl (fun _ => ?_) (fun _ => ?_)
  · refine (S_aload_n rfl at_84_13).trans ?_
    refine (S_getR (ka_86 L _) rfl (f_86_6 L _) at_84_14).trans ?_
    refine (S_iload_n rfl at_84_17).trans ?_
    refine (H_iaload (ka_88 L _) at_84_18).trans ?_
    refine ite_congr rfl (fun hi => ?_) (fun _ => rfl)
    refine (S_if_ge at_84_19).trans ?_
    refine ite_congr rfl (fun _ => ?_) (fun _ => ?_)
    · refine (S_iconst at_84_22).trans ?_
      exact (S_iretz rfl at_84_23).trans (if_pos (by decide))
    · refine (S_iinc (l1 := [some (jR 86), some (jI (w32 (x1 + 1)))]) rfl rfl at_84_24).trans ?_
      refine (S_goto at_84_27).trans ?_
      rfl
  · refine (S_iconst at_84_30).trans ?_
    exact (S_iretz rfl at_84_31).trans (if_pos (by decide))
theorem T85_0 {C : Nat → List j_V → j_H → Option j_Z} {L : Nat} {m : j_M0} : j_fin C 85 0 [some (jR 86), none, none] [] (hH L m) = j_fin C 85 4 [some (jR 86), some (jI 0), some (jI 0)] [] (hH L m) := by
  refine (S_iconst at_85_0).trans ?_
  refine (S_istore_n (l1 := [some (jR 86), some (jI 0), none]) rfl at_85_1).trans ?_
  refine (S_iconst at_85_2).trans ?_
  refine (S_istore_n (l1 := [some (jR 86), some (jI 0), some (jI 0)]) rfl at_85_3).trans ?_
  rfl
theorem T85_4 {C : Nat → List j_V → j_H → Option j_Z} {L : Nat} {m : j_M0} {x1 : Int} {x2 : Int} : j_fin C 85 4 [some (jR 86), some (jI x1), some (jI x2)] [] (hH L m) = if x2 < (m 155 1) then if 0 ≤ x2 ∧ x2 < 8 then if (m 88 x2.toNat) < 0 then j_fin C 85 4 [some (jR 86), some (jI (w32 (x1 + 1))), some (jI (w32 (x2 + 1)))] [] (hH L m) else j_fin C 85 4 [some (jR 86), some (jI x1), some (jI (w32 (x2 + 1)))] [] (hH L m) else none else some (some (jI x1), hH L m) := by
  refine (S_iload_n rfl at_85_4).trans ?_
  refine (S_aload_n rfl at_85_5).trans ?_
  refine (S_getR (ka_86 L _) rfl (f_86_4 L _) at_85_6).trans ?_
  refine (H_get0 (ka_155 L _) rfl at_85_9).trans ?_
  refine (S_icmp_ge at_85_12).trans ?_
  refine ite_congr rfl (fun _ => ?_) (fun _ => ?_)
  · refine (S_aload_n rfl at_85_15).trans ?_
    refine (S_getR (ka_86 L _) rfl (f_86_6 L _) at_85_16).trans ?_
    refine (S_iload_n rfl at_85_19).trans ?_
    refine (H_iaload (ka_88 L _) at_85_20).trans ?_
    refine ite_congr rfl (fun hi => ?_) (fun _ => rfl)
    refine (S_if_ge at_85_21).trans ?_
    refine ite_congr rfl (fun _ => ?_) (fun _ => ?_)
    · refine (S_iinc (l1 := [some (jR 86), some (jI (w32 (x1 + 1))), some (jI x2)]) rfl rfl at_85_24).trans ?_
      refine (S_iinc (l1 := [some (jR 86), some (jI (w32 (x1 + 1))), some (jI (w32 (x2 + 1)))]) rfl rfl at_85_27).trans ?_
      refine (S_goto at_85_30).trans ?_
      rfl
    · refine (S_iinc (l1 := [some (jR 86), some (jI x1), some (jI (w32 (x2 + 1)))]) rfl rfl at_85_27).trans ?_
      refine (S_goto at_85_30).trans ?_
      rfl
  · refine (S_iload_n rfl at_85_33).trans ?_
    exact S_ireti rfl at_85_34
theorem T86_0 {C : Nat → List j_V → j_H → Option j_Z} {L : Nat} {m : j_M0} : j_fin C 86 0 [some (jR 86), some (jR 108), none, none, none] [] (hH L m) = j_fin C 86 5 [some (jR 86), some (jR 108), some (jL 0), none, some (jI 0)] [] (hH L m) := by
  refine (S_lconst at_86_0).trans ?_
  refine (S_lstore_n (l1 := [some (jR 86), some (jR 108), some (jL 0), none, none]) rfl at_86_1).trans ?_
  refine (S_iconst at_86_2).trans ?_
  refine (S_istore (l1 := [some (jR 86), some (jR 108), some (jL 0), none, some (jI 0)]) rfl at_86_3).trans ?_
  rfl
theorem T86_5 {C : Nat → List j_V → j_H → Option j_Z} {L : Nat} {m : j_M0} {y2 : Int} {x4 : Int} : j_fin C 86 5 [some (jR 86), some (jR 108), some (jL y2), none, some (jI x4)] [] (hH L m) = if x4 < (m 155 0) then if 0 ≤ x4 ∧ x4 < 6 then if 0 ≤ x4 ∧ x4 < 5 then j_fin C 86 5 [some (jR 86), some (jR 108), some (jL (w64 (y2 + (w64 ((m 108 x4.toNat) * (m 87 x4.toNat)))))), none, some (jI (w32 (x4 + 1)))] [] (hH L m) else none else none else if 0 ≤ (m 155 0) ∧ (m 155 0) < 6 then if 0 < (j_cmp y2 (m 108 (m 155 0).toNat)) then some (some (jI 1), hH L m) else some (some (jI 0), hH L m) else none := by
  refine (S_iload rfl at_86_5).trans ?_
  refine (S_aload_n rfl at_86_7).trans ?_
  refine (S_getR (ka_86 L _) rfl (f_86_4 L _) at_86_8).trans ?_
  refine (H_get0 (ka_155 L _) rfl at_86_11).trans ?_
  refine (S_icmp_ge at_86_14).trans ?_
  refine ite_congr rfl (fun _ => ?_) (fun _ => ?_)
  · refine (S_lload_n rfl at_86_17).trans ?_
    refine (S_aload_n rfl at_86_18).trans ?_
    refine (S_iload rfl at_86_19).trans ?_
    refine (H_laload (ka_108 L _) at_86_21).trans ?_
    refine ite_congr rfl (fun hi => ?_) (fun _ => rfl)
    refine (S_aload_n rfl at_86_22).trans ?_
    refine (S_getR (ka_86 L _) rfl (f_86_5 L _) at_86_23).trans ?_
    refine (S_iload rfl at_86_26).trans ?_
    refine (H_iaload (ka_87 L _) at_86_28).trans ?_
    refine ite_congr rfl (fun hi => ?_) (fun _ => rfl)
    refine (S_i2l at_86_29).trans ?_
    refine (S_lmul at_86_30).trans ?_
    refine (S_ladd at_86_31).trans ?_
    refine (S_lstore_n (l1 := [some (jR 86), some (jR 108), some (jL (w64 (y2 + (w64 ((m 108 x4.toNat) * (m 87 x4.toNat)))))), none, some (jI x4)]) rfl at_86_32).trans ?_
    refine (S_iinc (l1 := [some (jR 86), some (jR 108), some (jL (w64 (y2 + (w64 ((m 108 x4.toNat) * (m 87 x4.toNat)))))), none, some (jI (w32 (x4 + 1)))]) rfl rfl at_86_33).trans ?_
    refine (S_goto at_86_36).trans ?_
    rfl
  · refine (S_lload_n rfl at_86_39).trans ?_
    refine (S_aload_n rfl at_86_40).trans ?_
    refine (S_aload_n rfl at_86_41).trans ?_
    refine (S_getR (ka_86 L _) rfl (f_86_4 L _) at_86_42).trans ?_
    refine (H_get0 (ka_155 L _) rfl at_86_45).trans ?_
    refine (H_laload (ka_108 L _) at_86_48).trans ?_
    refine ite_congr rfl (fun hi => ?_) (fun _ => rfl)
    refine (S_lcmp at_86_49).trans ?_
    refine (S_if_le at_86_50).trans ?_
    refine ite_congr rfl (fun _ => ?_) (fun _ => ?_)
    · refine (S_iconst at_86_53).trans ?_
      refine (S_goto at_86_54).trans ?_
      exact (S_iretz rfl at_86_58).trans (if_pos (by decide))
    · refine (S_iconst at_86_57).trans ?_
      exact (S_iretz rfl at_86_58).trans (if_pos (by decide))
theorem T88_0 {C : Nat → List j_V → j_H → Option j_Z} {L : Nat} {m : j_M0} {x1 : Int} : j_fin C 88 0 [some (jR 2), some (jI x1), none] [] (hH L m) = if x1 < 1 then some (some (jI (-2)), hH L m) else if 5 < x1 then some (some (jI (-2)), hH L m) else (C 33 [jR 3, jI x1] (hH L m)).bind fun z => j_fin C 88 32 [some (jR 2), some (jI x1), some (jI (m 4 0))] (z.1.toList ++ []) z.2 := by
  refine (S_iload_n rfl at_88_0).trans ?_
  refine (S_iconst at_88_1).trans ?_
  refine (S_icmp_lt at_88_2).trans ?_
  refine ite_congr rfl (fun _ => ?_) (fun _ => ?_)
  · refine (S_bipush at_88_10).trans ?_
    exact S_ireti rfl at_88_12
  · refine (S_iload_n rfl at_88_5).trans ?_
    refine (S_iconst at_88_6).trans ?_
    refine (S_icmp_le at_88_7).trans ?_
    refine ite_congr rfl (fun _ => ?_) (fun _ => ?_)
    · refine (S_bipush at_88_10).trans ?_
      exact S_ireti rfl at_88_12
    · refine (S_aload_n rfl at_88_13).trans ?_
      refine (S_getR (ka_2 L _) rfl (f_2_0 L _) at_88_14).trans ?_
      refine (S_getR (ka_3 L _) rfl (f_3_0 L _) at_88_17).trans ?_
      refine (H_get0 (ka_4 L _) rfl at_88_20).trans ?_
      refine (S_istore_n (l1 := [some (jR 2), some (jI x1), some (jI (m 4 0))]) rfl at_88_23).trans ?_
      refine (S_aload_n rfl at_88_24).trans ?_
      refine (S_getR (ka_2 L _) rfl (f_2_0 L _) at_88_25).trans ?_
      refine (S_iload_n rfl at_88_28).trans ?_
      refine (S_invv (b := 1) kn_33 rfl (ka_3 L _) (Nat.le_of_ble_eq_true rfl) at_88_29).trans ?_
      rfl
theorem T88_32 {C : Nat → List j_V → j_H → Option j_Z} {L : Nat} {m : j_M0} {x1 : Int} {x2 : Int} : j_fin C 88 32 [some (jR 2), some (jI x1), some (jI x2)] [] (hH L m) = some (some (jI x2), hH L (j_up m 2 11 0)) := by
  refine (S_aload_n rfl at_88_32).trans ?_
  refine (S_iconst at_88_33).trans ?_
  refine (H_put2 (ka_2 L _) rfl at_88_34).trans ?_
  refine (if_pos (by decide)).trans ?_
  refine (S_iload_n rfl at_88_37).trans ?_
  exact S_ireti rfl at_88_38
theorem T89_0 {C : Nat → List j_V → j_H → Option j_Z} {L : Nat} {m : j_M0} {x1 : Int} {x2 : Int} : j_fin C 89 0 [some (jR 2), some (jI x1), some (jI x2), none] [] (hH L m) = (C 135 [jR 2, jI x1] (hH L m)).bind fun z => j_fin C 89 5 [some (jR 2), some (jI x1), some (jI x2), none] (z.1.toList ++ []) z.2 := by
  refine (S_aload_n rfl at_89_0).trans ?_
  refine (S_iload_n rfl at_89_1).trans ?_
  refine (S_invv (b := 1) kn_135 rfl (ka_2 L _) (Nat.le_of_ble_eq_true rfl) at_89_2).trans ?_
  rfl
theorem T89_5 {C : Nat → List j_V → j_H → Option j_Z} {L : Nat} {m : j_M0} {x1 : Int} {x2 : Int} {s0 : Int} : j_fin C 89 5 [some (jR 2), some (jI x1), some (jI x2), none] [jI s0] (hH L m) = if s0 = 0 then some (some (jI (-1)), hH L m) else if x2 < 0 then some (some (jI (-2)), hH L m) else if 99 < x2 then some (some (jI (-2)), hH L m) else if 0 ≤ x1 ∧ x1 < 5 then if 0 ≤ x1 ∧ x1 < 5 then (C 22 [jR 9] (hH L (j_up m 5 x1.toNat x2))).bind fun z => j_fin C 89 59 [some (jR 2), some (jI x1), some (jI x2), some (jI (m 5 x1.toNat))] (z.1.toList ++ []) z.2 else none else none := by
  refine (S_if_ne at_89_5).trans ?_
  refine ite_congr rfl (fun _ => ?_) (fun _ => ?_)
  · refine (S_iconst at_89_8).trans ?_
    exact S_ireti rfl at_89_9
  · refine (S_iload_n rfl at_89_10).trans ?_
    refine (S_if_lt at_89_11).trans ?_
    refine ite_congr rfl (fun _ => ?_) (fun _ => ?_)
    · refine (S_bipush at_89_20).trans ?_
      exact S_ireti rfl at_89_22
    · refine (S_iload_n rfl at_89_14).trans ?_
      refine (S_bipush at_89_15).trans ?_
      refine (S_icmp_le at_89_17).trans ?_
      refine ite_congr rfl (fun _ => ?_) (fun _ => ?_)
      · refine (S_bipush at_89_20).trans ?_
        exact S_ireti rfl at_89_22
      · refine (S_aload_n rfl at_89_23).trans ?_
        refine (S_getR (ka_2 L _) rfl (f_2_0 L _) at_89_24).trans ?_
        refine (S_getR (ka_3 L _) rfl (f_3_0 L _) at_89_27).trans ?_
        refine (S_getR (ka_4 L _) rfl (f_4_2 L _) at_89_30).trans ?_
        refine (S_iload_n rfl at_89_33).trans ?_
        refine (H_iaload (ka_5 L _) at_89_34).trans ?_
        refine ite_congr rfl (fun hi => ?_) (fun _ => rfl)
        refine (S_istore_n (l1 := [some (jR 2), some (jI x1), some (jI x2), some (jI (m 5 x1.toNat))]) rfl at_89_35).trans ?_
        refine (S_aload_n rfl at_89_36).trans ?_
        refine (S_getR (ka_2 L _) rfl (f_2_0 L _) at_89_37).trans ?_
        refine (S_getR (ka_3 L _) rfl (f_3_0 L _) at_89_40).trans ?_
        refine (S_getR (ka_4 L _) rfl (f_4_2 L _) at_89_43).trans ?_
        refine (S_iload_n rfl at_89_46).trans ?_
        refine (S_iload_n rfl at_89_47).trans ?_
        refine (H_iastore (by omega) (ka_5 L _) at_89_48).trans ?_
        refine ite_congr rfl (fun hi => ?_) (fun _ => rfl)
        refine (S_aload_n rfl at_89_49).trans ?_
        refine (S_getR (ka_2 L _) rfl (f_2_0 L _) at_89_50).trans ?_
        refine (S_getR (ka_3 L _) rfl (f_3_1 L _) at_89_53).trans ?_
        refine (S_invv (b := 0) kn_22 rfl (ka_9 L _) (Nat.le_of_ble_eq_true rfl) at_89_56).trans ?_
        rfl
theorem T89_59 {C : Nat → List j_V → j_H → Option j_Z} {L : Nat} {m : j_M0} {x1 : Int} {x2 : Int} {x3 : Int} : j_fin C 89 59 [some (jR 2), some (jI x1), some (jI x2), some (jI x3)] [] (hH L m) = some (some (jI x3), hH L (j_up m 2 11 0)) := by
  refine (S_aload_n rfl at_89_59).trans ?_
  refine (S_iconst at_89_60).trans ?_
  refine (H_put2 (ka_2 L _) rfl at_89_61).trans ?_
  refine (if_pos (by decide)).trans ?_
  refine (S_iload_n rfl at_89_64).trans ?_
  exact S_ireti rfl at_89_65
theorem T90_0 {C : Nat → List j_V → j_H → Option j_Z} {L : Nat} {m : j_M0} {x1 : Int} {x2 : Int} : j_fin C 90 0 [some (jR 2), some (jI x1), some (jI x2)] [] (hH L m) = if x1 < 0 then some (some (jI (-2)), hH L m) else if 1 < x1 then some (some (jI (-2)), hH L m) else (C 139 [jI x2] (hH L m)).bind fun z => j_fin C 90 13 [some (jR 2), some (jI x1), some (jI x2)] (z.1.toList ++ []) z.2 := by
  refine (S_iload_n rfl at_90_0).trans ?_
  refine (S_if_lt at_90_1).trans ?_
  refine ite_congr rfl (fun _ => ?_) (fun _ => ?_)
  · refine (S_bipush at_90_16).trans ?_
    exact S_ireti rfl at_90_18
  · refine (S_iload_n rfl at_90_4).trans ?_
    refine (S_iconst at_90_5).trans ?_
    refine (S_icmp_gt at_90_6).trans ?_
    refine ite_congr rfl (fun _ => ?_) (fun _ => ?_)
    · refine (S_bipush at_90_16).trans ?_
      exact S_ireti rfl at_90_18
    · refine (S_iload_n rfl at_90_9).trans ?_
      refine (S_invs (by decide) (Nat.le_of_ble_eq_true rfl) (Nat.le_of_ble_eq_true rfl) at_90_10).trans ?_
      rfl
theorem T90_13 {C : Nat → List j_V → j_H → Option j_Z} {L : Nat} {m : j_M0} {x1 : Int} {x2 : Int} {s0 : Int} : j_fin C 90 13 [some (jR 2), some (jI x1), some (jI x2)] [jI s0] (hH L m) = if s0 = 0 then some (some (jI (-2)), hH L m) else if (m 4 1) < 8 then (C 10 [jR 4, jI x1, jI x2] (hH L m)).bind fun z => j_fin C 90 49 [some (jR 2), some (jI x1), some (jI x2)] (z.1.toList ++ []) z.2 else some (some (jI (-4)), hH L m) := by
  refine (S_if_ne at_90_13).trans ?_
  refine ite_congr rfl (fun _ => ?_) (fun _ => ?_)
  · refine (S_bipush at_90_16).trans ?_
    exact S_ireti rfl at_90_18
  · refine (S_aload_n rfl at_90_19).trans ?_
    refine (S_getR (ka_2 L _) rfl (f_2_0 L _) at_90_20).trans ?_
    refine (S_getR (ka_3 L _) rfl (f_3_0 L _) at_90_23).trans ?_
    refine (H_get0 (ka_4 L _) rfl at_90_26).trans ?_
    refine (S_bipush at_90_29).trans ?_
    refine (S_icmp_lt at_90_31).trans ?_
    refine ite_congr rfl (fun _ => ?_) (fun _ => ?_)
    · refine (S_aload_n rfl at_90_37).trans ?_
      refine (S_getR (ka_2 L _) rfl (f_2_0 L _) at_90_38).trans ?_
      refine (S_getR (ka_3 L _) rfl (f_3_0 L _) at_90_41).trans ?_
      refine (S_iload_n rfl at_90_44).trans ?_
      refine (S_iload_n rfl at_90_45).trans ?_
      refine (S_invv (b := 2) kn_10 rfl (ka_4 L _) (Nat.le_of_ble_eq_true rfl) at_90_46).trans ?_
      rfl
    · refine (S_bipush at_90_34).trans ?_
      exact S_ireti rfl at_90_36
theorem T90_49 {C : Nat → List j_V → j_H → Option j_Z} {L : Nat} {m : j_M0} {x1 : Int} {x2 : Int} : j_fin C 90 49 [some (jR 2), some (jI x1), some (jI x2)] [] (hH L m) = some (some (jI (w32 (((j_up m 2 11 0) 4 1) - 1))), hH L (j_up m 2 11 0)) := by
  refine (S_aload_n rfl at_90_49).trans ?_
  refine (S_iconst at_90_50).trans ?_
  refine (H_put2 (ka_2 L _) rfl at_90_51).trans ?_
  refine (if_pos (by decide)).trans ?_
  refine (S_aload_n rfl at_90_54).trans ?_
  refine (S_getR (ka_2 L _) rfl (f_2_0 L _) at_90_55).trans ?_
  refine (S_getR (ka_3 L _) rfl (f_3_0 L _) at_90_58).trans ?_
  refine (H_get0 (ka_4 L _) rfl at_90_61).trans ?_
  refine (S_iconst at_90_64).trans ?_
  refine (S_isub at_90_65).trans ?_
  exact S_ireti rfl at_90_66
theorem T91_0 {C : Nat → List j_V → j_H → Option j_Z} {L : Nat} {m : j_M0} {x1 : Int} {x2 : Int} {x3 : Int} : j_fin C 91 0 [some (jR 2), some (jI x1), some (jI x2), some (jI x3), none] [] (hH L m) = (C 136 [jR 2, jI x1] (hH L m)).bind fun z => j_fin C 91 5 [some (jR 2), some (jI x1), some (jI x2), some (jI x3), none] (z.1.toList ++ []) z.2 := by
  refine (S_aload_n rfl at_91_0).trans ?_
  refine (S_iload_n rfl at_91_1).trans ?_
  refine (S_invv (b := 1) kn_136 rfl (ka_2 L _) (Nat.le_of_ble_eq_true rfl) at_91_2).trans ?_
  rfl
theorem T91_5 {C : Nat → List j_V → j_H → Option j_Z} {L : Nat} {m : j_M0} {x1 : Int} {x2 : Int} {x3 : Int} {s0 : Int} : j_fin C 91 5 [some (jR 2), some (jI x1), some (jI x2), some (jI x3), none] [jI s0] (hH L m) = if s0 = 0 then some (some (jI (-1)), hH L m) else (C 135 [jR 2, jI x2] (hH L m)).bind fun z => j_fin C 91 13 [some (jR 2), some (jI x1), some (jI x2), some (jI x3), none] (z.1.toList ++ []) z.2 := by
  refine (S_if_eq at_91_5).trans ?_
  refine ite_congr rfl (fun _ => ?_) (fun _ => ?_)
  · refine (S_iconst at_91_16).trans ?_
    exact S_ireti rfl at_91_17
  · refine (S_aload_n rfl at_91_8).trans ?_
    refine (S_iload_n rfl at_91_9).trans ?_
    refine (S_invv (b := 1) kn_135 rfl (ka_2 L _) (Nat.le_of_ble_eq_true rfl) at_91_10).trans ?_
    rfl
theorem T91_13 {C : Nat → List j_V → j_H → Option j_Z} {L : Nat} {m : j_M0} {x1 : Int} {x2 : Int} {x3 : Int} {s0 : Int} : j_fin C 91 13 [some (jR 2), some (jI x1), some (jI x2), some (jI x3), none] [jI s0] (hH L m) = if s0 = 0 then some (some (jI (-1)), hH L m) else (C 140 [jI x3] (hH L m)).bind fun z => j_fin C 91 22 [some (jR 2), some (jI x1), some (jI x2), some (jI x3), none] (z.1.toList ++ []) z.2 := by
  refine (S_if_ne at_91_13).trans ?_
  refine ite_congr rfl (fun _ => ?_) (fun _ => ?_)
  · refine (S_iconst at_91_16).trans ?_
    exact S_ireti rfl at_91_17
  · refine (S_iload_n rfl at_91_18).trans ?_
    refine (S_invs (by decide) (Nat.le_of_ble_eq_true rfl) (Nat.le_of_ble_eq_true rfl) at_91_19).trans ?_
    rfl
theorem T91_22 {C : Nat → List j_V → j_H → Option j_Z} {L : Nat} {m : j_M0} {x1 : Int} {x2 : Int} {x3 : Int} {s0 : Int} : j_fin C 91 22 [some (jR 2), some (jI x1), some (jI x2), some (jI x3), none] [jI s0] (hH L m) = if s0 = 0 then some (some (jI (-2)), hH L m) else (C 11 [jR 4, jI x1, jI x2] (hH L m)).bind fun z => j_fin C 91 40 [some (jR 2), some (jI x1), some (jI x2), some (jI x3), none] (z.1.toList ++ []) z.2 := by
  refine (S_if_ne at_91_22).trans ?_
  refine ite_congr rfl (fun _ => ?_) (fun _ => ?_)
  · refine (S_bipush at_91_25).trans ?_
    exact S_ireti rfl at_91_27
  · refine (S_aload_n rfl at_91_28).trans ?_
    refine (S_getR (ka_2 L _) rfl (f_2_0 L _) at_91_29).trans ?_
    refine (S_getR (ka_3 L _) rfl (f_3_0 L _) at_91_32).trans ?_
    refine (S_iload_n rfl at_91_35).trans ?_
    refine (S_iload_n rfl at_91_36).trans ?_
    refine (S_invv (b := 2) kn_11 rfl (ka_4 L _) (Nat.le_of_ble_eq_true rfl) at_91_37).trans ?_
    rfl
theorem T91_40 {C : Nat → List j_V → j_H → Option j_Z} {L : Nat} {m : j_M0} {x1 : Int} {x2 : Int} {x3 : Int} {s0 : Int} : j_fin C 91 40 [some (jR 2), some (jI x1), some (jI x2), some (jI x3), none] [jI s0] (hH L m) = (C 12 [jR 4, jI x1, jI x2, jI x3] (hH L m)).bind fun z => j_fin C 91 55 [some (jR 2), some (jI x1), some (jI x2), some (jI x3), some (jI s0)] (z.1.toList ++ []) z.2 := by
  refine (S_istore (l1 := [some (jR 2), some (jI x1), some (jI x2), some (jI x3), some (jI s0)]) rfl at_91_40).trans ?_
  refine (S_aload_n rfl at_91_42).trans ?_
  refine (S_getR (ka_2 L _) rfl (f_2_0 L _) at_91_43).trans ?_
  refine (S_getR (ka_3 L _) rfl (f_3_0 L _) at_91_46).trans ?_
  refine (S_iload_n rfl at_91_49).trans ?_
  refine (S_iload_n rfl at_91_50).trans ?_
  refine (S_iload_n rfl at_91_51).trans ?_
  refine (S_invv (b := 3) kn_12 rfl (ka_4 L _) (Nat.le_of_ble_eq_true rfl) at_91_52).trans ?_
  rfl
theorem T91_55 {C : Nat → List j_V → j_H → Option j_Z} {L : Nat} {m : j_M0} {x1 : Int} {x2 : Int} {x3 : Int} {x4 : Int} : j_fin C 91 55 [some (jR 2), some (jI x1), some (jI x2), some (jI x3), some (jI x4)] [] (hH L m) = some (some (jI (w32 (x4 + 100))), hH L (j_up m 2 11 0)) := by
  refine (S_aload_n rfl at_91_55).trans ?_
  refine (S_iconst at_91_56).trans ?_
  refine (H_put2 (ka_2 L _) rfl at_91_57).trans ?_
  refine (if_pos (by decide)).trans ?_
  refine (S_iload rfl at_91_60).trans ?_
  refine (S_bipush at_91_62).trans ?_
  refine (S_iadd at_91_64).trans ?_
  exact S_ireti rfl at_91_65
theorem T92_0 {C : Nat → List j_V → j_H → Option j_Z} {L : Nat} {m : j_M0} {x1 : Int} {x2 : Int} : j_fin C 92 0 [some (jR 2), some (jI x1), some (jI x2), none] [] (hH L m) = (C 136 [jR 2, jI x1] (hH L m)).bind fun z => j_fin C 92 5 [some (jR 2), some (jI x1), some (jI x2), none] (z.1.toList ++ []) z.2 := by
  refine (S_aload_n rfl at_92_0).trans ?_
  refine (S_iload_n rfl at_92_1).trans ?_
  refine (S_invv (b := 1) kn_136 rfl (ka_2 L _) (Nat.le_of_ble_eq_true rfl) at_92_2).trans ?_
  rfl
theorem T92_5 {C : Nat → List j_V → j_H → Option j_Z} {L : Nat} {m : j_M0} {x1 : Int} {x2 : Int} {s0 : Int} : j_fin C 92 5 [some (jR 2), some (jI x1), some (jI x2), none] [jI s0] (hH L m) = if s0 = 0 then some (some (jI (-1)), hH L m) else (C 139 [jI x2] (hH L m)).bind fun z => j_fin C 92 14 [some (jR 2), some (jI x1), some (jI x2), none] (z.1.toList ++ []) z.2 := by
  refine (S_if_ne at_92_5).trans ?_
  refine ite_congr rfl (fun _ => ?_) (fun _ => ?_)
  · refine (S_iconst at_92_8).trans ?_
    exact S_ireti rfl at_92_9
  · refine (S_iload_n rfl at_92_10).trans ?_
    refine (S_invs (by decide) (Nat.le_of_ble_eq_true rfl) (Nat.le_of_ble_eq_true rfl) at_92_11).trans ?_
    rfl
theorem T92_14 {C : Nat → List j_V → j_H → Option j_Z} {L : Nat} {m : j_M0} {x1 : Int} {x2 : Int} {s0 : Int} : j_fin C 92 14 [some (jR 2), some (jI x1), some (jI x2), none] [jI s0] (hH L m) = if s0 = 0 then some (some (jI (-2)), hH L m) else if 0 ≤ x1 ∧ x1 < 8 then if 0 ≤ x1 ∧ x1 < 8 then some (some (jI (w32 ((m 7 x1.toNat) + 1000))), hH L (j_up (j_up m 7 x1.toNat x2) 2 11 0)) else none else none := by
  refine (S_if_ne at_92_14).trans ?_
  refine ite_congr rfl (fun _ => ?_) (fun _ => ?_)
  · refine (S_bipush at_92_17).trans ?_
    exact S_ireti rfl at_92_19
  · refine (S_aload_n rfl at_92_20).trans ?_
    refine (S_getR (ka_2 L _) rfl (f_2_0 L _) at_92_21).trans ?_
    refine (S_getR (ka_3 L _) rfl (f_3_0 L _) at_92_24).trans ?_
    refine (S_getR (ka_4 L _) rfl (f_4_4 L _) at_92_27).trans ?_
    refine (S_iload_n rfl at_92_30).trans ?_
    refine (H_iaload (ka_7 L _) at_92_31).trans ?_
    refine ite_congr rfl (fun hi => ?_) (fun _ => rfl)
    refine (S_istore_n (l1 := [some (jR 2), some (jI x1), some (jI x2), some (jI (m 7 x1.toNat))]) rfl at_92_32).trans ?_
    refine (S_aload_n rfl at_92_33).trans ?_
    refine (S_getR (ka_2 L _) rfl (f_2_0 L _) at_92_34).trans ?_
    refine (S_getR (ka_3 L _) rfl (f_3_0 L _) at_92_37).trans ?_
    refine (S_getR (ka_4 L _) rfl (f_4_4 L _) at_92_40).trans ?_
    refine (S_iload_n rfl at_92_43).trans ?_
    refine (S_iload_n rfl at_92_44).trans ?_
    refine (H_iastore (by omega) (ka_7 L _) at_92_45).trans ?_
    refine ite_congr rfl (fun hi => ?_) (fun _ => rfl)
    refine (S_aload_n rfl at_92_46).trans ?_
    refine (S_iconst at_92_47).trans ?_
    refine (H_put2 (ka_2 L _) rfl at_92_48).trans ?_
    refine (if_pos (by decide)).trans ?_
    refine (S_iload_n rfl at_92_51).trans ?_
    refine (S_sipush at_92_52).trans ?_
    refine (S_iadd at_92_55).trans ?_
    exact S_ireti rfl at_92_56
theorem T93_0 {C : Nat → List j_V → j_H → Option j_Z} {L : Nat} {m : j_M0} : j_fin C 93 0 [some (jR 2)] [] (hH L m) = if 0 < (m 4 1) then if 0 ≤ ((j_up m 4 1 (w32 ((m 4 1) - 1))) 4 1) ∧ ((j_up m 4 1 (w32 ((m 4 1) - 1))) 4 1) < 8 then some (some (jI ((j_up (j_up (j_up m 4 1 (w32 ((m 4 1) - 1))) 13 ((j_up m 4 1 (w32 ((m 4 1) - 1))) 4 1).toNat 0) 2 11 0) 4 1)), hH L (j_up (j_up (j_up m 4 1 (w32 ((m 4 1) - 1))) 13 ((j_up m 4 1 (w32 ((m 4 1) - 1))) 4 1).toNat 0) 2 11 0)) else none else some (some (jI (-3)), hH L m) := by
  refine (S_aload_n rfl at_93_0).trans ?_
  refine (S_getR (ka_2 L _) rfl (f_2_0 L _) at_93_1).trans ?_
  refine (S_getR (ka_3 L _) rfl (f_3_0 L _) at_93_4).trans ?_
  refine (H_get0 (ka_4 L _) rfl at_93_7).trans ?_
  refine (S_if_gt at_93_10).trans ?_
  refine ite_congr rfl (fun _ => ?_) (fun _ => ?_)
  · refine (S_aload_n rfl at_93_16).trans ?_
    refine (S_getR (ka_2 L _) rfl (f_2_0 L _) at_93_17).trans ?_
    refine (S_getR (ka_3 L _) rfl (f_3_0 L _) at_93_20).trans ?_
    refine (S_dup rfl at_93_23).trans ?_
    refine (H_get0 (ka_4 L _) rfl at_93_24).trans ?_
    refine (S_iconst at_93_27).trans ?_
    refine (S_isub at_93_28).trans ?_
    refine (H_put0 (ka_4 L _) rfl at_93_29).trans ?_
    refine (S_aload_n rfl at_93_32).trans ?_
    refine (S_getR (ka_2 L _) rfl (f_2_0 L _) at_93_33).trans ?_
    refine (S_getR (ka_3 L _) rfl (f_3_2 L _) at_93_36).trans ?_
    refine (S_aload_n rfl at_93_39).trans ?_
    refine (S_getR (ka_2 L _) rfl (f_2_0 L _) at_93_40).trans ?_
    refine (S_getR (ka_3 L _) rfl (f_3_0 L _) at_93_43).trans ?_
    refine (H_get0 (ka_4 L _) rfl at_93_46).trans ?_
    refine (S_iconst at_93_49).trans ?_
    refine (H_iastore (by omega) (ka_13 L _) at_93_50).trans ?_
    refine ite_congr rfl (fun hi => ?_) (fun _ => rfl)
    refine (S_aload_n rfl at_93_51).trans ?_
    refine (S_iconst at_93_52).trans ?_
    refine (H_put2 (ka_2 L _) rfl at_93_53).trans ?_
    refine (if_pos (by decide)).trans ?_
    refine (S_aload_n rfl at_93_56).trans ?_
    refine (S_getR (ka_2 L _) rfl (f_2_0 L _) at_93_57).trans ?_
    refine (S_getR (ka_3 L _) rfl (f_3_0 L _) at_93_60).trans ?_
    refine (H_get0 (ka_4 L _) rfl at_93_63).trans ?_
    exact S_ireti rfl at_93_66
  · refine (S_bipush at_93_13).trans ?_
    exact S_ireti rfl at_93_15
theorem T94_0 {C : Nat → List j_V → j_H → Option j_Z} {L : Nat} {m : j_M0} {x1 : Int} : j_fin C 94 0 [some (jR 2), some (jI x1)] [] (hH L m) = if x1 < 0 then some (some (jI (-2)), hH L m) else if 127 < x1 then some (some (jI (-2)), hH L m) else if (m 93 0) < 80 then if 0 ≤ (m 93 0) ∧ (m 93 0) < 80 then some (some (jI ((j_up (j_up m 94 (m 93 0).toNat (w8 (w8 x1))) 93 0 (w32 (((j_up m 94 (m 93 0).toNat (w8 (w8 x1))) 93 0) + 1))) 93 0)), hH L (j_up (j_up m 94 (m 93 0).toNat (w8 (w8 x1))) 93 0 (w32 (((j_up m 94 (m 93 0).toNat (w8 (w8 x1))) 93 0) + 1)))) else none else some (some (jI (-4)), hH L m) := by
  refine (S_iload_n rfl at_94_0).trans ?_
  refine (S_if_lt at_94_1).trans ?_
  refine ite_congr rfl (fun _ => ?_) (fun _ => ?_)
  · refine (S_bipush at_94_10).trans ?_
    exact S_ireti rfl at_94_12
  · refine (S_iload_n rfl at_94_4).trans ?_
    refine (S_bipush at_94_5).trans ?_
    refine (S_icmp_le at_94_7).trans ?_
    refine ite_congr rfl (fun _ => ?_) (fun _ => ?_)
    · refine (S_bipush at_94_10).trans ?_
      exact S_ireti rfl at_94_12
    · refine (S_aload_n rfl at_94_13).trans ?_
      refine (S_getR (ka_2 L _) rfl (f_2_8 L _) at_94_14).trans ?_
      refine (H_get0 (ka_93 L _) rfl at_94_17).trans ?_
      refine (S_bipush at_94_20).trans ?_
      refine (S_icmp_lt at_94_22).trans ?_
      refine ite_congr rfl (fun _ => ?_) (fun _ => ?_)
      · refine (S_aload_n rfl at_94_28).trans ?_
        refine (S_getR (ka_2 L _) rfl (f_2_8 L _) at_94_29).trans ?_
        refine (S_getR (ka_93 L _) rfl (f_93_2 L _) at_94_32).trans ?_
        refine (S_aload_n rfl at_94_35).trans ?_
        refine (S_getR (ka_2 L _) rfl (f_2_8 L _) at_94_36).trans ?_
        refine (H_get0 (ka_93 L _) rfl at_94_39).trans ?_
        refine (S_iload_n rfl at_94_42).trans ?_
        refine (S_i2b at_94_43).trans ?_
        refine (H_bastore34 (by omega) (ka_94 L _) at_94_44).trans ?_
        refine ite_congr rfl (fun hi => ?_) (fun _ => rfl)
        refine (S_aload_n rfl at_94_45).trans ?_
        refine (S_getR (ka_2 L _) rfl (f_2_8 L _) at_94_46).trans ?_
        refine (S_dup rfl at_94_49).trans ?_
        refine (H_get0 (ka_93 L _) rfl at_94_50).trans ?_
        refine (S_iconst at_94_53).trans ?_
        refine (S_iadd at_94_54).trans ?_
        refine (H_put0 (ka_93 L _) rfl at_94_55).trans ?_
        refine (S_aload_n rfl at_94_58).trans ?_
        refine (S_getR (ka_2 L _) rfl (f_2_8 L _) at_94_59).trans ?_
        refine (H_get0 (ka_93 L _) rfl at_94_62).trans ?_
        exact S_ireti rfl at_94_65
      · refine (S_bipush at_94_25).trans ?_
        exact S_ireti rfl at_94_27
theorem T95_0 {C : Nat → List j_V → j_H → Option j_Z} {L : Nat} {m : j_M0} : j_fin C 95 0 [some (jR 2), none] [] (hH L m) = (C 65 [jR 93, jI (m 4 0)] (hH L m)).bind fun z => j_fin C 95 17 [some (jR 2), none] (z.1.toList ++ []) z.2 := by
  refine (S_aload_n rfl at_95_0).trans ?_
  refine (S_getR (ka_2 L _) rfl (f_2_8 L _) at_95_1).trans ?_
  refine (S_aload_n rfl at_95_4).trans ?_
  refine (S_getR (ka_2 L _) rfl (f_2_0 L _) at_95_5).trans ?_
  refine (S_getR (ka_3 L _) rfl (f_3_0 L _) at_95_8).trans ?_
  refine (H_get0 (ka_4 L _) rfl at_95_11).trans ?_
  refine (S_invv (b := 1) kn_65 rfl (ka_93 L _) (Nat.le_of_ble_eq_true rfl) at_95_14).trans ?_
  rfl
theorem T95_17 {C : Nat → List j_V → j_H → Option j_Z} {L : Nat} {m : j_M0} {s0 : Int} : j_fin C 95 17 [some (jR 2), none] [jI s0] (hH L m) = if s0 < 0 then if 8 < (w32 (((j_up m 93 0 0) 4 1) + ((j_up m 93 0 0) 93 1))) then some (some (jI (-4)), hH L (j_up m 93 0 0)) else (C 66 [jR 93, jR 4] (hH L (j_up m 93 0 0))).bind fun z => j_fin C 95 75 [some (jR 2), some (jI s0)] (z.1.toList ++ []) z.2 else some (some (jI (w32 ((-10) - s0))), hH L (j_up m 93 0 0)) := by
  refine (S_istore_n (l1 := [some (jR 2), some (jI s0)]) rfl at_95_17).trans ?_
  refine (S_aload_n rfl at_95_18).trans ?_
  refine (S_getR (ka_2 L _) rfl (f_2_8 L _) at_95_19).trans ?_
  refine (S_iconst at_95_22).trans ?_
  refine (H_put0 (ka_93 L _) rfl at_95_23).trans ?_
  refine (S_iload_n rfl at_95_26).trans ?_
  refine (S_if_lt at_95_27).trans ?_
  refine ite_congr rfl (fun _ => ?_) (fun _ => ?_)
  · refine (S_aload_n rfl at_95_35).trans ?_
    refine (S_getR (ka_2 L _) rfl (f_2_0 L _) at_95_36).trans ?_
    refine (S_getR (ka_3 L _) rfl (f_3_0 L _) at_95_39).trans ?_
    refine (H_get0 (ka_4 L _) rfl at_95_42).trans ?_
    refine (S_aload_n rfl at_95_45).trans ?_
    refine (S_getR (ka_2 L _) rfl (f_2_8 L _) at_95_46).trans ?_
    refine (H_get0 (ka_93 L _) rfl at_95_49).trans ?_
    refine (S_iadd at_95_52).trans ?_
    refine (S_bipush at_95_53).trans ?_
    refine (S_icmp_le at_95_55).trans ?_
    refine ite_congr rfl (fun _ => ?_) (fun _ => ?_)
    · refine (S_bipush at_95_58).trans ?_
      exact S_ireti rfl at_95_60
    · refine (S_aload_n rfl at_95_61).trans ?_
      refine (S_getR (ka_2 L _) rfl (f_2_8 L _) at_95_62).trans ?_
      refine (S_aload_n rfl at_95_65).trans ?_
      refine (S_getR (ka_2 L _) rfl (f_2_0 L _) at_95_66).trans ?_
      refine (S_getR (ka_3 L _) rfl (f_3_0 L _) at_95_69).trans ?_
      refine (S_invv (b := 1) kn_66 rfl (ka_93 L _) (Nat.le_of_ble_eq_true rfl) at_95_72).trans ?_
      rfl
  · refine (S_bipush at_95_30).trans ?_
    refine (S_iload_n rfl at_95_32).trans ?_
    refine (S_isub at_95_33).trans ?_
    exact S_ireti rfl at_95_34
theorem T95_75 {C : Nat → List j_V → j_H → Option j_Z} {L : Nat} {m : j_M0} {x1 : Int} : j_fin C 95 75 [some (jR 2), some (jI x1)] [] (hH L m) = some (some (jI ((j_up m 2 11 0) 93 1)), hH L (j_up m 2 11 0)) := by
  refine (S_aload_n rfl at_95_75).trans ?_
  refine (S_iconst at_95_76).trans ?_
  refine (H_put2 (ka_2 L _) rfl at_95_77).trans ?_
  refine (if_pos (by decide)).trans ?_
  refine (S_aload_n rfl at_95_80).trans ?_
  refine (S_getR (ka_2 L _) rfl (f_2_8 L _) at_95_81).trans ?_
  refine (H_get0 (ka_93 L _) rfl at_95_84).trans ?_
  exact S_ireti rfl at_95_87
theorem T96_0 {C : Nat → List j_V → j_H → Option j_Z} {L : Nat} {m : j_M0} {x1 : Int} {x2 : Int} : j_fin C 96 0 [some (jR 2), some (jI x1), some (jI x2)] [] (hH L m) = (C 136 [jR 2, jI x1] (hH L m)).bind fun z => j_fin C 96 5 [some (jR 2), some (jI x1), some (jI x2)] (z.1.toList ++ []) z.2 := by
  refine (S_aload_n rfl at_96_0).trans ?_
  refine (S_iload_n rfl at_96_1).trans ?_
  refine (S_invv (b := 1) kn_136 rfl (ka_2 L _) (Nat.le_of_ble_eq_true rfl) at_96_2).trans ?_
  rfl
theorem T96_5 {C : Nat → List j_V → j_H → Option j_Z} {L : Nat} {m : j_M0} {x1 : Int} {x2 : Int} {s0 : Int} : j_fin C 96 5 [some (jR 2), some (jI x1), some (jI x2)] [jI s0] (hH L m) = if s0 = 0 then some (some (jI (-1)), hH L m) else if x2 < 0 then some (some (jI (-1)), hH L m) else if (w32 ((m 4 0) + 1)) < x2 then some (some (jI (-1)), hH L m) else if x2 = 0 then if 0 ≤ x1 ∧ x1 < 8 then some (some (jI (w32 ((m 6 x1.toNat) + 1000))), hH L m) else none else if x2 = 1 then if 0 ≤ x1 ∧ x1 < 8 then some (some (jI (w32 ((m 7 x1.toNat) + 1000))), hH L m) else none else (C 11 [jR 4, jI x1, jI (w32 (x2 - 2))] (hH L m)).bind fun z => j_fin C 96 87 [some (jR 2), some (jI x1), some (jI x2)] (z.1.toList ++ []) z.2 := by
  refine (S_if_eq at_96_5).trans ?_
  refine ite_congr rfl (fun _ => ?_) (fun _ => ?_)
  · refine (S_iconst at_96_28).trans ?_
    exact S_ireti rfl at_96_29
  · refine (S_iload_n rfl at_96_8).trans ?_
    refine (S_if_lt at_96_9).trans ?_
    refine ite_congr rfl (fun _ => ?_) (fun _ => ?_)
    · refine (S_iconst at_96_28).trans ?_
      exact S_ireti rfl at_96_29
    · refine (S_iload_n rfl at_96_12).trans ?_
      refine (S_aload_n rfl at_96_13).trans ?_
      refine (S_getR (ka_2 L _) rfl (f_2_0 L _) at_96_14).trans ?_
      refine (S_getR (ka_3 L _) rfl (f_3_0 L _) at_96_17).trans ?_
      refine (H_get0 (ka_4 L _) rfl at_96_20).trans ?_
      refine (S_iconst at_96_23).trans ?_
      refine (S_iadd at_96_24).trans ?_
      refine (S_icmp_le at_96_25).trans ?_
      refine ite_congr rfl (fun _ => ?_) (fun _ => ?_)
      · refine (S_iconst at_96_28).trans ?_
        exact S_ireti rfl at_96_29
      · refine (S_iload_n rfl at_96_30).trans ?_
        refine (S_if_ne at_96_31).trans ?_
        refine ite_congr rfl (fun _ => ?_) (fun _ => ?_)
        · refine (S_aload_n rfl at_96_34).trans ?_
          refine (S_getR (ka_2 L _) rfl (f_2_0 L _) at_96_35).trans ?_
          refine (S_getR (ka_3 L _) rfl (f_3_0 L _) at_96_38).trans ?_
          refine (S_getR (ka_4 L _) rfl (f_4_3 L _) at_96_41).trans ?_
          refine (S_iload_n rfl at_96_44).trans ?_
          refine (H_iaload (ka_6 L _) at_96_45).trans ?_
          refine ite_congr rfl (fun hi => ?_) (fun _ => rfl)
          refine (S_sipush at_96_46).trans ?_
          refine (S_iadd at_96_49).trans ?_
          exact S_ireti rfl at_96_50
        · refine (S_iload_n rfl at_96_51).trans ?_
          refine (S_iconst at_96_52).trans ?_
          refine (S_icmp_ne at_96_53).trans ?_
          refine ite_congr rfl (fun _ => ?_) (fun _ => ?_)
          · refine (S_aload_n rfl at_96_56).trans ?_
            refine (S_getR (ka_2 L _) rfl (f_2_0 L _) at_96_57).trans ?_
            refine (S_getR (ka_3 L _) rfl (f_3_0 L _) at_96_60).trans ?_
            refine (S_getR (ka_4 L _) rfl (f_4_4 L _) at_96_63).trans ?_
            refine (S_iload_n rfl at_96_66).trans ?_
            refine (H_iaload (ka_7 L _) at_96_67).trans ?_
            refine ite_congr rfl (fun hi => ?_) (fun _ => rfl)
            refine (S_sipush at_96_68).trans ?_
            refine (S_iadd at_96_71).trans ?_
            exact S_ireti rfl at_96_72
          · refine (S_aload_n rfl at_96_73).trans ?_
            refine (S_getR (ka_2 L _) rfl (f_2_0 L _) at_96_74).trans ?_
            refine (S_getR (ka_3 L _) rfl (f_3_0 L _) at_96_77).trans ?_
            refine (S_iload_n rfl at_96_80).trans ?_
            refine (S_iload_n rfl at_96_81).trans ?_
            refine (S_iconst at_96_82).trans ?_
            refine (S_isub at_96_83).trans ?_
            refine (S_invv (b := 2) kn_11 rfl (ka_4 L _) (Nat.le_of_ble_eq_true rfl) at_96_84).trans ?_
            rfl
theorem T96_87 {C : Nat → List j_V → j_H → Option j_Z} {L : Nat} {m : j_M0} {x1 : Int} {x2 : Int} {s0 : Int} : j_fin C 96 87 [some (jR 2), some (jI x1), some (jI x2)] [jI s0] (hH L m) = some (some (jI (w32 (s0 + 1000))), hH L m) := by
  refine (S_sipush at_96_87).trans ?_
  refine (S_iadd at_96_90).trans ?_
  exact S_ireti rfl at_96_91
theorem T97_0 {C : Nat → List j_V → j_H → Option j_Z} {L : Nat} {m : j_M0} {x1 : Int} : j_fin C 97 0 [some (jR 2), some (jI x1)] [] (hH L m) = if x1 < 0 then some (some (jI (-2)), hH L m) else if 12 < x1 then some (some (jI (-2)), hH L m) else (C 29 [jR 40, jR 4, jI x1] (hH L (j_up m 2 11 1))).bind fun z => j_fin C 97 33 [some (jR 2), some (jI x1)] (z.1.toList ++ []) z.2 := by
  refine (S_iload_n rfl at_97_0).trans ?_
  refine (S_if_lt at_97_1).trans ?_
  refine ite_congr rfl (fun _ => ?_) (fun _ => ?_)
  · refine (S_bipush at_97_10).trans ?_
    exact S_ireti rfl at_97_12
  · refine (S_iload_n rfl at_97_4).trans ?_
    refine (S_bipush at_97_5).trans ?_
    refine (S_icmp_le at_97_7).trans ?_
    refine ite_congr rfl (fun _ => ?_) (fun _ => ?_)
    · refine (S_bipush at_97_10).trans ?_
      exact S_ireti rfl at_97_12
    · refine (S_aload_n rfl at_97_13).trans ?_
      refine (S_iconst at_97_14).trans ?_
      refine (H_put2 (ka_2 L _) rfl at_97_15).trans ?_
      refine (if_pos (by decide)).trans ?_
      refine (S_aload_n rfl at_97_18).trans ?_
      refine (S_getR (ka_2 L _) rfl (f_2_3 L _) at_97_19).trans ?_
      refine (S_aload_n rfl at_97_22).trans ?_
      refine (S_getR (ka_2 L _) rfl (f_2_0 L _) at_97_23).trans ?_
      refine (S_getR (ka_3 L _) rfl (f_3_0 L _) at_97_26).trans ?_
      refine (S_iload_n rfl at_97_29).trans ?_
      refine (S_invv (b := 2) kn_29 rfl (ka_40 L _) (Nat.le_of_ble_eq_true rfl) at_97_30).trans ?_
      rfl
theorem T97_33 {C : Nat → List j_V → j_H → Option j_Z} {L : Nat} {m : j_M0} {x1 : Int} {s0 : Int} : j_fin C 97 33 [some (jR 2), some (jI x1)] [jI s0] (hH L m) = some (some (jI s0), hH L m) := by
  exact S_ireti rfl at_97_33
theorem T98_0 {C : Nat → List j_V → j_H → Option j_Z} {L : Nat} {m : j_M0} {x1 : Int} {x2 : Int} : j_fin C 98 0 [some (jR 2), some (jI x1), some (jI x2), none] [] (hH L m) = if (m 2 11) = 0 then some (some (jL (-9223372036854775808)), hH L m) else if x1 < (-2) then some (some (jL (-9223372036854775808)), hH L m) else if x1 < (m 41 0) then if x2 < 0 then some (some (jL (-9223372036854775808)), hH L m) else if (w32 ((m 4 0) + 1)) < x2 then some (some (jL (-9223372036854775808)), hH L m) else if x1 = (-2) then if x2 < (m 4 0) then if 0 ≤ x2 ∧ x2 < 5 then some (some (jL (m 43 x2.toNat)), hH L m) else none else some (some (jL (-9223372036854775808)), hH L m) else if x1 = (-1) then (C 59 [jR 41, jI x2] (hH L m)).bind fun z => j_fin C 98 100 [some (jR 2), some (jI x1), some (jI x2), some (jI (m 4 0))] (z.1.toList ++ []) z.2 else (C 58 [jR 41, jI x1, jI x2] (hH L m)).bind fun z => j_fin C 98 113 [some (jR 2), some (jI x1), some (jI x2), some (jI (m 4 0))] (z.1.toList ++ []) z.2 else some (some (jL (-9223372036854775808)), hH L m) := by
  refine (S_aload_n rfl at_98_0).trans ?_
  refine (S_getR (ka_2 L _) rfl (f_2_0 L _) at_98_1).trans ?_
  refine (S_getR (ka_3 L _) rfl (f_3_0 L _) at_98_4).trans ?_
  refine (H_get0 (ka_4 L _) rfl at_98_7).trans ?_
  refine (S_istore_n (l1 := [some (jR 2), some (jI x1), some (jI x2), some (jI (m 4 0))]) rfl at_98_10).trans ?_
  refine (S_aload_n rfl at_98_11).trans ?_
  refine (H_get2 (ka_2 L _) rfl at_98_12).trans ?_
  refine (S_if_eq at_98_15).trans ?_
  refine ite_congr rfl (fun _ => ?_) (fun _ => ?_)
  · refine (S_ldc2_w at_98_49).trans ?_
    exact S_lret rfl at_98_52
  · refine (S_iload_n rfl at_98_18).trans ?_
    refine (S_bipush at_98_19).trans ?_
    refine (S_icmp_lt at_98_21).trans ?_
    refine ite_congr rfl (fun _ => ?_) (fun _ => ?_)
    · refine (S_ldc2_w at_98_49).trans ?_
      exact S_lret rfl at_98_52
    · refine (S_iload_n rfl at_98_24).trans ?_
      refine (S_aload_n rfl at_98_25).trans ?_
      refine (S_getR (ka_2 L _) rfl (f_2_3 L _) at_98_26).trans ?_
      refine (S_getR (ka_40 L _) rfl (f_40_0 L _) at_98_29).trans ?_
      refine (H_get0 (ka_41 L _) rfl at_98_32).trans ?_
      refine (S_icmp_ge at_98_35).trans ?_
      refine ite_congr rfl (fun _ => ?_) (fun _ => ?_)
      · refine (S_iload_n rfl at_98_38).trans ?_
        refine (S_if_lt at_98_39).trans ?_
        refine ite_congr rfl (fun _ => ?_) (fun _ => ?_)
        · refine (S_ldc2_w at_98_49).trans ?_
          exact S_lret rfl at_98_52
        · refine (S_iload_n rfl at_98_42).trans ?_
          refine (S_iload_n rfl at_98_43).trans ?_
          refine (S_iconst at_98_44).trans ?_
          refine (S_iadd at_98_45).trans ?_
          refine (S_icmp_le at_98_46).trans ?_
          refine ite_congr rfl (fun _ => ?_) (fun _ => ?_)
          · refine (S_ldc2_w at_98_49).trans ?_
            exact S_lret rfl at_98_52
          · refine (S_iload_n rfl at_98_53).trans ?_
            refine (S_bipush at_98_54).trans ?_
            refine (S_icmp_ne at_98_56).trans ?_
            refine ite_congr rfl (fun _ => ?_) (fun _ => ?_)
            · refine (S_iload_n rfl at_98_59).trans ?_
              refine (S_iload_n rfl at_98_60).trans ?_
              refine (S_icmp_ge at_98_61).trans ?_
              refine ite_congr rfl (fun _ => ?_) (fun _ => ?_)
              · refine (S_aload_n rfl at_98_64).trans ?_
                refine (S_getR (ka_2 L _) rfl (f_2_3 L _) at_98_65).trans ?_
                refine (S_getR (ka_40 L _) rfl (f_40_0 L _) at_98_68).trans ?_
                refine (S_getR (ka_41 L _) rfl (f_41_6 L _) at_98_71).trans ?_
                refine (S_iload_n rfl at_98_74).trans ?_
                refine (H_iaload (ka_43 L _) at_98_75).trans ?_
                refine ite_congr rfl (fun hi => ?_) (fun _ => rfl)
                refine (S_i2l at_98_76).trans ?_
                refine (S_goto at_98_77).trans ?_
                exact S_lret rfl at_98_83
              · refine (S_ldc2_w at_98_80).trans ?_
                exact S_lret rfl at_98_83
            · refine (S_iload_n rfl at_98_84).trans ?_
              refine (S_iconst at_98_85).trans ?_
              refine (S_icmp_ne at_98_86).trans ?_
              refine ite_congr rfl (fun _ => ?_) (fun _ => ?_)
              · refine (S_aload_n rfl at_98_89).trans ?_
                refine (S_getR (ka_2 L _) rfl (f_2_3 L _) at_98_90).trans ?_
                refine (S_getR (ka_40 L _) rfl (f_40_0 L _) at_98_93).trans ?_
                refine (S_iload_n rfl at_98_96).trans ?_
                refine (S_invv (b := 1) kn_59 rfl (ka_41 L _) (Nat.le_of_ble_eq_true rfl) at_98_97).trans ?_
                rfl
              · refine (S_aload_n rfl at_98_101).trans ?_
                refine (S_getR (ka_2 L _) rfl (f_2_3 L _) at_98_102).trans ?_
                refine (S_getR (ka_40 L _) rfl (f_40_0 L _) at_98_105).trans ?_
                refine (S_iload_n rfl at_98_108).trans ?_
                refine (S_iload_n rfl at_98_109).trans ?_
                refine (S_invv (b := 2) kn_58 rfl (ka_41 L _) (Nat.le_of_ble_eq_true rfl) at_98_110).trans ?_
                rfl
      · refine (S_ldc2_w at_98_49).trans ?_
        exact S_lret rfl at_98_52
theorem T98_100 {C : Nat → List j_V → j_H → Option j_Z} {L : Nat} {m : j_M0} {x1 : Int} {x2 : Int} {x3 : Int} {t0 : Int} : j_fin C 98 100 [some (jR 2), some (jI x1), some (jI x2), some (jI x3)] [jL t0] (hH L m) = some (some (jL t0), hH L m) := by
  exact S_lret rfl at_98_100
theorem T98_113 {C : Nat → List j_V → j_H → Option j_Z} {L : Nat} {m : j_M0} {x1 : Int} {x2 : Int} {x3 : Int} {t0 : Int} : j_fin C 98 113 [some (jR 2), some (jI x1), some (jI x2), some (jI x3)] [jL t0] (hH L m) = some (some (jL t0), hH L m) := by
  exact S_lret rfl at_98_113
theorem T99_0 {C : Nat → List j_V → j_H → Option j_Z} {L : Nat} {m : j_M0} {x1 : Int} {x2 : Int} : j_fin C 99 0 [some (jR 2), some (jI x1), some (jI x2)] [] (hH L m) = if (m 2 11) = 0 then some (some (jL (-9223372036854775808)), hH L m) else (C 135 [jR 2, jI x1] (hH L m)).bind fun z => j_fin C 99 12 [some (jR 2), some (jI x1), some (jI x2)] (z.1.toList ++ []) z.2 := by
  refine (S_aload_n rfl at_99_0).trans ?_
  refine (H_get2 (ka_2 L _) rfl at_99_1).trans ?_
  refine (S_if_eq at_99_4).trans ?_
  refine ite_congr rfl (fun _ => ?_) (fun _ => ?_)
  · refine (S_ldc2_w at_99_22).trans ?_
    exact S_lret rfl at_99_25
  · refine (S_aload_n rfl at_99_7).trans ?_
    refine (S_iload_n rfl at_99_8).trans ?_
    refine (S_invv (b := 1) kn_135 rfl (ka_2 L _) (Nat.le_of_ble_eq_true rfl) at_99_9).trans ?_
    rfl
theorem T99_12 {C : Nat → List j_V → j_H → Option j_Z} {L : Nat} {m : j_M0} {x1 : Int} {x2 : Int} {s0 : Int} : j_fin C 99 12 [some (jR 2), some (jI x1), some (jI x2)] [jI s0] (hH L m) = if s0 = 0 then some (some (jL (-9223372036854775808)), hH L m) else (C 141 [jI x2] (hH L m)).bind fun z => j_fin C 99 19 [some (jR 2), some (jI x1), some (jI x2)] (z.1.toList ++ []) z.2 := by
  refine (S_if_eq at_99_12).trans ?_
  refine ite_congr rfl (fun _ => ?_) (fun _ => ?_)
  · refine (S_ldc2_w at_99_22).trans ?_
    exact S_lret rfl at_99_25
  · refine (S_iload_n rfl at_99_15).trans ?_
    refine (S_invs (by decide) (Nat.le_of_ble_eq_true rfl) (Nat.le_of_ble_eq_true rfl) at_99_16).trans ?_
    rfl
theorem T99_19 {C : Nat → List j_V → j_H → Option j_Z} {L : Nat} {m : j_M0} {x1 : Int} {x2 : Int} {s0 : Int} : j_fin C 99 19 [some (jR 2), some (jI x1), some (jI x2)] [jI s0] (hH L m) = if s0 = 0 then some (some (jL (-9223372036854775808)), hH L m) else (C 53 [jR 41, jI x1] (hH L m)).bind fun z => j_fin C 99 37 [some (jR 2), some (jI x1), some (jI x2)] (z.1.toList ++ []) z.2 := by
  refine (S_if_ne at_99_19).trans ?_
  refine ite_congr rfl (fun _ => ?_) (fun _ => ?_)
  · refine (S_ldc2_w at_99_22).trans ?_
    exact S_lret rfl at_99_25
  · refine (S_aload_n rfl at_99_26).trans ?_
    refine (S_getR (ka_2 L _) rfl (f_2_3 L _) at_99_27).trans ?_
    refine (S_getR (ka_40 L _) rfl (f_40_0 L _) at_99_30).trans ?_
    refine (S_iload_n rfl at_99_33).trans ?_
    refine (S_invv (b := 1) kn_53 rfl (ka_41 L _) (Nat.le_of_ble_eq_true rfl) at_99_34).trans ?_
    rfl
theorem T99_37 {C : Nat → List j_V → j_H → Option j_Z} {L : Nat} {m : j_M0} {x1 : Int} {x2 : Int} {t0 : Int} : j_fin C 99 37 [some (jR 2), some (jI x1), some (jI x2)] [jL t0] (hH L m) = (C 146 [jL t0, jL (m 41 4), jI x2] (hH L m)).bind fun z => j_fin C 99 51 [some (jR 2), some (jI x1), some (jI x2)] (z.1.toList ++ []) z.2 := by
  refine (S_aload_n rfl at_99_37).trans ?_
  refine (S_getR (ka_2 L _) rfl (f_2_3 L _) at_99_38).trans ?_
  refine (S_getR (ka_40 L _) rfl (f_40_0 L _) at_99_41).trans ?_
  refine (H_get1 (ka_41 L _) rfl at_99_44).trans ?_
  refine (S_iload_n rfl at_99_47).trans ?_
  refine (S_invs (by decide) (Nat.le_of_ble_eq_true rfl) (Nat.le_of_ble_eq_true rfl) at_99_48).trans ?_
  rfl
theorem T99_51 {C : Nat → List j_V → j_H → Option j_Z} {L : Nat} {m : j_M0} {x1 : Int} {x2 : Int} {t0 : Int} : j_fin C 99 51 [some (jR 2), some (jI x1), some (jI x2)] [jL t0] (hH L m) = some (some (jL t0), hH L m) := by
  exact S_lret rfl at_99_51
theorem T100_0 {C : Nat → List j_V → j_H → Option j_Z} {L : Nat} {m : j_M0} {x1 : Int} : j_fin C 100 0 [some (jR 2), some (jI x1)] [] (hH L m) = if (m 2 11) = 0 then some (some (jL (-9223372036854775808)), hH L m) else (C 141 [jI x1] (hH L m)).bind fun z => j_fin C 100 11 [some (jR 2), some (jI x1)] (z.1.toList ++ []) z.2 := by
  refine (S_aload_n rfl at_100_0).trans ?_
  refine (H_get2 (ka_2 L _) rfl at_100_1).trans ?_
  refine (S_if_eq at_100_4).trans ?_
  refine ite_congr rfl (fun _ => ?_) (fun _ => ?_)
  · refine (S_ldc2_w at_100_14).trans ?_
    exact S_lret rfl at_100_17
  · refine (S_iload_n rfl at_100_7).trans ?_
    refine (S_invs (by decide) (Nat.le_of_ble_eq_true rfl) (Nat.le_of_ble_eq_true rfl) at_100_8).trans ?_
    rfl
theorem T100_11 {C : Nat → List j_V → j_H → Option j_Z} {L : Nat} {m : j_M0} {x1 : Int} {s0 : Int} : j_fin C 100 11 [some (jR 2), some (jI x1)] [jI s0] (hH L m) = if s0 = 0 then some (some (jL (-9223372036854775808)), hH L m) else (C 146 [jL (m 41 3), jL (m 41 4), jI x1] (hH L m)).bind fun z => j_fin C 100 42 [some (jR 2), some (jI x1)] (z.1.toList ++ []) z.2 := by
  refine (S_if_ne at_100_11).trans ?_
  refine ite_congr rfl (fun _ => ?_) (fun _ => ?_)
  · refine (S_ldc2_w at_100_14).trans ?_
    exact S_lret rfl at_100_17
  · refine (S_aload_n rfl at_100_18).trans ?_
    refine (S_getR (ka_2 L _) rfl (f_2_3 L _) at_100_19).trans ?_
    refine (S_getR (ka_40 L _) rfl (f_40_0 L _) at_100_22).trans ?_
    refine (H_get1 (ka_41 L _) rfl at_100_25).trans ?_
    refine (S_aload_n rfl at_100_28).trans ?_
    refine (S_getR (ka_2 L _) rfl (f_2_3 L _) at_100_29).trans ?_
    refine (S_getR (ka_40 L _) rfl (f_40_0 L _) at_100_32).trans ?_
    refine (H_get1 (ka_41 L _) rfl at_100_35).trans ?_
    refine (S_iload_n rfl at_100_38).trans ?_
    refine (S_invs (by decide) (Nat.le_of_ble_eq_true rfl) (Nat.le_of_ble_eq_true rfl) at_100_39).trans ?_
    rfl
theorem T100_42 {C : Nat → List j_V → j_H → Option j_Z} {L : Nat} {m : j_M0} {x1 : Int} {t0 : Int} : j_fin C 100 42 [some (jR 2), some (jI x1)] [jL t0] (hH L m) = some (some (jL t0), hH L m) := by
  exact S_lret rfl at_100_42
theorem T101_0 {C : Nat → List j_V → j_H → Option j_Z} {L : Nat} {m : j_M0} {x1 : Int} {x2 : Int} : j_fin C 101 0 [some (jR 2), some (jI x1), some (jI x2)] [] (hH L m) = if (m 2 11) = 0 then some (some (jL (-9223372036854775808)), hH L m) else (C 136 [jR 2, jI x1] (hH L m)).bind fun z => j_fin C 101 12 [some (jR 2), some (jI x1), some (jI x2)] (z.1.toList ++ []) z.2 := by
  refine (S_aload_n rfl at_101_0).trans ?_
  refine (H_get2 (ka_2 L _) rfl at_101_1).trans ?_
  refine (S_if_eq at_101_4).trans ?_
  refine ite_congr rfl (fun _ => ?_) (fun _ => ?_)
  · refine (S_ldc2_w at_101_22).trans ?_
    exact S_lret rfl at_101_25
  · refine (S_aload_n rfl at_101_7).trans ?_
    refine (S_iload_n rfl at_101_8).trans ?_
    refine (S_invv (b := 1) kn_136 rfl (ka_2 L _) (Nat.le_of_ble_eq_true rfl) at_101_9).trans ?_
    rfl
theorem T101_12 {C : Nat → List j_V → j_H → Option j_Z} {L : Nat} {m : j_M0} {x1 : Int} {x2 : Int} {s0 : Int} : j_fin C 101 12 [some (jR 2), some (jI x1), some (jI x2)] [jI s0] (hH L m) = if s0 = 0 then some (some (jL (-9223372036854775808)), hH L m) else (C 141 [jI x2] (hH L m)).bind fun z => j_fin C 101 19 [some (jR 2), some (jI x1), some (jI x2)] (z.1.toList ++ []) z.2 := by
  refine (S_if_eq at_101_12).trans ?_
  refine ite_congr rfl (fun _ => ?_) (fun _ => ?_)
  · refine (S_ldc2_w at_101_22).trans ?_
    exact S_lret rfl at_101_25
  · refine (S_iload_n rfl at_101_15).trans ?_
    refine (S_invs (by decide) (Nat.le_of_ble_eq_true rfl) (Nat.le_of_ble_eq_true rfl) at_101_16).trans ?_
    rfl
theorem T101_19 {C : Nat → List j_V → j_H → Option j_Z} {L : Nat} {m : j_M0} {x1 : Int} {x2 : Int} {s0 : Int} : j_fin C 101 19 [some (jR 2), some (jI x1), some (jI x2)] [jI s0] (hH L m) = if s0 = 0 then some (some (jL (-9223372036854775808)), hH L m) else (C 55 [jR 41, jI (w32 (10 + x1))] (hH L m)).bind fun z => j_fin C 101 40 [some (jR 2), some (jI x1), some (jI x2)] (z.1.toList ++ []) z.2 := by
  refine (S_if_ne at_101_19).trans ?_
  refine ite_congr rfl (fun _ => ?_) (fun _ => ?_)
  · refine (S_ldc2_w at_101_22).trans ?_
    exact S_lret rfl at_101_25
  · refine (S_aload_n rfl at_101_26).trans ?_
    refine (S_getR (ka_2 L _) rfl (f_2_3 L _) at_101_27).trans ?_
    refine (S_getR (ka_40 L _) rfl (f_40_0 L _) at_101_30).trans ?_
    refine (S_bipush at_101_33).trans ?_
    refine (S_iload_n rfl at_101_35).trans ?_
    refine (S_iadd at_101_36).trans ?_
    refine (S_invv (b := 1) kn_55 rfl (ka_41 L _) (Nat.le_of_ble_eq_true rfl) at_101_37).trans ?_
    rfl
theorem T101_40 {C : Nat → List j_V → j_H → Option j_Z} {L : Nat} {m : j_M0} {x1 : Int} {x2 : Int} {t0 : Int} : j_fin C 101 40 [some (jR 2), some (jI x1), some (jI x2)] [jL t0] (hH L m) = (C 146 [jL t0, jL (m 41 4), jI x2] (hH L m)).bind fun z => j_fin C 101 54 [some (jR 2), some (jI x1), some (jI x2)] (z.1.toList ++ []) z.2 := by
  refine (S_aload_n rfl at_101_40).trans ?_
  refine (S_getR (ka_2 L _) rfl (f_2_3 L _) at_101_41).trans ?_
  refine (S_getR (ka_40 L _) rfl (f_40_0 L _) at_101_44).trans ?_
  refine (H_get1 (ka_41 L _) rfl at_101_47).trans ?_
  refine (S_iload_n rfl at_101_50).trans ?_
  refine (S_invs (by decide) (Nat.le_of_ble_eq_true rfl) (Nat.le_of_ble_eq_true rfl) at_101_51).trans ?_
  rfl
theorem T101_54 {C : Nat → List j_V → j_H → Option j_Z} {L : Nat} {m : j_M0} {x1 : Int} {x2 : Int} {t0 : Int} : j_fin C 101 54 [some (jR 2), some (jI x1), some (jI x2)] [jL t0] (hH L m) = some (some (jL t0), hH L m) := by
  exact S_lret rfl at_101_54
theorem T102_0 {C : Nat → List j_V → j_H → Option j_Z} {L : Nat} {m : j_M0} {x1 : Int} {x2 : Int} : j_fin C 102 0 [some (jR 2), some (jI x1), some (jI x2)] [] (hH L m) = (C 137 [jR 2, jI x1] (hH L m)).bind fun z => j_fin C 102 5 [some (jR 2), some (jI x1), some (jI x2)] (z.1.toList ++ []) z.2 := by
  refine (S_aload_n rfl at_102_0).trans ?_
  refine (S_iload_n rfl at_102_1).trans ?_
  refine (S_invv (b := 1) kn_137 rfl (ka_2 L _) (Nat.le_of_ble_eq_true rfl) at_102_2).trans ?_
  rfl
theorem T102_5 {C : Nat → List j_V → j_H → Option j_Z} {L : Nat} {m : j_M0} {x1 : Int} {x2 : Int} {s0 : Int} : j_fin C 102 5 [some (jR 2), some (jI x1), some (jI x2)] [jI s0] (hH L m) = if s0 = 0 then some (some (jL (-9223372036854775808)), hH L m) else if x2 < 0 then some (some (jL (-9223372036854775808)), hH L m) else if (m 4 0) < x2 then some (some (jL (-9223372036854775808)), hH L m) else (C 2 [jR 50, jI x1, jI x2] (hH L m)).bind fun z => j_fin C 102 42 [some (jR 2), some (jI x1), some (jI x2)] (z.1.toList ++ []) z.2 := by
  refine (S_if_eq at_102_5).trans ?_
  refine ite_congr rfl (fun _ => ?_) (fun _ => ?_)
  · refine (S_ldc2_w at_102_26).trans ?_
    exact S_lret rfl at_102_29
  · refine (S_iload_n rfl at_102_8).trans ?_
    refine (S_if_lt at_102_9).trans ?_
    refine ite_congr rfl (fun _ => ?_) (fun _ => ?_)
    · refine (S_ldc2_w at_102_26).trans ?_
      exact S_lret rfl at_102_29
    · refine (S_iload_n rfl at_102_12).trans ?_
      refine (S_aload_n rfl at_102_13).trans ?_
      refine (S_getR (ka_2 L _) rfl (f_2_0 L _) at_102_14).trans ?_
      refine (S_getR (ka_3 L _) rfl (f_3_0 L _) at_102_17).trans ?_
      refine (H_get0 (ka_4 L _) rfl at_102_20).trans ?_
      refine (S_icmp_le at_102_23).trans ?_
      refine ite_congr rfl (fun _ => ?_) (fun _ => ?_)
      · refine (S_ldc2_w at_102_26).trans ?_
        exact S_lret rfl at_102_29
      · refine (S_aload_n rfl at_102_30).trans ?_
        refine (S_getR (ka_2 L _) rfl (f_2_3 L _) at_102_31).trans ?_
        refine (S_getR (ka_40 L _) rfl (f_40_1 L _) at_102_34).trans ?_
        refine (S_iload_n rfl at_102_37).trans ?_
        refine (S_iload_n rfl at_102_38).trans ?_
        refine (S_invv (b := 2) kn_2 rfl (ka_50 L _) (Nat.le_of_ble_eq_true rfl) at_102_39).trans ?_
        rfl
theorem T102_42 {C : Nat → List j_V → j_H → Option j_Z} {L : Nat} {m : j_M0} {x1 : Int} {x2 : Int} {t0 : Int} : j_fin C 102 42 [some (jR 2), some (jI x1), some (jI x2)] [jL t0] (hH L m) = some (some (jL t0), hH L m) := by
  exact S_lret rfl at_102_42
theorem T103_0 {C : Nat → List j_V → j_H → Option j_Z} {L : Nat} {m : j_M0} {x1 : Int} {x2 : Int} {x3 : Int} : j_fin C 103 0 [some (jR 2), some (jI x1), some (jI x2), some (jI x3), none, none] [] (hH L m) = (C 137 [jR 2, jI x1] (hH L m)).bind fun z => j_fin C 103 5 [some (jR 2), some (jI x1), some (jI x2), some (jI x3), none, none] (z.1.toList ++ []) z.2 := by
  refine (S_aload_n rfl at_103_0).trans ?_
  refine (S_iload_n rfl at_103_1).trans ?_
  refine (S_invv (b := 1) kn_137 rfl (ka_2 L _) (Nat.le_of_ble_eq_true rfl) at_103_2).trans ?_
  rfl
theorem T103_5 {C : Nat → List j_V → j_H → Option j_Z} {L : Nat} {m : j_M0} {x1 : Int} {x2 : Int} {x3 : Int} {s0 : Int} : j_fin C 103 5 [some (jR 2), some (jI x1), some (jI x2), some (jI x3), none, none] [jI s0] (hH L m) = if s0 = 0 then some (some (jL (-9223372036854775808)), hH L m) else (C 141 [jI x3] (hH L m)).bind fun z => j_fin C 103 12 [some (jR 2), some (jI x1), some (jI x2), some (jI x3), none, none] (z.1.toList ++ []) z.2 := by
  refine (S_if_eq at_103_5).trans ?_
  refine ite_congr rfl (fun _ => ?_) (fun _ => ?_)
  · refine (S_ldc2_w at_103_15).trans ?_
    exact S_lret rfl at_103_18
  · refine (S_iload_n rfl at_103_8).trans ?_
    refine (S_invs (by decide) (Nat.le_of_ble_eq_true rfl) (Nat.le_of_ble_eq_true rfl) at_103_9).trans ?_
    rfl
theorem T103_12 {C : Nat → List j_V → j_H → Option j_Z} {L : Nat} {m : j_M0} {x1 : Int} {x2 : Int} {x3 : Int} {s0 : Int} : j_fin C 103 12 [some (jR 2), some (jI x1), some (jI x2), some (jI x3), none, none] [jI s0] (hH L m) = if s0 = 0 then some (some (jL (-9223372036854775808)), hH L m) else if x2 < 10 then if x2 < 20 then some (some (jL (-9223372036854775808)), hH L m) else if x2 < (w32 (20 + x1)) then (C 3 [jR 50, jI x1, jI x2] (hH L m)).bind fun z => j_fin C 103 96 [some (jR 2), some (jI x1), some (jI x2), some (jI x3), some (jI 0), some (jI 1)] (z.1.toList ++ []) z.2 else some (some (jL (-9223372036854775808)), hH L m) else if x2 < (w32 (10 + (m 4 1))) then if x2 < 20 then (C 3 [jR 50, jI x1, jI x2] (hH L m)).bind fun z => j_fin C 103 96 [some (jR 2), some (jI x1), some (jI x2), some (jI x3), some (jI 1), some (jI 0)] (z.1.toList ++ []) z.2 else if x2 < (w32 (20 + x1)) then (C 3 [jR 50, jI x1, jI x2] (hH L m)).bind fun z => j_fin C 103 96 [some (jR 2), some (jI x1), some (jI x2), some (jI x3), some (jI 1), some (jI 1)] (z.1.toList ++ []) z.2 else (C 3 [jR 50, jI x1, jI x2] (hH L m)).bind fun z => j_fin C 103 96 [some (jR 2), some (jI x1), some (jI x2), some (jI x3), some (jI 1), some (jI 0)] (z.1.toList ++ []) z.2 else if x2 < 20 then some (some (jL (-9223372036854775808)), hH L m) else if x2 < (w32 (20 + x1)) then (C 3 [jR 50, jI x1, jI x2] (hH L m)).bind fun z => j_fin C 103 96 [some (jR 2), some (jI x1), some (jI x2), some (jI x3), some (jI 0), some (jI 1)] (z.1.toList ++ []) z.2 else some (some (jL (-9223372036854775808)), hH L m) := by
  refine (S_if_ne at_103_12).trans ?_
  refine ite_congr rfl (fun _ => ?_) (fun _ => ?_)
  · refine (S_ldc2_w at_103_15).trans ?_
    exact S_lret rfl at_103_18
  · refine (S_iload_n rfl at_103_19).trans ?_
    refine (S_bipush at_103_20).trans ?_
    refine (S_icmp_lt at_103_22).trans ?_
    refine ite_congr rfl (fun _ => ?_) (fun _ => ?_)
    · refine (S_iconst at_103_46).trans ?_
      refine (S_istore (l1 := [some (jR 2), some (jI x1), some (jI x2), some (jI x3), some (jI 0), none]) rfl at_103_47).trans ?_
      refine (S_iload_n rfl at_103_49).trans ?_
      refine (S_bipush at_103_50).trans ?_
      refine (S_icmp_lt at_103_52).trans ?_
      refine ite_congr rfl (fun _ => ?_) (fun _ => ?_)
      · refine (S_iconst at_103_67).trans ?_
        refine (S_istore (l1 := [some (jR 2), some (jI x1), some (jI x2), some (jI x3), some (jI 0), some (jI 0)]) rfl at_103_68).trans ?_
        refine (S_iload rfl at_103_70).trans ?_
        refine (S_if_ne at_103_72).trans ?_
        refine (if_pos (by decide)).trans ?_
        refine (S_iload rfl at_103_75).trans ?_
        refine (S_if_ne at_103_77).trans ?_
        refine (if_pos (by decide)).trans ?_
        refine (S_ldc2_w at_103_80).trans ?_
        exact S_lret rfl at_103_83
      · refine (S_iload_n rfl at_103_55).trans ?_
        refine (S_bipush at_103_56).trans ?_
        refine (S_iload_n rfl at_103_58).trans ?_
        refine (S_iadd at_103_59).trans ?_
        refine (S_icmp_ge at_103_60).trans ?_
        refine ite_congr rfl (fun _ => ?_) (fun _ => ?_)
        · refine (S_iconst at_103_63).trans ?_
          refine (S_goto at_103_64).trans ?_
          refine (S_istore (l1 := [some (jR 2), some (jI x1), some (jI x2), some (jI x3), some (jI 0), some (jI 1)]) rfl at_103_68).trans ?_
          refine (S_iload rfl at_103_70).trans ?_
          refine (S_if_ne at_103_72).trans ?_
          refine (if_pos (by decide)).trans ?_
          refine (S_iload rfl at_103_75).trans ?_
          refine (S_if_ne at_103_77).trans ?_
          refine (if_neg (by decide)).trans ?_
          refine (S_aload_n rfl at_103_84).trans ?_
          refine (S_getR (ka_2 L _) rfl (f_2_3 L _) at_103_85).trans ?_
          refine (S_getR (ka_40 L _) rfl (f_40_1 L _) at_103_88).trans ?_
          refine (S_iload_n rfl at_103_91).trans ?_
          refine (S_iload_n rfl at_103_92).trans ?_
          refine (S_invv (b := 2) kn_3 rfl (ka_50 L _) (Nat.le_of_ble_eq_true rfl) at_103_93).trans ?_
          rfl
        · refine (S_iconst at_103_67).trans ?_
          refine (S_istore (l1 := [some (jR 2), some (jI x1), some (jI x2), some (jI x3), some (jI 0), some (jI 0)]) rfl at_103_68).trans ?_
          refine (S_iload rfl at_103_70).trans ?_
          refine (S_if_ne at_103_72).trans ?_
          refine (if_pos (by decide)).trans ?_
          refine (S_iload rfl at_103_75).trans ?_
          refine (S_if_ne at_103_77).trans ?_
          refine (if_pos (by decide)).trans ?_
          refine (S_ldc2_w at_103_80).trans ?_
          exact S_lret rfl at_103_83
    · refine (S_iload_n rfl at_103_25).trans ?_
      refine (S_bipush at_103_26).trans ?_
      refine (S_aload_n rfl at_103_28).trans ?_
      refine (S_getR (ka_2 L _) rfl (f_2_0 L _) at_103_29).trans ?_
      refine (S_getR (ka_3 L _) rfl (f_3_0 L _) at_103_32).trans ?_
      refine (H_get0 (ka_4 L _) rfl at_103_35).trans ?_
      refine (S_iadd at_103_38).trans ?_
      refine (S_icmp_ge at_103_39).trans ?_
      refine ite_congr rfl (fun _ => ?_) (fun _ => ?_)
      · refine (S_iconst at_103_42).trans ?_
        refine (S_goto at_103_43).trans ?_
        refine (S_istore (l1 := [some (jR 2), some (jI x1), some (jI x2), some (jI x3), some (jI 1), none]) rfl at_103_47).trans ?_
        refine (S_iload_n rfl at_103_49).trans ?_
        refine (S_bipush at_103_50).trans ?_
        refine (S_icmp_lt at_103_52).trans ?_
        refine ite_congr rfl (fun _ => ?_) (fun _ => ?_)
        · refine (S_iconst at_103_67).trans ?_
          refine (S_istore (l1 := [some (jR 2), some (jI x1), some (jI x2), some (jI x3), some (jI 1), some (jI 0)]) rfl at_103_68).trans ?_
          refine (S_iload rfl at_103_70).trans ?_
          refine (S_if_ne at_103_72).trans ?_
          refine (if_neg (by decide)).trans ?_
          refine (S_aload_n rfl at_103_84).trans ?_
          refine (S_getR (ka_2 L _) rfl (f_2_3 L _) at_103_85).trans ?_
          refine (S_getR (ka_40 L _) rfl (f_40_1 L _) at_103_88).trans ?_
          refine (S_iload_n rfl at_103_91).trans ?_
          refine (S_iload_n rfl at_103_92).trans ?_
          refine (S_invv (b := 2) kn_3 rfl (ka_50 L _) (Nat.le_of_ble_eq_true rfl) at_103_93).trans ?_
          rfl
        · refine (S_iload_n rfl at_103_55).trans ?_
          refine (S_bipush at_103_56).trans ?_
          refine (S_iload_n rfl at_103_58).trans ?_
          refine (S_iadd at_103_59).trans ?_
          refine (S_icmp_ge at_103_60).trans ?_
          refine ite_congr rfl (fun _ => ?_) (fun _ => ?_)
          · refine (S_iconst at_103_63).trans ?_
            refine (S_goto at_103_64).trans ?_
            refine (S_istore (l1 := [some (jR 2), some (jI x1), some (jI x2), some (jI x3), some (jI 1), some (jI 1)]) rfl at_103_68).trans ?_
            refine (S_iload rfl at_103_70).trans ?_
            refine (S_if_ne at_103_72).trans ?_
            refine (if_neg (by decide)).trans ?_
            refine (S_aload_n rfl at_103_84).trans ?_
            refine (S_getR (ka_2 L _) rfl (f_2_3 L _) at_103_85).trans ?_
            refine (S_getR (ka_40 L _) rfl (f_40_1 L _) at_103_88).trans ?_
            refine (S_iload_n rfl at_103_91).trans ?_
            refine (S_iload_n rfl at_103_92).trans ?_
            refine (S_invv (b := 2) kn_3 rfl (ka_50 L _) (Nat.le_of_ble_eq_true rfl) at_103_93).trans ?_
            rfl
          · refine (S_iconst at_103_67).trans ?_
            refine (S_istore (l1 := [some (jR 2), some (jI x1), some (jI x2), some (jI x3), some (jI 1), some (jI 0)]) rfl at_103_68).trans ?_
            refine (S_iload rfl at_103_70).trans ?_
            refine (S_if_ne at_103_72).trans ?_
            refine (if_neg (by decide)).trans ?_
            refine (S_aload_n rfl at_103_84).trans ?_
            refine (S_getR (ka_2 L _) rfl (f_2_3 L _) at_103_85).trans ?_
            refine (S_getR (ka_40 L _) rfl (f_40_1 L _) at_103_88).trans ?_
            refine (S_iload_n rfl at_103_91).trans ?_
            refine (S_iload_n rfl at_103_92).trans ?_
            refine (S_invv (b := 2) kn_3 rfl (ka_50 L _) (Nat.le_of_ble_eq_true rfl) at_103_93).trans ?_
            rfl
      · refine (S_iconst at_103_46).trans ?_
        refine (S_istore (l1 := [some (jR 2), some (jI x1), some (jI x2), some (jI x3), some (jI 0), none]) rfl at_103_47).trans ?_
        refine (S_iload_n rfl at_103_49).trans ?_
        refine (S_bipush at_103_50).trans ?_
        refine (S_icmp_lt at_103_52).trans ?_
        refine ite_congr rfl (fun _ => ?_) (fun _ => ?_)
        · refine (S_iconst at_103_67).trans ?_
          refine (S_istore (l1 := [some (jR 2), some (jI x1), some (jI x2), some (jI x3), some (jI 0), some (jI 0)]) rfl at_103_68).trans ?_
          refine (S_iload rfl at_103_70).trans ?_
          refine (S_if_ne at_103_72).trans ?_
          refine (if_pos (by decide)).trans ?_
          refine (S_iload rfl at_103_75).trans ?_
          refine (S_if_ne at_103_77).trans ?_
          refine (if_pos (by decide)).trans ?_
          refine (S_ldc2_w at_103_80).trans ?_
          exact S_lret rfl at_103_83
        · refine (S_iload_n rfl at_103_55).trans ?_
          refine (S_bipush at_103_56).trans ?_
          refine (S_iload_n rfl at_103_58).trans ?_
          refine (S_iadd at_103_59).trans ?_
          refine (S_icmp_ge at_103_60).trans ?_
          refine ite_congr rfl (fun _ => ?_) (fun _ => ?_)
          · refine (S_iconst at_103_63).trans ?_
            refine (S_goto at_103_64).trans ?_
            refine (S_istore (l1 := [some (jR 2), some (jI x1), some (jI x2), some (jI x3), some (jI 0), some (jI 1)]) rfl at_103_68).trans ?_
            refine (S_iload rfl at_103_70).trans ?_
            refine (S_if_ne at_103_72).trans ?_
            refine (if_pos (by decide)).trans ?_
            refine (S_iload rfl at_103_75).trans ?_
            refine (S_if_ne at_103_77).trans ?_
            refine (if_neg (by decide)).trans ?_
            refine (S_aload_n rfl at_103_84).trans ?_
            refine (S_getR (ka_2 L _) rfl (f_2_3 L _) at_103_85).trans ?_
            refine (S_getR (ka_40 L _) rfl (f_40_1 L _) at_103_88).trans ?_
            refine (S_iload_n rfl at_103_91).trans ?_
            refine (S_iload_n rfl at_103_92).trans ?_
            refine (S_invv (b := 2) kn_3 rfl (ka_50 L _) (Nat.le_of_ble_eq_true rfl) at_103_93).trans ?_
            rfl
          · refine (S_iconst at_103_67).trans ?_
            refine (S_istore (l1 := [some (jR 2), some (jI x1), some (jI x2), some (jI x3), some (jI 0), some (jI 0)]) rfl at_103_68).trans ?_
            refine (S_iload rfl at_103_70).trans ?_
            refine (S_if_ne at_103_72).trans ?_
            refine (if_pos (by decide)).trans ?_
            refine (S_iload rfl at_103_75).trans ?_
            refine (S_if_ne at_103_77).trans ?_
            refine (if_pos (by decide)).trans ?_
            refine (S_ldc2_w at_103_80).trans ?_
            exact S_lret rfl at_103_83
theorem T103_96 {C : Nat → List j_V → j_H → Option j_Z} {L : Nat} {m : j_M0} {x1 : Int} {x2 : Int} {x3 : Int} {x4 : Int} {x5 : Int} {t0 : Int} : j_fin C 103 96 [some (jR 2), some (jI x1), some (jI x2), some (jI x3), some (jI x4), some (jI x5)] [jL t0] (hH L m) = if 0 ≤ x1 ∧ x1 < 12 then (C 146 [jL t0, jL (m 51 x1.toNat), jI x3] (hH L m)).bind fun z => j_fin C 103 112 [some (jR 2), some (jI x1), some (jI x2), some (jI x3), some (jI x4), some (jI x5)] (z.1.toList ++ []) z.2 else none := by
  refine (S_aload_n rfl at_103_96).trans ?_
  refine (S_getR (ka_2 L _) rfl (f_2_3 L _) at_103_97).trans ?_
  refine (S_getR (ka_40 L _) rfl (f_40_1 L _) at_103_100).trans ?_
  refine (S_getR (ka_50 L _) rfl (f_50_1 L _) at_103_103).trans ?_
  refine (S_iload_n rfl at_103_106).trans ?_
  refine (H_laload (ka_51 L _) at_103_107).trans ?_
  refine ite_congr rfl (fun hi => ?_) (fun _ => rfl)
  refine (S_iload_n rfl at_103_108).trans ?_
  refine (S_invs (by decide) (Nat.le_of_ble_eq_true rfl) (Nat.le_of_ble_eq_true rfl) at_103_109).trans ?_
  rfl
theorem T103_112 {C : Nat → List j_V → j_H → Option j_Z} {L : Nat} {m : j_M0} {x1 : Int} {x2 : Int} {x3 : Int} {x4 : Int} {x5 : Int} {t0 : Int} : j_fin C 103 112 [some (jR 2), some (jI x1), some (jI x2), some (jI x3), some (jI x4), some (jI x5)] [jL t0] (hH L m) = some (some (jL t0), hH L m) := by
  exact S_lret rfl at_103_112
theorem T104_0 {C : Nat → List j_V → j_H → Option j_Z} {L : Nat} {m : j_M0} {x1 : Int} : j_fin C 104 0 [some (jR 2), some (jI x1)] [] (hH L m) = (C 137 [jR 2, jI x1] (hH L m)).bind fun z => j_fin C 104 5 [some (jR 2), some (jI x1)] (z.1.toList ++ []) z.2 := by
  refine (S_aload_n rfl at_104_0).trans ?_
  refine (S_iload_n rfl at_104_1).trans ?_
  refine (S_invv (b := 1) kn_137 rfl (ka_2 L _) (Nat.le_of_ble_eq_true rfl) at_104_2).trans ?_
  rfl
theorem T104_5 {C : Nat → List j_V → j_H → Option j_Z} {L : Nat} {m : j_M0} {x1 : Int} {s0 : Int} : j_fin C 104 5 [some (jR 2), some (jI x1)] [jI s0] (hH L m) = if s0 = 0 then some (some (jI (-1)), hH L m) else (C 6 [jR 50, jI x1, jR 4] (hH L m)).bind fun z => j_fin C 104 28 [some (jR 2), some (jI x1)] (z.1.toList ++ []) z.2 := by
  refine (S_if_ne at_104_5).trans ?_
  refine ite_congr rfl (fun _ => ?_) (fun _ => ?_)
  · refine (S_iconst at_104_8).trans ?_
    exact S_ireti rfl at_104_9
  · refine (S_aload_n rfl at_104_10).trans ?_
    refine (S_getR (ka_2 L _) rfl (f_2_3 L _) at_104_11).trans ?_
    refine (S_getR (ka_40 L _) rfl (f_40_1 L _) at_104_14).trans ?_
    refine (S_iload_n rfl at_104_17).trans ?_
    refine (S_aload_n rfl at_104_18).trans ?_
    refine (S_getR (ka_2 L _) rfl (f_2_0 L _) at_104_19).trans ?_
    refine (S_getR (ka_3 L _) rfl (f_3_0 L _) at_104_22).trans ?_
    refine (S_invv (b := 2) kn_6 rfl (ka_50 L _) (Nat.le_of_ble_eq_true rfl) at_104_25).trans ?_
    rfl
theorem T104_28 {C : Nat → List j_V → j_H → Option j_Z} {L : Nat} {m : j_M0} {x1 : Int} {s0 : Int} : j_fin C 104 28 [some (jR 2), some (jI x1)] [jI s0] (hH L m) = if s0 = 0 then some (some (jI 0), hH L m) else some (some (jI 1), hH L m) := by
  refine (S_if_eq at_104_28).trans ?_
  refine ite_congr rfl (fun _ => ?_) (fun _ => ?_)
  · refine (S_iconst at_104_35).trans ?_
    exact S_ireti rfl at_104_36
  · refine (S_iconst at_104_31).trans ?_
    refine (S_goto at_104_32).trans ?_
    exact S_ireti rfl at_104_36
theorem T105_0 {C : Nat → List j_V → j_H → Option j_Z} {L : Nat} {m : j_M0} {x1 : Int} {x2 : Int} : j_fin C 105 0 [some (jR 2), some (jI x1), some (jI x2), none] [] (hH L m) = (C 136 [jR 2, jI x1] (hH L m)).bind fun z => j_fin C 105 5 [some (jR 2), some (jI x1), some (jI x2), none] (z.1.toList ++ []) z.2 := by
  refine (S_aload_n rfl at_105_0).trans ?_
  refine (S_iload_n rfl at_105_1).trans ?_
  refine (S_invv (b := 1) kn_136 rfl (ka_2 L _) (Nat.le_of_ble_eq_true rfl) at_105_2).trans ?_
  rfl
theorem T105_5 {C : Nat → List j_V → j_H → Option j_Z} {L : Nat} {m : j_M0} {x1 : Int} {x2 : Int} {s0 : Int} : j_fin C 105 5 [some (jR 2), some (jI x1), some (jI x2), none] [jI s0] (hH L m) = if s0 = 0 then some (some (jI (-1)), hH L m) else if x2 < 0 then some (some (jI (-2)), hH L m) else if 9 < x2 then some (some (jI (-2)), hH L m) else if 0 ≤ x1 ∧ x1 < 8 then if 0 ≤ x1 ∧ x1 < 8 then some (some (jI (m 13 x1.toNat)), hH L (j_up m 13 x1.toNat x2)) else none else none := by
  refine (S_if_ne at_105_5).trans ?_
  refine ite_congr rfl (fun _ => ?_) (fun _ => ?_)
  · refine (S_iconst at_105_8).trans ?_
    exact S_ireti rfl at_105_9
  · refine (S_iload_n rfl at_105_10).trans ?_
    refine (S_if_lt at_105_11).trans ?_
    refine ite_congr rfl (fun _ => ?_) (fun _ => ?_)
    · refine (S_bipush at_105_20).trans ?_
      exact S_ireti rfl at_105_22
    · refine (S_iload_n rfl at_105_14).trans ?_
      refine (S_bipush at_105_15).trans ?_
      refine (S_icmp_le at_105_17).trans ?_
      refine ite_congr rfl (fun _ => ?_) (fun _ => ?_)
      · refine (S_bipush at_105_20).trans ?_
        exact S_ireti rfl at_105_22
      · refine (S_aload_n rfl at_105_23).trans ?_
        refine (S_getR (ka_2 L _) rfl (f_2_0 L _) at_105_24).trans ?_
        refine (S_getR (ka_3 L _) rfl (f_3_2 L _) at_105_27).trans ?_
        refine (S_iload_n rfl at_105_30).trans ?_
        refine (H_iaload (ka_13 L _) at_105_31).trans ?_
        refine ite_congr rfl (fun hi => ?_) (fun _ => rfl)
        refine (S_istore_n (l1 := [some (jR 2), some (jI x1), some (jI x2), some (jI (m 13 x1.toNat))]) rfl at_105_32).trans ?_
        refine (S_aload_n rfl at_105_33).trans ?_
        refine (S_getR (ka_2 L _) rfl (f_2_0 L _) at_105_34).trans ?_
        refine (S_getR (ka_3 L _) rfl (f_3_2 L _) at_105_37).trans ?_
        refine (S_iload_n rfl at_105_40).trans ?_
        refine (S_iload_n rfl at_105_41).trans ?_
        refine (H_iastore (by omega) (ka_13 L _) at_105_42).trans ?_
        refine ite_congr rfl (fun hi => ?_) (fun _ => rfl)
        refine (S_iload_n rfl at_105_43).trans ?_
        exact S_ireti rfl at_105_44
theorem T106_0 {C : Nat → List j_V → j_H → Option j_Z} {L : Nat} {m : j_M0} {x1 : Int} : j_fin C 106 0 [some (jR 2), some (jI x1), none] [] (hH L m) = if x1 < 1 then some (some (jI (-2)), hH L m) else if 10 < x1 then some (some (jI (-2)), hH L m) else some (some (jI (m 3 3)), hH L (j_up m 3 3 x1)) := by
  refine (S_iload_n rfl at_106_0).trans ?_
  refine (S_iconst at_106_1).trans ?_
  refine (S_icmp_lt at_106_2).trans ?_
  refine ite_congr rfl (fun _ => ?_) (fun _ => ?_)
  · refine (S_bipush at_106_11).trans ?_
    exact S_ireti rfl at_106_13
  · refine (S_iload_n rfl at_106_5).trans ?_
    refine (S_bipush at_106_6).trans ?_
    refine (S_icmp_le at_106_8).trans ?_
    refine ite_congr rfl (fun _ => ?_) (fun _ => ?_)
    · refine (S_bipush at_106_11).trans ?_
      exact S_ireti rfl at_106_13
    · refine (S_aload_n rfl at_106_14).trans ?_
      refine (S_getR (ka_2 L _) rfl (f_2_0 L _) at_106_15).trans ?_
      refine (H_get0 (ka_3 L _) rfl at_106_18).trans ?_
      refine (S_istore_n (l1 := [some (jR 2), some (jI x1), some (jI (m 3 3))]) rfl at_106_21).trans ?_
      refine (S_aload_n rfl at_106_22).trans ?_
      refine (S_getR (ka_2 L _) rfl (f_2_0 L _) at_106_23).trans ?_
      refine (S_iload_n rfl at_106_26).trans ?_
      refine (H_put0 (ka_3 L _) rfl at_106_27).trans ?_
      refine (S_iload_n rfl at_106_30).trans ?_
      exact S_ireti rfl at_106_31
theorem T107_0 {C : Nat → List j_V → j_H → Option j_Z} {L : Nat} {m : j_M0} {x1 : Int} : j_fin C 107 0 [some (jR 2), some (jI x1)] [] (hH L m) = if x1 < 0 then some (some (jL (-9223372036854775808)), hH L m) else if (m 4 0) < x1 then some (some (jL (-9223372036854775808)), hH L m) else (C 36 [jR 3, jI x1] (hH L m)).bind fun z => j_fin C 107 30 [some (jR 2), some (jI x1)] (z.1.toList ++ []) z.2 := by
  refine (S_iload_n rfl at_107_0).trans ?_
  refine (S_if_lt at_107_1).trans ?_
  refine ite_congr rfl (fun _ => ?_) (fun _ => ?_)
  · refine (S_ldc2_w at_107_18).trans ?_
    exact S_lret rfl at_107_21
  · refine (S_iload_n rfl at_107_4).trans ?_
    refine (S_aload_n rfl at_107_5).trans ?_
    refine (S_getR (ka_2 L _) rfl (f_2_0 L _) at_107_6).trans ?_
    refine (S_getR (ka_3 L _) rfl (f_3_0 L _) at_107_9).trans ?_
    refine (H_get0 (ka_4 L _) rfl at_107_12).trans ?_
    refine (S_icmp_le at_107_15).trans ?_
    refine ite_congr rfl (fun _ => ?_) (fun _ => ?_)
    · refine (S_ldc2_w at_107_18).trans ?_
      exact S_lret rfl at_107_21
    · refine (S_aload_n rfl at_107_22).trans ?_
      refine (S_getR (ka_2 L _) rfl (f_2_0 L _) at_107_23).trans ?_
      refine (S_iload_n rfl at_107_26).trans ?_
      refine (S_invv (b := 1) kn_36 rfl (ka_3 L _) (Nat.le_of_ble_eq_true rfl) at_107_27).trans ?_
      rfl
theorem T107_30 {C : Nat → List j_V → j_H → Option j_Z} {L : Nat} {m : j_M0} {x1 : Int} {t0 : Int} : j_fin C 107 30 [some (jR 2), some (jI x1)] [jL t0] (hH L m) = some (some (jL t0), hH L m) := by
  exact S_lret rfl at_107_30
theorem T108_0 {C : Nat → List j_V → j_H → Option j_Z} {L : Nat} {m : j_M0} : j_fin C 108 0 [some (jR 2), none, none, none, none] [] (hH L m) = if (m 2 11) = 0 then some (some (jI (-3)), hH L m) else j_fin C 108 26 [some (jR 2), some (jI (m 4 0)), some (jL 0), none, some (jI 0)] [] (hH L m) := by
  refine (S_aload_n rfl at_108_0).trans ?_
  refine (H_get2 (ka_2 L _) rfl at_108_1).trans ?_
  refine (S_if_ne at_108_4).trans ?_
  refine ite_congr rfl (fun _ => ?_) (fun _ => ?_)
  · refine (S_bipush at_108_7).trans ?_
    exact S_ireti rfl at_108_9
  · refine (S_aload_n rfl at_108_10).trans ?_
    refine (S_getR (ka_2 L _) rfl (f_2_0 L _) at_108_11).trans ?_
    refine (S_getR (ka_3 L _) rfl (f_3_0 L _) at_108_14).trans ?_
    refine (H_get0 (ka_4 L _) rfl at_108_17).trans ?_
    refine (S_istore_n (l1 := [some (jR 2), some (jI (m 4 0)), none, none, none]) rfl at_108_20).trans ?_
    refine (S_lconst at_108_21).trans ?_
    refine (S_lstore_n (l1 := [some (jR 2), some (jI (m 4 0)), some (jL 0), none, none]) rfl at_108_22).trans ?_
    refine (S_iconst at_108_23).trans ?_
    refine (S_istore (l1 := [some (jR 2), some (jI (m 4 0)), some (jL 0), none, some (jI 0)]) rfl at_108_24).trans ?_
    rfl
theorem T108_26 {C : Nat → List j_V → j_H → Option j_Z} {L : Nat} {m : j_M0} {x1 : Int} {y2 : Int} {x4 : Int} : j_fin C 108 26 [some (jR 2), some (jI x1), some (jL y2), none, some (jI x4)] [] (hH L m) = if x4 < x1 then (C 36 [jR 3, jI x4] (hH L m)).bind fun z => j_fin C 108 42 [some (jR 2), some (jI x1), some (jL y2), none, some (jI x4)] (z.1.toList ++ [jL y2]) z.2 else (C 36 [jR 3, jI x1] (hH L m)).bind fun z => j_fin C 108 72 [some (jR 2), some (jI x1), some (jL y2), none, some (jI x4)] (z.1.toList ++ [jL y2]) z.2 := by
  refine (S_iload rfl at_108_26).trans ?_
  refine (S_iload_n rfl at_108_28).trans ?_
  refine (S_icmp_ge at_108_29).trans ?_
  refine ite_congr rfl (fun _ => ?_) (fun _ => ?_)
  · refine (S_lload_n rfl at_108_32).trans ?_
    refine (S_aload_n rfl at_108_33).trans ?_
    refine (S_getR (ka_2 L _) rfl (f_2_0 L _) at_108_34).trans ?_
    refine (S_iload rfl at_108_37).trans ?_
    refine (S_invv (b := 1) kn_36 rfl (ka_3 L _) (Nat.le_of_ble_eq_true rfl) at_108_39).trans ?_
    rfl
  · refine (S_lload_n rfl at_108_63).trans ?_
    refine (S_aload_n rfl at_108_64).trans ?_
    refine (S_getR (ka_2 L _) rfl (f_2_0 L _) at_108_65).trans ?_
    refine (S_iload_n rfl at_108_68).trans ?_
    refine (S_invv (b := 1) kn_36 rfl (ka_3 L _) (Nat.le_of_ble_eq_true rfl) at_108_69).trans ?_
    rfl
theorem T108_42 {C : Nat → List j_V → j_H → Option j_Z} {L : Nat} {m : j_M0} {x1 : Int} {y2 : Int} {x4 : Int} {t0 : Int} {t1 : Int} : j_fin C 108 42 [some (jR 2), some (jI x1), some (jL y2), none, some (jI x4)] [jL t1, jL t0] (hH L m) = (C 53 [jR 41, jI x4] (hH L m)).bind fun z => j_fin C 108 54 [some (jR 2), some (jI x1), some (jL y2), none, some (jI x4)] (z.1.toList ++ [jL t1, jL t0]) z.2 := by
  refine (S_aload_n rfl at_108_42).trans ?_
  refine (S_getR (ka_2 L _) rfl (f_2_3 L _) at_108_43).trans ?_
  refine (S_getR (ka_40 L _) rfl (f_40_0 L _) at_108_46).trans ?_
  refine (S_iload rfl at_108_49).trans ?_
  refine (S_invv (b := 1) kn_53 rfl (ka_41 L _) (Nat.le_of_ble_eq_true rfl) at_108_51).trans ?_
  rfl
theorem T108_54 {C : Nat → List j_V → j_H → Option j_Z} {L : Nat} {m : j_M0} {x1 : Int} {y2 : Int} {x4 : Int} {t0 : Int} {t1 : Int} {t2 : Int} : j_fin C 108 54 [some (jR 2), some (jI x1), some (jL y2), none, some (jI x4)] [jL t2, jL t1, jL t0] (hH L m) = j_fin C 108 26 [some (jR 2), some (jI x1), some (jL (w64 (t0 + (w64 (t1 * t2))))), none, some (jI (w32 (x4 + 1)))] [] (hH L m) := by
  refine (S_lmul at_108_54).trans ?_
  refine (S_ladd at_108_55).trans ?_
  refine (S_lstore_n (l1 := [some (jR 2), some (jI x1), some (jL (w64 (t0 + (w64 (t1 * t2))))), none, some (jI x4)]) rfl at_108_56).trans ?_
  refine (S_iinc (l1 := [some (jR 2), some (jI x1), some (jL (w64 (t0 + (w64 (t1 * t2))))), none, some (jI (w32 (x4 + 1)))]) rfl rfl at_108_57).trans ?_
  refine (S_goto at_108_60).trans ?_
  rfl
theorem T108_72 {C : Nat → List j_V → j_H → Option j_Z} {L : Nat} {m : j_M0} {x1 : Int} {y2 : Int} {x4 : Int} {t0 : Int} {t1 : Int} : j_fin C 108 72 [some (jR 2), some (jI x1), some (jL y2), none, some (jI x4)] [jL t1, jL t0] (hH L m) = if 0 < (j_cmp t0 (w64 (t1 * (m 41 4)))) then some (some (jI 1), hH L m) else some (some (jI 0), hH L m) := by
  refine (S_aload_n rfl at_108_72).trans ?_
  refine (S_getR (ka_2 L _) rfl (f_2_3 L _) at_108_73).trans ?_
  refine (S_getR (ka_40 L _) rfl (f_40_0 L _) at_108_76).trans ?_
  refine (H_get1 (ka_41 L _) rfl at_108_79).trans ?_
  refine (S_lmul at_108_82).trans ?_
  refine (S_lcmp at_108_83).trans ?_
  refine (S_if_le at_108_84).trans ?_
  refine ite_congr rfl (fun _ => ?_) (fun _ => ?_)
  · refine (S_iconst at_108_87).trans ?_
    refine (S_goto at_108_88).trans ?_
    exact S_ireti rfl at_108_92
  · refine (S_iconst at_108_91).trans ?_
    exact S_ireti rfl at_108_92
theorem T109_0 {C : Nat → List j_V → j_H → Option j_Z} {L : Nat} {m : j_M0} {x1 : Int} : j_fin C 109 0 [some (jR 2), some (jI x1), none] [] (hH L m) = if x1 < 0 then some (some (jI (-2)), hH L m) else if 6 < x1 then some (some (jI (-2)), hH L m) else some (some (jI (m 3 4)), hH L (j_up m 3 4 x1)) := by
  refine (S_iload_n rfl at_109_0).trans ?_
  refine (S_if_lt at_109_1).trans ?_
  refine ite_congr rfl (fun _ => ?_) (fun _ => ?_)
  · refine (S_bipush at_109_10).trans ?_
    exact S_ireti rfl at_109_12
  · refine (S_iload_n rfl at_109_4).trans ?_
    refine (S_bipush at_109_5).trans ?_
    refine (S_icmp_le at_109_7).trans ?_
    refine ite_congr rfl (fun _ => ?_) (fun _ => ?_)
    · refine (S_bipush at_109_10).trans ?_
      exact S_ireti rfl at_109_12
    · refine (S_aload_n rfl at_109_13).trans ?_
      refine (S_getR (ka_2 L _) rfl (f_2_0 L _) at_109_14).trans ?_
      refine (H_get0 (ka_3 L _) rfl at_109_17).trans ?_
      refine (S_istore_n (l1 := [some (jR 2), some (jI x1), some (jI (m 3 4))]) rfl at_109_20).trans ?_
      refine (S_aload_n rfl at_109_21).trans ?_
      refine (S_getR (ka_2 L _) rfl (f_2_0 L _) at_109_22).trans ?_
      refine (S_iload_n rfl at_109_25).trans ?_
      refine (H_put0 (ka_3 L _) rfl at_109_26).trans ?_
      refine (S_iload_n rfl at_109_29).trans ?_
      exact S_ireti rfl at_109_30
theorem T110_0 {C : Nat → List j_V → j_H → Option j_Z} {L : Nat} {m : j_M0} {x1 : Int} : j_fin C 110 0 [some (jR 2), some (jI x1), none] [] (hH L m) = if x1 < 0 then some (some (jI (-2)), hH L m) else if x1 < 20 then (C 22 [jR 89] (hH L m)).bind fun z => j_fin C 110 20 [some (jR 2), some (jI x1), none] (z.1.toList ++ []) z.2 else some (some (jI (-2)), hH L m) := by
  refine (S_iload_n rfl at_110_0).trans ?_
  refine (S_if_lt at_110_1).trans ?_
  refine ite_congr rfl (fun _ => ?_) (fun _ => ?_)
  · refine (S_bipush at_110_10).trans ?_
    exact S_ireti rfl at_110_12
  · refine (S_iload_n rfl at_110_4).trans ?_
    refine (S_bipush at_110_5).trans ?_
    refine (S_icmp_lt at_110_7).trans ?_
    refine ite_congr rfl (fun _ => ?_) (fun _ => ?_)
    · refine (S_aload_n rfl at_110_13).trans ?_
      refine (S_getR (ka_2 L _) rfl (f_2_7 L _) at_110_14).trans ?_
      refine (S_invv (b := 0) kn_22 rfl (ka_89 L _) (Nat.le_of_ble_eq_true rfl) at_110_17).trans ?_
      rfl
    · refine (S_bipush at_110_10).trans ?_
      exact S_ireti rfl at_110_12
theorem T110_20 {C : Nat → List j_V → j_H → Option j_Z} {L : Nat} {m : j_M0} {x1 : Int} : j_fin C 110 20 [some (jR 2), some (jI x1), none] [] (hH L m) = (C 81 [jR 86, jR 4, jI (m 3 4)] (hH L m)).bind fun z => j_fin C 110 41 [some (jR 2), some (jI x1), none] (z.1.toList ++ []) z.2 := by
  refine (S_aload_n rfl at_110_20).trans ?_
  refine (S_getR (ka_2 L _) rfl (f_2_6 L _) at_110_21).trans ?_
  refine (S_aload_n rfl at_110_24).trans ?_
  refine (S_getR (ka_2 L _) rfl (f_2_0 L _) at_110_25).trans ?_
  refine (S_getR (ka_3 L _) rfl (f_3_0 L _) at_110_28).trans ?_
  refine (S_aload_n rfl at_110_31).trans ?_
  refine (S_getR (ka_2 L _) rfl (f_2_0 L _) at_110_32).trans ?_
  refine (H_get0 (ka_3 L _) rfl at_110_35).trans ?_
  refine (S_invv (b := 2) kn_81 rfl (ka_86 L _) (Nat.le_of_ble_eq_true rfl) at_110_38).trans ?_
  rfl
theorem T110_41 {C : Nat → List j_V → j_H → Option j_Z} {L : Nat} {m : j_M0} {x1 : Int} : j_fin C 110 41 [some (jR 2), some (jI x1), none] [] (hH L m) = j_fin C 110 49 [some (jR 2), some (jI x1), some (jI (m 86 0))] [] (hH L m) := by
  refine (S_aload_n rfl at_110_41).trans ?_
  refine (S_getR (ka_2 L _) rfl (f_2_6 L _) at_110_42).trans ?_
  refine (H_get0 (ka_86 L _) rfl at_110_45).trans ?_
  refine (S_istore_n (l1 := [some (jR 2), some (jI x1), some (jI (m 86 0))]) rfl at_110_48).trans ?_
  rfl
theorem T110_49 {C : Nat → List j_V → j_H → Option j_Z} {L : Nat} {m : j_M0} {x1 : Int} {x2 : Int} : j_fin C 110 49 [some (jR 2), some (jI x1), some (jI x2)] [] (hH L m) = if 0 < x2 then (C 84 [jR 86] (hH L m)).bind fun z => j_fin C 110 60 [some (jR 2), some (jI x1), some (jI x2)] (z.1.toList ++ []) z.2 else if x1 < (m 89 0) then if 0 ≤ x1 ∧ x1 < 20 then some (some (jI (m 90 x1.toNat)), hH L m) else none else some (some (jI (-5)), hH L m) := by
  refine (S_iload_n rfl at_110_49).trans ?_
  refine (S_if_le at_110_50).trans ?_
  refine ite_congr rfl (fun _ => ?_) (fun _ => ?_)
  · refine (S_aload_n rfl at_110_53).trans ?_
    refine (S_getR (ka_2 L _) rfl (f_2_6 L _) at_110_54).trans ?_
    refine (S_invv (b := 0) kn_84 rfl (ka_86 L _) (Nat.le_of_ble_eq_true rfl) at_110_57).trans ?_
    rfl
  · refine (S_iload_n rfl at_110_97).trans ?_
    refine (S_aload_n rfl at_110_98).trans ?_
    refine (S_getR (ka_2 L _) rfl (f_2_7 L _) at_110_99).trans ?_
    refine (H_get0 (ka_89 L _) rfl at_110_102).trans ?_
    refine (S_icmp_ge at_110_105).trans ?_
    refine ite_congr rfl (fun _ => ?_) (fun _ => ?_)
    · refine (S_aload_n rfl at_110_108).trans ?_
      refine (S_getR (ka_2 L _) rfl (f_2_7 L _) at_110_109).trans ?_
      refine (S_getR (ka_89 L _) rfl (f_89_1 L _) at_110_112).trans ?_
      refine (S_iload_n rfl at_110_115).trans ?_
      refine (H_iaload (ka_90 L _) at_110_116).trans ?_
      refine ite_congr rfl (fun hi => ?_) (fun _ => rfl)
      refine (S_goto at_110_117).trans ?_
      exact S_ireti rfl at_110_122
    · refine (S_bipush at_110_120).trans ?_
      exact S_ireti rfl at_110_122
theorem T110_60 {C : Nat → List j_V → j_H → Option j_Z} {L : Nat} {m : j_M0} {x1 : Int} {x2 : Int} {s0 : Int} : j_fin C 110 60 [some (jR 2), some (jI x1), some (jI x2)] [jI s0] (hH L m) = if s0 = 0 then j_fin C 110 84 [some (jR 2), some (jI x1), some (jI x2)] [] (hH L m) else (C 26 [jR 89, jI (m 86 1), jI (m 86 2)] (hH L m)).bind fun z => j_fin C 110 84 [some (jR 2), some (jI x1), some (jI x2)] (z.1.toList ++ []) z.2 := by
  refine (S_if_eq at_110_60).trans ?_
  refine ite_congr rfl (fun _ => ?_) (fun _ => ?_)
  · rfl
  · refine (S_aload_n rfl at_110_63).trans ?_
    refine (S_getR (ka_2 L _) rfl (f_2_7 L _) at_110_64).trans ?_
    refine (S_aload_n rfl at_110_67).trans ?_
    refine (S_getR (ka_2 L _) rfl (f_2_6 L _) at_110_68).trans ?_
    refine (H_get0 (ka_86 L _) rfl at_110_71).trans ?_
    refine (S_aload_n rfl at_110_74).trans ?_
    refine (S_getR (ka_2 L _) rfl (f_2_6 L _) at_110_75).trans ?_
    refine (H_get0 (ka_86 L _) rfl at_110_78).trans ?_
    refine (S_invv (b := 2) kn_26 rfl (ka_89 L _) (Nat.le_of_ble_eq_true rfl) at_110_81).trans ?_
    rfl
theorem T110_84 {C : Nat → List j_V → j_H → Option j_Z} {L : Nat} {m : j_M0} {x1 : Int} {x2 : Int} : j_fin C 110 84 [some (jR 2), some (jI x1), some (jI x2)] [] (hH L m) = (C 82 [jR 86] (hH L m)).bind fun z => j_fin C 110 91 [some (jR 2), some (jI x1), some (jI x2)] (z.1.toList ++ []) z.2 := by
  refine (S_aload_n rfl at_110_84).trans ?_
  refine (S_getR (ka_2 L _) rfl (f_2_6 L _) at_110_85).trans ?_
  refine (S_invv (b := 0) kn_82 rfl (ka_86 L _) (Nat.le_of_ble_eq_true rfl) at_110_88).trans ?_
  rfl
theorem T110_91 {C : Nat → List j_V → j_H → Option j_Z} {L : Nat} {m : j_M0} {x1 : Int} {x2 : Int} : j_fin C 110 91 [some (jR 2), some (jI x1), some (jI x2)] [] (hH L m) = j_fin C 110 49 [some (jR 2), some (jI x1), some (jI (w32 (x2 + (-1))))] [] (hH L m) := by
  refine (S_iinc (l1 := [some (jR 2), some (jI x1), some (jI (w32 (x2 + (-1))))]) rfl rfl at_110_91).trans ?_
  refine (S_goto at_110_94).trans ?_
  rfl
theorem T111_0 {C : Nat → List j_V → j_H → Option j_Z} {L : Nat} {m : j_M0} {x1 : Int} : j_fin C 111 0 [some (jR 2), some (jI x1), none, none] [] (hH L m) = if x1 < 0 then some (some (jI (-1)), hH L m) else if 1 < x1 then some (some (jI (-1)), hH L m) else (C 81 [jR 86, jR 4, jI (m 3 4)] (hH L m)).bind fun z => j_fin C 111 34 [some (jR 2), some (jI x1), some (jI 0), none] (z.1.toList ++ []) z.2 := by
  refine (S_iload_n rfl at_111_0).trans ?_
  refine (S_if_lt at_111_1).trans ?_
  refine ite_congr rfl (fun _ => ?_) (fun _ => ?_)
  · refine (S_iconst at_111_9).trans ?_
    exact S_ireti rfl at_111_10
  · refine (S_iload_n rfl at_111_4).trans ?_
    refine (S_iconst at_111_5).trans ?_
    refine (S_icmp_le at_111_6).trans ?_
    refine ite_congr rfl (fun _ => ?_) (fun _ => ?_)
    · refine (S_iconst at_111_9).trans ?_
      exact S_ireti rfl at_111_10
    · refine (S_iconst at_111_11).trans ?_
      refine (S_istore_n (l1 := [some (jR 2), some (jI x1), some (jI 0), none]) rfl at_111_12).trans ?_
      refine (S_aload_n rfl at_111_13).trans ?_
      refine (S_getR (ka_2 L _) rfl (f_2_6 L _) at_111_14).trans ?_
      refine (S_aload_n rfl at_111_17).trans ?_
      refine (S_getR (ka_2 L _) rfl (f_2_0 L _) at_111_18).trans ?_
      refine (S_getR (ka_3 L _) rfl (f_3_0 L _) at_111_21).trans ?_
      refine (S_aload_n rfl at_111_24).trans ?_
      refine (S_getR (ka_2 L _) rfl (f_2_0 L _) at_111_25).trans ?_
      refine (H_get0 (ka_3 L _) rfl at_111_28).trans ?_
      refine (S_invv (b := 2) kn_81 rfl (ka_86 L _) (Nat.le_of_ble_eq_true rfl) at_111_31).trans ?_
      rfl
theorem T111_34 {C : Nat → List j_V → j_H → Option j_Z} {L : Nat} {m : j_M0} {x1 : Int} {x2 : Int} : j_fin C 111 34 [some (jR 2), some (jI x1), some (jI x2), none] [] (hH L m) = j_fin C 111 42 [some (jR 2), some (jI x1), some (jI x2), some (jI (m 86 0))] [] (hH L m) := by
  refine (S_aload_n rfl at_111_34).trans ?_
  refine (S_getR (ka_2 L _) rfl (f_2_6 L _) at_111_35).trans ?_
  refine (H_get0 (ka_86 L _) rfl at_111_38).trans ?_
  refine (S_istore_n (l1 := [some (jR 2), some (jI x1), some (jI x2), some (jI (m 86 0))]) rfl at_111_41).trans ?_
  rfl
theorem T111_42 {C : Nat → List j_V → j_H → Option j_Z} {L : Nat} {m : j_M0} {x1 : Int} {x2 : Int} {x3 : Int} : j_fin C 111 42 [some (jR 2), some (jI x1), some (jI x2), some (jI x3)] [] (hH L m) = if 0 < x3 then (C 85 [jR 86] (hH L m)).bind fun z => j_fin C 111 53 [some (jR 2), some (jI x1), some (jI x2), some (jI x3)] (z.1.toList ++ []) z.2 else some (some (jI x2), hH L m) := by
  refine (S_iload_n rfl at_111_42).trans ?_
  refine (S_if_le at_111_43).trans ?_
  refine ite_congr rfl (fun _ => ?_) (fun _ => ?_)
  · refine (S_aload_n rfl at_111_46).trans ?_
    refine (S_getR (ka_2 L _) rfl (f_2_6 L _) at_111_47).trans ?_
    refine (S_invv (b := 0) kn_85 rfl (ka_86 L _) (Nat.le_of_ble_eq_true rfl) at_111_50).trans ?_
    rfl
  · refine (S_iload_n rfl at_111_73).trans ?_
    exact S_ireti rfl at_111_74
theorem T111_53 {C : Nat → List j_V → j_H → Option j_Z} {L : Nat} {m : j_M0} {x1 : Int} {x2 : Int} {x3 : Int} {s0 : Int} : j_fin C 111 53 [some (jR 2), some (jI x1), some (jI x2), some (jI x3)] [jI s0] (hH L m) = if s0 = x1 then (C 82 [jR 86] (hH L m)).bind fun z => j_fin C 111 67 [some (jR 2), some (jI x1), some (jI (w32 (x2 + 1))), some (jI x3)] (z.1.toList ++ []) z.2 else (C 82 [jR 86] (hH L m)).bind fun z => j_fin C 111 67 [some (jR 2), some (jI x1), some (jI x2), some (jI x3)] (z.1.toList ++ []) z.2 := by
  refine (S_iload_n rfl at_111_53).trans ?_
  refine (S_icmp_ne at_111_54).trans ?_
  refine ite_congr rfl (fun _ => ?_) (fun _ => ?_)
  · refine (S_iinc (l1 := [some (jR 2), some (jI x1), some (jI (w32 (x2 + 1))), some (jI x3)]) rfl rfl at_111_57).trans ?_
    refine (S_aload_n rfl at_111_60).trans ?_
    refine (S_getR (ka_2 L _) rfl (f_2_6 L _) at_111_61).trans ?_
    refine (S_invv (b := 0) kn_82 rfl (ka_86 L _) (Nat.le_of_ble_eq_true rfl) at_111_64).trans ?_
    rfl
  · refine (S_aload_n rfl at_111_60).trans ?_
    refine (S_getR (ka_2 L _) rfl (f_2_6 L _) at_111_61).trans ?_
    refine (S_invv (b := 0) kn_82 rfl (ka_86 L _) (Nat.le_of_ble_eq_true rfl) at_111_64).trans ?_
    rfl
theorem T111_67 {C : Nat → List j_V → j_H → Option j_Z} {L : Nat} {m : j_M0} {x1 : Int} {x2 : Int} {x3 : Int} : j_fin C 111 67 [some (jR 2), some (jI x1), some (jI x2), some (jI x3)] [] (hH L m) = j_fin C 111 42 [some (jR 2), some (jI x1), some (jI x2), some (jI (w32 (x3 + (-1))))] [] (hH L m) := by
  refine (S_iinc (l1 := [some (jR 2), some (jI x1), some (jI x2), some (jI (w32 (x3 + (-1))))]) rfl rfl at_111_67).trans ?_
  refine (S_goto at_111_70).trans ?_
  rfl
theorem T112_0 {C : Nat → List j_V → j_H → Option j_Z} {L : Nat} {m : j_M0} {x1 : Int} : j_fin C 112 0 [some (jR 2), some (jI x1)] [] (hH L m) = (C 138 [jR 2, jI x1] (hH L m)).bind fun z => j_fin C 112 5 [some (jR 2), some (jI x1)] (z.1.toList ++ []) z.2 := by
  refine (S_aload_n rfl at_112_0).trans ?_
  refine (S_iload_n rfl at_112_1).trans ?_
  refine (S_invv (b := 1) kn_138 rfl (ka_2 L _) (Nat.le_of_ble_eq_true rfl) at_112_2).trans ?_
  rfl
theorem T112_5 {C : Nat → List j_V → j_H → Option j_Z} {L : Nat} {m : j_M0} {x1 : Int} {s0 : Int} : j_fin C 112 5 [some (jR 2), some (jI x1)] [jI s0] (hH L m) = if s0 = 0 then some (some (jI (-2)), hH L m) else (C 15 [jR 4, jI x1] (hH L m)).bind fun z => j_fin C 112 22 [some (jR 2), some (jI x1)] (z.1.toList ++ []) z.2 := by
  refine (S_if_ne at_112_5).trans ?_
  refine ite_congr rfl (fun _ => ?_) (fun _ => ?_)
  · refine (S_bipush at_112_8).trans ?_
    exact S_ireti rfl at_112_10
  · refine (S_aload_n rfl at_112_11).trans ?_
    refine (S_getR (ka_2 L _) rfl (f_2_0 L _) at_112_12).trans ?_
    refine (S_getR (ka_3 L _) rfl (f_3_0 L _) at_112_15).trans ?_
    refine (S_iload_n rfl at_112_18).trans ?_
    refine (S_invv (b := 1) kn_15 rfl (ka_4 L _) (Nat.le_of_ble_eq_true rfl) at_112_19).trans ?_
    rfl
theorem T112_22 {C : Nat → List j_V → j_H → Option j_Z} {L : Nat} {m : j_M0} {x1 : Int} {s0 : Int} : j_fin C 112 22 [some (jR 2), some (jI x1)] [jI s0] (hH L m) = some (some (jI s0), hH L m) := by
  exact S_ireti rfl at_112_22
theorem T113_0 {C : Nat → List j_V → j_H → Option j_Z} {L : Nat} {m : j_M0} {x1 : Int} : j_fin C 113 0 [some (jR 2), some (jI x1), none] [] (hH L m) = if x1 = (-1) then j_fin C 113 17 [some (jR 2), some (jI x1), some (jI 0)] [] (hH L m) else (C 137 [jR 2, jI x1] (hH L m)).bind fun z => j_fin C 113 10 [some (jR 2), some (jI x1), none] (z.1.toList ++ []) z.2 := by
  refine (S_iload_n rfl at_113_0).trans ?_
  refine (S_iconst at_113_1).trans ?_
  refine (S_icmp_eq at_113_2).trans ?_
  refine ite_congr rfl (fun _ => ?_) (fun _ => ?_)
  · refine (S_iconst at_113_15).trans ?_
    refine (S_istore_n (l1 := [some (jR 2), some (jI x1), some (jI 0)]) rfl at_113_16).trans ?_
    rfl
  · refine (S_aload_n rfl at_113_5).trans ?_
    refine (S_iload_n rfl at_113_6).trans ?_
    refine (S_invv (b := 1) kn_137 rfl (ka_2 L _) (Nat.le_of_ble_eq_true rfl) at_113_7).trans ?_
    rfl
theorem T113_10 {C : Nat → List j_V → j_H → Option j_Z} {L : Nat} {m : j_M0} {x1 : Int} {s0 : Int} : j_fin C 113 10 [some (jR 2), some (jI x1), none] [jI s0] (hH L m) = if s0 = 0 then some (some (jI (-1)), hH L m) else j_fin C 113 17 [some (jR 2), some (jI x1), some (jI 0)] [] (hH L m) := by
  refine (S_if_ne at_113_10).trans ?_
  refine ite_congr rfl (fun _ => ?_) (fun _ => ?_)
  · refine (S_iconst at_113_13).trans ?_
    exact S_ireti rfl at_113_14
  · refine (S_iconst at_113_15).trans ?_
    refine (S_istore_n (l1 := [some (jR 2), some (jI x1), some (jI 0)]) rfl at_113_16).trans ?_
    rfl
theorem T113_17 {C : Nat → List j_V → j_H → Option j_Z} {L : Nat} {m : j_M0} {x1 : Int} {x2 : Int} : j_fin C 113 17 [some (jR 2), some (jI x1), some (jI x2)] [] (hH L m) = if (m 4 0) < x2 then (C 81 [jR 86, jR 4, jI (m 3 4)] (hH L m)).bind fun z => j_fin C 113 92 [some (jR 2), some (jI x1), some (jI x2)] (z.1.toList ++ []) z.2 else if x1 = (-1) then (C 36 [jR 3, jI x2] (hH L m)).bind fun z => j_fin C 113 49 [some (jR 2), some (jI x1), some (jI x2)] (z.1.toList ++ [jI x2, jR 108]) z.2 else (C 2 [jR 50, jI x1, jI x2] (hH L m)).bind fun z => j_fin C 113 64 [some (jR 2), some (jI x1), some (jI x2)] (z.1.toList ++ [jI x2, jR 108]) z.2 := by
  refine (S_iload_n rfl at_113_17).trans ?_
  refine (S_aload_n rfl at_113_18).trans ?_
  refine (S_getR (ka_2 L _) rfl (f_2_0 L _) at_113_19).trans ?_
  refine (S_getR (ka_3 L _) rfl (f_3_0 L _) at_113_22).trans ?_
  refine (H_get0 (ka_4 L _) rfl at_113_25).trans ?_
  refine (S_icmp_gt at_113_28).trans ?_
  refine ite_congr rfl (fun _ => ?_) (fun _ => ?_)
  · refine (S_aload_n rfl at_113_71).trans ?_
    refine (S_getR (ka_2 L _) rfl (f_2_6 L _) at_113_72).trans ?_
    refine (S_aload_n rfl at_113_75).trans ?_
    refine (S_getR (ka_2 L _) rfl (f_2_0 L _) at_113_76).trans ?_
    refine (S_getR (ka_3 L _) rfl (f_3_0 L _) at_113_79).trans ?_
    refine (S_aload_n rfl at_113_82).trans ?_
    refine (S_getR (ka_2 L _) rfl (f_2_0 L _) at_113_83).trans ?_
    refine (H_get0 (ka_3 L _) rfl at_113_86).trans ?_
    refine (S_invv (b := 2) kn_81 rfl (ka_86 L _) (Nat.le_of_ble_eq_true rfl) at_113_89).trans ?_
    rfl
  · refine (S_aload_n rfl at_113_31).trans ?_
    refine (S_getR (ka_2 L _) rfl (f_2_10 L _) at_113_32).trans ?_
    refine (S_iload_n rfl at_113_35).trans ?_
    refine (S_iload_n rfl at_113_36).trans ?_
    refine (S_iconst at_113_37).trans ?_
    refine (S_icmp_ne at_113_38).trans ?_
    refine ite_congr rfl (fun _ => ?_) (fun _ => ?_)
    · refine (S_aload_n rfl at_113_41).trans ?_
      refine (S_getR (ka_2 L _) rfl (f_2_0 L _) at_113_42).trans ?_
      refine (S_iload_n rfl at_113_45).trans ?_
      refine (S_invv (b := 1) kn_36 rfl (ka_3 L _) (Nat.le_of_ble_eq_true rfl) at_113_46).trans ?_
      rfl
    · refine (S_aload_n rfl at_113_52).trans ?_
      refine (S_getR (ka_2 L _) rfl (f_2_3 L _) at_113_53).trans ?_
      refine (S_getR (ka_40 L _) rfl (f_40_1 L _) at_113_56).trans ?_
      refine (S_iload_n rfl at_113_59).trans ?_
      refine (S_iload_n rfl at_113_60).trans ?_
      refine (S_invv (b := 2) kn_2 rfl (ka_50 L _) (Nat.le_of_ble_eq_true rfl) at_113_61).trans ?_
      rfl
theorem T113_49 {C : Nat → List j_V → j_H → Option j_Z} {L : Nat} {m : j_M0} {x1 : Int} {x2 : Int} {s1 : Int} {t2 : Int} : j_fin C 113 49 [some (jR 2), some (jI x1), some (jI x2)] [jL t2, jI s1, jR 108] (hH L m) = j_fin C 113 64 [some (jR 2), some (jI x1), some (jI x2)] [jL t2, jI s1, jR 108] (hH L m) := by
  refine (S_goto at_113_49).trans ?_
  rfl
theorem T113_64 {C : Nat → List j_V → j_H → Option j_Z} {L : Nat} {m : j_M0} {x1 : Int} {x2 : Int} {s1 : Int} {t2 : Int} : j_fin C 113 64 [some (jR 2), some (jI x1), some (jI x2)] [jL t2, jI s1, jR 108] (hH L m) = if 0 ≤ s1 ∧ s1 < 6 then j_fin C 113 17 [some (jR 2), some (jI x1), some (jI (w32 (x2 + 1)))] [] (hH L (j_up m 108 s1.toNat t2)) else none := by
  refine (H_lastore (by omega) (ka_108 L _) at_113_64).trans ?_
  refine ite_congr rfl (fun hi => ?_) (fun _ => rfl)
  refine (S_iinc (l1 := [some (jR 2), some (jI x1), some (jI (w32 (x2 + 1)))]) rfl rfl at_113_65).trans ?_
  refine (S_goto at_113_68).trans ?_
  rfl
theorem T113_92 {C : Nat → List j_V → j_H → Option j_Z} {L : Nat} {m : j_M0} {x1 : Int} {x2 : Int} : j_fin C 113 92 [some (jR 2), some (jI x1), some (jI x2)] [] (hH L m) = j_fin C 113 100 [some (jR 2), some (jI x1), some (jI (m 86 0))] [] (hH L m) := by
  refine (S_aload_n rfl at_113_92).trans ?_
  refine (S_getR (ka_2 L _) rfl (f_2_6 L _) at_113_93).trans ?_
  refine (H_get0 (ka_86 L _) rfl at_113_96).trans ?_
  refine (S_istore_n (l1 := [some (jR 2), some (jI x1), some (jI (m 86 0))]) rfl at_113_99).trans ?_
  rfl
theorem T113_100 {C : Nat → List j_V → j_H → Option j_Z} {L : Nat} {m : j_M0} {x1 : Int} {x2 : Int} : j_fin C 113 100 [some (jR 2), some (jI x1), some (jI x2)] [] (hH L m) = if 0 < x2 then (C 84 [jR 86] (hH L m)).bind fun z => j_fin C 113 111 [some (jR 2), some (jI x1), some (jI x2)] (z.1.toList ++ []) z.2 else some (some (jI (-5)), hH L m) := by
  refine (S_iload_n rfl at_113_100).trans ?_
  refine (S_if_le at_113_101).trans ?_
  refine ite_congr rfl (fun _ => ?_) (fun _ => ?_)
  · refine (S_aload_n rfl at_113_104).trans ?_
    refine (S_getR (ka_2 L _) rfl (f_2_6 L _) at_113_105).trans ?_
    refine (S_invv (b := 0) kn_84 rfl (ka_86 L _) (Nat.le_of_ble_eq_true rfl) at_113_108).trans ?_
    rfl
  · refine (S_bipush at_113_149).trans ?_
    exact S_ireti rfl at_113_151
theorem T113_111 {C : Nat → List j_V → j_H → Option j_Z} {L : Nat} {m : j_M0} {x1 : Int} {x2 : Int} {s0 : Int} : j_fin C 113 111 [some (jR 2), some (jI x1), some (jI x2)] [jI s0] (hH L m) = if s0 = 0 then (C 82 [jR 86] (hH L m)).bind fun z => j_fin C 113 143 [some (jR 2), some (jI x1), some (jI x2)] (z.1.toList ++ []) z.2 else (C 86 [jR 86, jR 108] (hH L m)).bind fun z => j_fin C 113 125 [some (jR 2), some (jI x1), some (jI x2)] (z.1.toList ++ []) z.2 := by
  refine (S_if_eq at_113_111).trans ?_
  refine ite_congr rfl (fun _ => ?_) (fun _ => ?_)
  · refine (S_aload_n rfl at_113_136).trans ?_
    refine (S_getR (ka_2 L _) rfl (f_2_6 L _) at_113_137).trans ?_
    refine (S_invv (b := 0) kn_82 rfl (ka_86 L _) (Nat.le_of_ble_eq_true rfl) at_113_140).trans ?_
    rfl
  · refine (S_aload_n rfl at_113_114).trans ?_
    refine (S_getR (ka_2 L _) rfl (f_2_6 L _) at_113_115).trans ?_
    refine (S_aload_n rfl at_113_118).trans ?_
    refine (S_getR (ka_2 L _) rfl (f_2_10 L _) at_113_119).trans ?_
    refine (S_invv (b := 1) kn_86 rfl (ka_86 L _) (Nat.le_of_ble_eq_true rfl) at_113_122).trans ?_
    rfl
theorem T113_125 {C : Nat → List j_V → j_H → Option j_Z} {L : Nat} {m : j_M0} {x1 : Int} {x2 : Int} {s0 : Int} : j_fin C 113 125 [some (jR 2), some (jI x1), some (jI x2)] [jI s0] (hH L m) = if s0 = 0 then (C 82 [jR 86] (hH L m)).bind fun z => j_fin C 113 143 [some (jR 2), some (jI x1), some (jI x2)] (z.1.toList ++ []) z.2 else some (some (jI (m 86 1)), hH L m) := by
  refine (S_if_eq at_113_125).trans ?_
  refine ite_congr rfl (fun _ => ?_) (fun _ => ?_)
  · refine (S_aload_n rfl at_113_136).trans ?_
    refine (S_getR (ka_2 L _) rfl (f_2_6 L _) at_113_137).trans ?_
    refine (S_invv (b := 0) kn_82 rfl (ka_86 L _) (Nat.le_of_ble_eq_true rfl) at_113_140).trans ?_
    rfl
  · refine (S_aload_n rfl at_113_128).trans ?_
    refine (S_getR (ka_2 L _) rfl (f_2_6 L _) at_113_129).trans ?_
    refine (H_get0 (ka_86 L _) rfl at_113_132).trans ?_
    exact S_ireti rfl at_113_135
theorem T113_143 {C : Nat → List j_V → j_H → Option j_Z} {L : Nat} {m : j_M0} {x1 : Int} {x2 : Int} : j_fin C 113 143 [some (jR 2), some (jI x1), some (jI x2)] [] (hH L m) = j_fin C 113 100 [some (jR 2), some (jI x1), some (jI (w32 (x2 + (-1))))] [] (hH L m) := by
  refine (S_iinc (l1 := [some (jR 2), some (jI x1), some (jI (w32 (x2 + (-1))))]) rfl rfl at_113_143).trans ?_
  refine (S_goto at_113_146).trans ?_
  rfl
theorem T114_0 {C : Nat → List j_V → j_H → Option j_Z} {L : Nat} {m : j_M0} {x1 : Int} : j_fin C 114 0 [some (jR 2), some (jI x1), none] [] (hH L m) = if x1 < 0 then some (some (jI (-1)), hH L m) else if (w32 ((m 4 0) + 3)) < x1 then some (some (jI (-1)), hH L m) else (C 74 [jR 68, jR 4] (hH L m)).bind fun z => j_fin C 114 36 [some (jR 2), some (jI x1), none] (z.1.toList ++ []) z.2 := by
  refine (S_iload_n rfl at_114_0).trans ?_
  refine (S_if_lt at_114_1).trans ?_
  refine ite_congr rfl (fun _ => ?_) (fun _ => ?_)
  · refine (S_iconst at_114_20).trans ?_
    exact S_ireti rfl at_114_21
  · refine (S_iload_n rfl at_114_4).trans ?_
    refine (S_aload_n rfl at_114_5).trans ?_
    refine (S_getR (ka_2 L _) rfl (f_2_0 L _) at_114_6).trans ?_
    refine (S_getR (ka_3 L _) rfl (f_3_0 L _) at_114_9).trans ?_
    refine (H_get0 (ka_4 L _) rfl at_114_12).trans ?_
    refine (S_iconst at_114_15).trans ?_
    refine (S_iadd at_114_16).trans ?_
    refine (S_icmp_le at_114_17).trans ?_
    refine ite_congr rfl (fun _ => ?_) (fun _ => ?_)
    · refine (S_iconst at_114_20).trans ?_
      exact S_ireti rfl at_114_21
    · refine (S_aload_n rfl at_114_22).trans ?_
      refine (S_getR (ka_2 L _) rfl (f_2_5 L _) at_114_23).trans ?_
      refine (S_aload_n rfl at_114_26).trans ?_
      refine (S_getR (ka_2 L _) rfl (f_2_0 L _) at_114_27).trans ?_
      refine (S_getR (ka_3 L _) rfl (f_3_0 L _) at_114_30).trans ?_
      refine (S_invv (b := 1) kn_74 rfl (ka_68 L _) (Nat.le_of_ble_eq_true rfl) at_114_33).trans ?_
      rfl
theorem T114_36 {C : Nat → List j_V → j_H → Option j_Z} {L : Nat} {m : j_M0} {x1 : Int} {s0 : Int} : j_fin C 114 36 [some (jR 2), some (jI x1), none] [jI s0] (hH L m) = if x1 = 1 then some (some (jI (m 68 0)), hH L m) else if x1 = 3 then some (some (jI (m 68 1)), hH L m) else if s0 < 0 then some (some (jI s0), hH L m) else if x1 = 0 then (C 79 [jR 68, jI s0] (hH L m)).bind fun z => j_fin C 114 81 [some (jR 2), some (jI x1), some (jI s0)] (z.1.toList ++ []) z.2 else if x1 = 2 then if 0 ≤ s0 ∧ s0 < 40 then some (some (jI (m 69 s0.toNat)), hH L m) else none else if 0 ≤ (w32 ((w32 ((w32 (s0 * 5)) + x1)) - 4)) ∧ (w32 ((w32 ((w32 (s0 * 5)) + x1)) - 4)) < 200 then some (some (jI (w32 (m 70 (w32 ((w32 ((w32 (s0 * 5)) + x1)) - 4)).toNat))), hH L m) else none := by
  refine (S_istore_n (l1 := [some (jR 2), some (jI x1), some (jI s0)]) rfl at_114_36).trans ?_
  refine (S_iload_n rfl at_114_37).trans ?_
  refine (S_iconst at_114_38).trans ?_
  refine (S_icmp_ne at_114_39).trans ?_
  refine ite_congr rfl (fun _ => ?_) (fun _ => ?_)
  · refine (S_aload_n rfl at_114_42).trans ?_
    refine (S_getR (ka_2 L _) rfl (f_2_5 L _) at_114_43).trans ?_
    refine (H_get0 (ka_68 L _) rfl at_114_46).trans ?_
    exact S_ireti rfl at_114_49
  · refine (S_iload_n rfl at_114_50).trans ?_
    refine (S_iconst at_114_51).trans ?_
    refine (S_icmp_ne at_114_52).trans ?_
    refine ite_congr rfl (fun _ => ?_) (fun _ => ?_)
    · refine (S_aload_n rfl at_114_55).trans ?_
      refine (S_getR (ka_2 L _) rfl (f_2_5 L _) at_114_56).trans ?_
      refine (H_get0 (ka_68 L _) rfl at_114_59).trans ?_
      exact S_ireti rfl at_114_62
    · refine (S_iload_n rfl at_114_63).trans ?_
      refine (S_if_ge at_114_64).trans ?_
      refine ite_congr rfl (fun _ => ?_) (fun _ => ?_)
      · refine (S_iload_n rfl at_114_67).trans ?_
        exact S_ireti rfl at_114_68
      · refine (S_iload_n rfl at_114_69).trans ?_
        refine (S_if_ne at_114_70).trans ?_
        refine ite_congr rfl (fun _ => ?_) (fun _ => ?_)
        · refine (S_aload_n rfl at_114_73).trans ?_
          refine (S_getR (ka_2 L _) rfl (f_2_5 L _) at_114_74).trans ?_
          refine (S_iload_n rfl at_114_77).trans ?_
          refine (S_invv (b := 1) kn_79 rfl (ka_68 L _) (Nat.le_of_ble_eq_true rfl) at_114_78).trans ?_
          rfl
        · refine (S_iload_n rfl at_114_83).trans ?_
          refine (S_iconst at_114_84).trans ?_
          refine (S_icmp_ne at_114_85).trans ?_
          refine ite_congr rfl (fun _ => ?_) (fun _ => ?_)
          · refine (S_aload_n rfl at_114_88).trans ?_
            refine (S_getR (ka_2 L _) rfl (f_2_5 L _) at_114_89).trans ?_
            refine (S_getR (ka_68 L _) rfl (f_68_2 L _) at_114_92).trans ?_
            refine (S_iload_n rfl at_114_95).trans ?_
            refine (H_iaload (ka_69 L _) at_114_96).trans ?_
            refine ite_congr rfl (fun hi => ?_) (fun _ => rfl)
            exact S_ireti rfl at_114_97
          · refine (S_aload_n rfl at_114_98).trans ?_
            refine (S_getR (ka_2 L _) rfl (f_2_5 L _) at_114_99).trans ?_
            refine (S_getR (ka_68 L _) rfl (f_68_3 L _) at_114_102).trans ?_
            refine (S_iload_n rfl at_114_105).trans ?_
            refine (S_iconst at_114_106).trans ?_
            refine (S_imul at_114_107).trans ?_
            refine (S_iload_n rfl at_114_108).trans ?_
            refine (S_iadd at_114_109).trans ?_
            refine (S_iconst at_114_110).trans ?_
            refine (S_isub at_114_111).trans ?_
            refine (H_laload (ka_70 L _) at_114_112).trans ?_
            refine ite_congr rfl (fun hi => ?_) (fun _ => rfl)
            refine (S_l2i at_114_113).trans ?_
            exact S_ireti rfl at_114_114
theorem T114_81 {C : Nat → List j_V → j_H → Option j_Z} {L : Nat} {m : j_M0} {x1 : Int} {x2 : Int} {t0 : Int} : j_fin C 114 81 [some (jR 2), some (jI x1), some (jI x2)] [jL t0] (hH L m) = some (some (jI (w32 t0)), hH L m) := by
  refine (S_l2i at_114_81).trans ?_
  exact S_ireti rfl at_114_82
theorem T115_0 {C : Nat → List j_V → j_H → Option j_Z} {L : Nat} {m : j_M0} {x1 : Int} {x2 : Int} : j_fin C 115 0 [some (jR 2), some (jI x1), some (jI x2)] [] (hH L m) = (C 136 [jR 2, jI x1] (hH L m)).bind fun z => j_fin C 115 5 [some (jR 2), some (jI x1), some (jI x2)] (z.1.toList ++ []) z.2 := by
  refine (S_aload_n rfl at_115_0).trans ?_
  refine (S_iload_n rfl at_115_1).trans ?_
  refine (S_invv (b := 1) kn_136 rfl (ka_2 L _) (Nat.le_of_ble_eq_true rfl) at_115_2).trans ?_
  rfl
theorem T115_5 {C : Nat → List j_V → j_H → Option j_Z} {L : Nat} {m : j_M0} {x1 : Int} {x2 : Int} {s0 : Int} : j_fin C 115 5 [some (jR 2), some (jI x1), some (jI x2)] [jI s0] (hH L m) = if s0 = 0 then some (some (jI (-1)), hH L m) else (C 139 [jI x2] (hH L m)).bind fun z => j_fin C 115 14 [some (jR 2), some (jI x1), some (jI x2)] (z.1.toList ++ []) z.2 := by
  refine (S_if_ne at_115_5).trans ?_
  refine ite_congr rfl (fun _ => ?_) (fun _ => ?_)
  · refine (S_iconst at_115_8).trans ?_
    exact S_ireti rfl at_115_9
  · refine (S_iload_n rfl at_115_10).trans ?_
    refine (S_invs (by decide) (Nat.le_of_ble_eq_true rfl) (Nat.le_of_ble_eq_true rfl) at_115_11).trans ?_
    rfl
theorem T115_14 {C : Nat → List j_V → j_H → Option j_Z} {L : Nat} {m : j_M0} {x1 : Int} {x2 : Int} {s0 : Int} : j_fin C 115 14 [some (jR 2), some (jI x1), some (jI x2)] [jI s0] (hH L m) = if s0 = 0 then some (some (jI (-2)), hH L m) else (C 8 [jR 35, jR 4] (hH L m)).bind fun z => j_fin C 115 34 [some (jR 2), some (jI x1), some (jI x2)] (z.1.toList ++ []) z.2 := by
  refine (S_if_ne at_115_14).trans ?_
  refine ite_congr rfl (fun _ => ?_) (fun _ => ?_)
  · refine (S_bipush at_115_17).trans ?_
    exact S_ireti rfl at_115_19
  · refine (S_aload_n rfl at_115_20).trans ?_
    refine (S_getR (ka_2 L _) rfl (f_2_2 L _) at_115_21).trans ?_
    refine (S_aload_n rfl at_115_24).trans ?_
    refine (S_getR (ka_2 L _) rfl (f_2_0 L _) at_115_25).trans ?_
    refine (S_getR (ka_3 L _) rfl (f_3_0 L _) at_115_28).trans ?_
    refine (S_invv (b := 1) kn_8 rfl (ka_35 L _) (Nat.le_of_ble_eq_true rfl) at_115_31).trans ?_
    rfl
theorem T115_34 {C : Nat → List j_V → j_H → Option j_Z} {L : Nat} {m : j_M0} {x1 : Int} {x2 : Int} : j_fin C 115 34 [some (jR 2), some (jI x1), some (jI x2)] [] (hH L m) = if 0 ≤ x1 ∧ x1 < 8 then (C 30 [jR 54, jR 35] (hH L (j_up m 38 x1.toNat x2))).bind fun z => j_fin C 115 55 [some (jR 2), some (jI x1), some (jI x2)] (z.1.toList ++ []) z.2 else none := by
  refine (S_aload_n rfl at_115_34).trans ?_
  refine (S_getR (ka_2 L _) rfl (f_2_2 L _) at_115_35).trans ?_
  refine (S_getR (ka_35 L _) rfl (f_35_4 L _) at_115_38).trans ?_
  refine (S_iload_n rfl at_115_41).trans ?_
  refine (S_iload_n rfl at_115_42).trans ?_
  refine (H_iastore (by omega) (ka_38 L _) at_115_43).trans ?_
  refine ite_congr rfl (fun hi => ?_) (fun _ => rfl)
  refine (S_aload_n rfl at_115_44).trans ?_
  refine (S_getR (ka_2 L _) rfl (f_2_4 L _) at_115_45).trans ?_
  refine (S_aload_n rfl at_115_48).trans ?_
  refine (S_getR (ka_2 L _) rfl (f_2_2 L _) at_115_49).trans ?_
  refine (S_invv (b := 1) kn_30 rfl (ka_54 L _) (Nat.le_of_ble_eq_true rfl) at_115_52).trans ?_
  rfl
theorem T115_55 {C : Nat → List j_V → j_H → Option j_Z} {L : Nat} {m : j_M0} {x1 : Int} {x2 : Int} {s0 : Int} : j_fin C 115 55 [some (jR 2), some (jI x1), some (jI x2)] [jI s0] (hH L m) = some (some (jI s0), hH L m) := by
  exact S_ireti rfl at_115_55
theorem T116_0 {C : Nat → List j_V → j_H → Option j_Z} {L : Nat} {m : j_M0} {x1 : Int} {x2 : Int} : j_fin C 116 0 [some (jR 2), some (jI x1), some (jI x2)] [] (hH L m) = if x1 = (-1) then some (some (jI 0), hH L (j_up m 3 5 0)) else (C 135 [jR 2, jI x1] (hH L m)).bind fun z => j_fin C 116 20 [some (jR 2), some (jI x1), some (jI x2)] (z.1.toList ++ []) z.2 := by
  refine (S_iload_n rfl at_116_0).trans ?_
  refine (S_iconst at_116_1).trans ?_
  refine (S_icmp_ne at_116_2).trans ?_
  refine ite_congr rfl (fun _ => ?_) (fun _ => ?_)
  · refine (S_aload_n rfl at_116_5).trans ?_
    refine (S_getR (ka_2 L _) rfl (f_2_0 L _) at_116_6).trans ?_
    refine (S_iconst at_116_9).trans ?_
    refine (H_put0 (ka_3 L _) rfl at_116_10).trans ?_
    refine (S_iconst at_116_13).trans ?_
    exact S_ireti rfl at_116_14
  · refine (S_aload_n rfl at_116_15).trans ?_
    refine (S_iload_n rfl at_116_16).trans ?_
    refine (S_invv (b := 1) kn_135 rfl (ka_2 L _) (Nat.le_of_ble_eq_true rfl) at_116_17).trans ?_
    rfl
theorem T116_20 {C : Nat → List j_V → j_H → Option j_Z} {L : Nat} {m : j_M0} {x1 : Int} {x2 : Int} {s0 : Int} : j_fin C 116 20 [some (jR 2), some (jI x1), some (jI x2)] [jI s0] (hH L m) = if s0 = 0 then some (some (jI (-1)), hH L m) else if x2 < 0 then some (some (jI (-2)), hH L m) else if 999 < x2 then some (some (jI (-2)), hH L m) else if (m 3 5) < 5 then (C 34 [jR 3, jI x1, jI x2] (hH L m)).bind fun z => j_fin C 116 62 [some (jR 2), some (jI x1), some (jI x2)] (z.1.toList ++ []) z.2 else some (some (jI (-4)), hH L m) := by
  refine (S_if_ne at_116_20).trans ?_
  refine ite_congr rfl (fun _ => ?_) (fun _ => ?_)
  · refine (S_iconst at_116_23).trans ?_
    exact S_ireti rfl at_116_24
  · refine (S_iload_n rfl at_116_25).trans ?_
    refine (S_if_lt at_116_26).trans ?_
    refine ite_congr rfl (fun _ => ?_) (fun _ => ?_)
    · refine (S_bipush at_116_36).trans ?_
      exact S_ireti rfl at_116_38
    · refine (S_iload_n rfl at_116_29).trans ?_
      refine (S_sipush at_116_30).trans ?_
      refine (S_icmp_le at_116_33).trans ?_
      refine ite_congr rfl (fun _ => ?_) (fun _ => ?_)
      · refine (S_bipush at_116_36).trans ?_
        exact S_ireti rfl at_116_38
      · refine (S_aload_n rfl at_116_39).trans ?_
        refine (S_getR (ka_2 L _) rfl (f_2_0 L _) at_116_40).trans ?_
        refine (H_get0 (ka_3 L _) rfl at_116_43).trans ?_
        refine (S_iconst at_116_46).trans ?_
        refine (S_icmp_lt at_116_47).trans ?_
        refine ite_congr rfl (fun _ => ?_) (fun _ => ?_)
        · refine (S_aload_n rfl at_116_53).trans ?_
          refine (S_getR (ka_2 L _) rfl (f_2_0 L _) at_116_54).trans ?_
          refine (S_iload_n rfl at_116_57).trans ?_
          refine (S_iload_n rfl at_116_58).trans ?_
          refine (S_invv (b := 2) kn_34 rfl (ka_3 L _) (Nat.le_of_ble_eq_true rfl) at_116_59).trans ?_
          rfl
        · refine (S_bipush at_116_50).trans ?_
          exact S_ireti rfl at_116_52
theorem T116_62 {C : Nat → List j_V → j_H → Option j_Z} {L : Nat} {m : j_M0} {x1 : Int} {x2 : Int} : j_fin C 116 62 [some (jR 2), some (jI x1), some (jI x2)] [] (hH L m) = some (some (jI (m 3 5)), hH L m) := by
  refine (S_aload_n rfl at_116_62).trans ?_
  refine (S_getR (ka_2 L _) rfl (f_2_0 L _) at_116_63).trans ?_
  refine (H_get0 (ka_3 L _) rfl at_116_66).trans ?_
  exact S_ireti rfl at_116_69
theorem T117_0 {C : Nat → List j_V → j_H → Option j_Z} {L : Nat} {m : j_M0} {x1 : Int} {x2 : Int} : j_fin C 117 0 [some (jR 2), some (jI x1), some (jI x2), none, none, none] [] (hH L m) = (C 136 [jR 2, jI x1] (hH L m)).bind fun z => j_fin C 117 5 [some (jR 2), some (jI x1), some (jI x2), none, none, none] (z.1.toList ++ []) z.2 := by
  refine (S_aload_n rfl at_117_0).trans ?_
  refine (S_iload_n rfl at_117_1).trans ?_
  refine (S_invv (b := 1) kn_136 rfl (ka_2 L _) (Nat.le_of_ble_eq_true rfl) at_117_2).trans ?_
  rfl
theorem T117_5 {C : Nat → List j_V → j_H → Option j_Z} {L : Nat} {m : j_M0} {x1 : Int} {x2 : Int} {s0 : Int} : j_fin C 117 5 [some (jR 2), some (jI x1), some (jI x2), none, none, none] [jI s0] (hH L m) = if s0 = 0 then some (some (jI (-1)), hH L m) else if x2 < 0 then some (some (jI (-1)), hH L m) else if 1 < x2 then some (some (jI (-1)), hH L m) else (C 8 [jR 35, jR 4] (hH L m)).bind fun z => j_fin C 117 39 [some (jR 2), some (jI x1), some (jI x2), some (jI 0), some (jI (-5)), none] (z.1.toList ++ []) z.2 := by
  refine (S_if_eq at_117_5).trans ?_
  refine ite_congr rfl (fun _ => ?_) (fun _ => ?_)
  · refine (S_iconst at_117_17).trans ?_
    exact S_ireti rfl at_117_18
  · refine (S_iload_n rfl at_117_8).trans ?_
    refine (S_if_lt at_117_9).trans ?_
    refine ite_congr rfl (fun _ => ?_) (fun _ => ?_)
    · refine (S_iconst at_117_17).trans ?_
      exact S_ireti rfl at_117_18
    · refine (S_iload_n rfl at_117_12).trans ?_
      refine (S_iconst at_117_13).trans ?_
      refine (S_icmp_le at_117_14).trans ?_
      refine ite_congr rfl (fun _ => ?_) (fun _ => ?_)
      · refine (S_iconst at_117_17).trans ?_
        exact S_ireti rfl at_117_18
      · refine (S_iconst at_117_19).trans ?_
        refine (S_istore_n (l1 := [some (jR 2), some (jI x1), some (jI x2), some (jI 0), none, none]) rfl at_117_20).trans ?_
        refine (S_bipush at_117_21).trans ?_
        refine (S_istore (l1 := [some (jR 2), some (jI x1), some (jI x2), some (jI 0), some (jI (-5)), none]) rfl at_117_23).trans ?_
        refine (S_aload_n rfl at_117_25).trans ?_
        refine (S_getR (ka_2 L _) rfl (f_2_2 L _) at_117_26).trans ?_
        refine (S_aload_n rfl at_117_29).trans ?_
        refine (S_getR (ka_2 L _) rfl (f_2_0 L _) at_117_30).trans ?_
        refine (S_getR (ka_3 L _) rfl (f_3_0 L _) at_117_33).trans ?_
        refine (S_invv (b := 1) kn_8 rfl (ka_35 L _) (Nat.le_of_ble_eq_true rfl) at_117_36).trans ?_
        rfl
theorem T117_39 {C : Nat → List j_V → j_H → Option j_Z} {L : Nat} {m : j_M0} {x1 : Int} {x2 : Int} {x3 : Int} {x4 : Int} : j_fin C 117 39 [some (jR 2), some (jI x1), some (jI x2), some (jI x3), some (jI x4), none] [] (hH L m) = j_fin C 117 42 [some (jR 2), some (jI x1), some (jI x2), some (jI x3), some (jI x4), some (jI 0)] [] (hH L m) := by
  refine (S_iconst at_117_39).trans ?_
  refine (S_istore (l1 := [some (jR 2), some (jI x1), some (jI x2), some (jI x3), some (jI x4), some (jI 0)]) rfl at_117_40).trans ?_
  rfl
theorem T117_42 {C : Nat → List j_V → j_H → Option j_Z} {L : Nat} {m : j_M0} {x1 : Int} {x2 : Int} {x3 : Int} {x4 : Int} {x5 : Int} : j_fin C 117 42 [some (jR 2), some (jI x1), some (jI x2), some (jI x3), some (jI x4), some (jI x5)] [] (hH L m) = if 45 < x5 then if x2 = 0 then some (some (jI x3), hH L m) else some (some (jI x4), hH L m) else if 0 ≤ x1 ∧ x1 < 8 then (C 145 [jR 2] (hH L (j_up m 38 x1.toNat x5))).bind fun z => j_fin C 117 64 [some (jR 2), some (jI x1), some (jI x2), some (jI x3), some (jI x4), some (jI x5)] (z.1.toList ++ []) z.2 else none := by
  refine (S_iload rfl at_117_42).trans ?_
  refine (S_bipush at_117_44).trans ?_
  refine (S_icmp_gt at_117_46).trans ?_
  refine ite_congr rfl (fun _ => ?_) (fun _ => ?_)
  · refine (S_iload_n rfl at_117_87).trans ?_
    refine (S_if_ne at_117_88).trans ?_
    refine ite_congr rfl (fun _ => ?_) (fun _ => ?_)
    · refine (S_iload_n rfl at_117_91).trans ?_
      refine (S_goto at_117_92).trans ?_
      exact S_ireti rfl at_117_97
    · refine (S_iload rfl at_117_95).trans ?_
      exact S_ireti rfl at_117_97
  · refine (S_aload_n rfl at_117_49).trans ?_
    refine (S_getR (ka_2 L _) rfl (f_2_2 L _) at_117_50).trans ?_
    refine (S_getR (ka_35 L _) rfl (f_35_4 L _) at_117_53).trans ?_
    refine (S_iload_n rfl at_117_56).trans ?_
    refine (S_iload rfl at_117_57).trans ?_
    refine (H_iastore (by omega) (ka_38 L _) at_117_59).trans ?_
    refine ite_congr rfl (fun hi => ?_) (fun _ => rfl)
    refine (S_aload_n rfl at_117_60).trans ?_
    refine (S_invv (b := 0) kn_145 rfl (ka_2 L _) (Nat.le_of_ble_eq_true rfl) at_117_61).trans ?_
    rfl
theorem T117_64 {C : Nat → List j_V → j_H → Option j_Z} {L : Nat} {m : j_M0} {x1 : Int} {x2 : Int} {x3 : Int} {x4 : Int} {x5 : Int} {s0 : Int} : j_fin C 117 64 [some (jR 2), some (jI x1), some (jI x2), some (jI x3), some (jI x4), some (jI x5)] [jI s0] (hH L m) = if s0 = 0 then j_fin C 117 42 [some (jR 2), some (jI x1), some (jI x2), some (jI x3), some (jI x4), some (jI (w32 (x5 + 5)))] [] (hH L m) else if x3 = 0 then j_fin C 117 42 [some (jR 2), some (jI x1), some (jI x2), some (jI (w32 (x3 + 1))), some (jI x5), some (jI (w32 (x5 + 5)))] [] (hH L m) else j_fin C 117 42 [some (jR 2), some (jI x1), some (jI x2), some (jI (w32 (x3 + 1))), some (jI x4), some (jI (w32 (x5 + 5)))] [] (hH L m) := by
  refine (S_if_ne at_117_64).trans ?_
  refine ite_congr rfl (fun _ => ?_) (fun _ => ?_)
  · refine (S_goto at_117_67).trans ?_
    refine (S_iinc (l1 := [some (jR 2), some (jI x1), some (jI x2), some (jI x3), some (jI x4), some (jI (w32 (x5 + 5)))]) rfl rfl at_117_81).trans ?_
    refine (S_goto at_117_84).trans ?_
    rfl
  · refine (S_iload_n rfl at_117_70).trans ?_
    refine (S_if_ne at_117_71).trans ?_
    refine ite_congr rfl (fun _ => ?_) (fun _ => ?_)
    · refine (S_iload rfl at_117_74).trans ?_
      refine (S_istore (l1 := [some (jR 2), some (jI x1), some (jI x2), some (jI x3), some (jI x5), some (jI x5)]) rfl at_117_76).trans ?_
      refine (S_iinc (l1 := [some (jR 2), some (jI x1), some (jI x2), some (jI (w32 (x3 + 1))), some (jI x5), some (jI x5)]) rfl rfl at_117_78).trans ?_
      refine (S_iinc (l1 := [some (jR 2), some (jI x1), some (jI x2), some (jI (w32 (x3 + 1))), some (jI x5), some (jI (w32 (x5 + 5)))]) rfl rfl at_117_81).trans ?_
      refine (S_goto at_117_84).trans ?_
      rfl
    · refine (S_iinc (l1 := [some (jR 2), some (jI x1), some (jI x2), some (jI (w32 (x3 + 1))), some (jI x4), some (jI x5)]) rfl rfl at_117_78).trans ?_
      refine (S_iinc (l1 := [some (jR 2), some (jI x1), some (jI x2), some (jI (w32 (x3 + 1))), some (jI x4), some (jI (w32 (x5 + 5)))]) rfl rfl at_117_81).trans ?_
      refine (S_goto at_117_84).trans ?_
      rfl
theorem T118_0 {C : Nat → List j_V → j_H → Option j_Z} {L : Nat} {m : j_M0} {x1 : Int} {x2 : Int} {x3 : Int} {x4 : Int} {x5 : Int} : j_fin C 118 0 [some (jR 2), some (jI x1), some (jI x2), some (jI x3), some (jI x4), some (jI x5), none, none, none] [] (hH L m) = (C 136 [jR 2, jI x1] (hH L m)).bind fun z => j_fin C 118 5 [some (jR 2), some (jI x1), some (jI x2), some (jI x3), some (jI x4), some (jI x5), none, none, none] (z.1.toList ++ []) z.2 := by
  refine (S_aload_n rfl at_118_0).trans ?_
  refine (S_iload_n rfl at_118_1).trans ?_
  refine (S_invv (b := 1) kn_136 rfl (ka_2 L _) (Nat.le_of_ble_eq_true rfl) at_118_2).trans ?_
  rfl
theorem T118_5 {C : Nat → List j_V → j_H → Option j_Z} {L : Nat} {m : j_M0} {x1 : Int} {x2 : Int} {x3 : Int} {x4 : Int} {x5 : Int} {s0 : Int} : j_fin C 118 5 [some (jR 2), some (jI x1), some (jI x2), some (jI x3), some (jI x4), some (jI x5), none, none, none] [jI s0] (hH L m) = if s0 = 0 then some (some (jL (-9223372036854775808)), hH L m) else (C 139 [jI x2] (hH L m)).bind fun z => j_fin C 118 12 [some (jR 2), some (jI x1), some (jI x2), some (jI x3), some (jI x4), some (jI x5), none, none, none] (z.1.toList ++ []) z.2 := by
  refine (S_if_eq at_118_5).trans ?_
  refine ite_congr rfl (fun _ => ?_) (fun _ => ?_)
  · refine (S_ldc2_w at_118_37).trans ?_
    exact S_lret rfl at_118_40
  · refine (S_iload_n rfl at_118_8).trans ?_
    refine (S_invs (by decide) (Nat.le_of_ble_eq_true rfl) (Nat.le_of_ble_eq_true rfl) at_118_9).trans ?_
    rfl
theorem T118_12 {C : Nat → List j_V → j_H → Option j_Z} {L : Nat} {m : j_M0} {x1 : Int} {x2 : Int} {x3 : Int} {x4 : Int} {x5 : Int} {s0 : Int} : j_fin C 118 12 [some (jR 2), some (jI x1), some (jI x2), some (jI x3), some (jI x4), some (jI x5), none, none, none] [jI s0] (hH L m) = if s0 = 0 then some (some (jL (-9223372036854775808)), hH L m) else if x3 < 1 then some (some (jL (-9223372036854775808)), hH L m) else if 8 < x3 then some (some (jL (-9223372036854775808)), hH L m) else if 999 < (w32 ((w32 (x2 + x3)) - 1)) then some (some (jL (-9223372036854775808)), hH L m) else if x4 < 0 then some (some (jL (-9223372036854775808)), hH L m) else (C 141 [jI x5] (hH L m)).bind fun z => j_fin C 118 51 [some (jR 2), some (jI x1), some (jI x2), some (jI x3), some (jI x4), some (jI x5), none, none, none] (z.1.toList ++ []) z.2 := by
  refine (S_if_eq at_118_12).trans ?_
  refine ite_congr rfl (fun _ => ?_) (fun _ => ?_)
  · refine (S_ldc2_w at_118_37).trans ?_
    exact S_lret rfl at_118_40
  · refine (S_iload_n rfl at_118_15).trans ?_
    refine (S_iconst at_118_16).trans ?_
    refine (S_icmp_lt at_118_17).trans ?_
    refine ite_congr rfl (fun _ => ?_) (fun _ => ?_)
    · refine (S_ldc2_w at_118_37).trans ?_
      exact S_lret rfl at_118_40
    · refine (S_iload_n rfl at_118_20).trans ?_
      refine (S_bipush at_118_21).trans ?_
      refine (S_icmp_gt at_118_23).trans ?_
      refine ite_congr rfl (fun _ => ?_) (fun _ => ?_)
      · refine (S_ldc2_w at_118_37).trans ?_
        exact S_lret rfl at_118_40
      · refine (S_iload_n rfl at_118_26).trans ?_
        refine (S_iload_n rfl at_118_27).trans ?_
        refine (S_iadd at_118_28).trans ?_
        refine (S_iconst at_118_29).trans ?_
        refine (S_isub at_118_30).trans ?_
        refine (S_sipush at_118_31).trans ?_
        refine (S_icmp_le at_118_34).trans ?_
        refine ite_congr rfl (fun _ => ?_) (fun _ => ?_)
        · refine (S_ldc2_w at_118_37).trans ?_
          exact S_lret rfl at_118_40
        · refine (S_iload rfl at_118_41).trans ?_
          refine (S_if_lt at_118_43).trans ?_
          refine ite_congr rfl (fun _ => ?_) (fun _ => ?_)
          · refine (S_ldc2_w at_118_54).trans ?_
            exact S_lret rfl at_118_57
          · refine (S_iload rfl at_118_46).trans ?_
            refine (S_invs (by decide) (Nat.le_of_ble_eq_true rfl) (Nat.le_of_ble_eq_true rfl) at_118_48).trans ?_
            rfl
theorem T118_51 {C : Nat → List j_V → j_H → Option j_Z} {L : Nat} {m : j_M0} {x1 : Int} {x2 : Int} {x3 : Int} {x4 : Int} {x5 : Int} {s0 : Int} : j_fin C 118 51 [some (jR 2), some (jI x1), some (jI x2), some (jI x3), some (jI x4), some (jI x5), none, none, none] [jI s0] (hH L m) = if s0 = 0 then some (some (jL (-9223372036854775808)), hH L m) else (C 8 [jR 35, jR 4] (hH L m)).bind fun z => j_fin C 118 75 [some (jR 2), some (jI x1), some (jI x2), some (jI x3), some (jI x4), some (jI x5), some (jI 0), none, none] (z.1.toList ++ []) z.2 := by
  refine (S_if_ne at_118_51).trans ?_
  refine ite_congr rfl (fun _ => ?_) (fun _ => ?_)
  · refine (S_ldc2_w at_118_54).trans ?_
    exact S_lret rfl at_118_57
  · refine (S_iconst at_118_58).trans ?_
    refine (S_istore (l1 := [some (jR 2), some (jI x1), some (jI x2), some (jI x3), some (jI x4), some (jI x5), some (jI 0), none, none]) rfl at_118_59).trans ?_
    refine (S_aload_n rfl at_118_61).trans ?_
    refine (S_getR (ka_2 L _) rfl (f_2_2 L _) at_118_62).trans ?_
    refine (S_aload_n rfl at_118_65).trans ?_
    refine (S_getR (ka_2 L _) rfl (f_2_0 L _) at_118_66).trans ?_
    refine (S_getR (ka_3 L _) rfl (f_3_0 L _) at_118_69).trans ?_
    refine (S_invv (b := 1) kn_8 rfl (ka_35 L _) (Nat.le_of_ble_eq_true rfl) at_118_72).trans ?_
    rfl
theorem T118_75 {C : Nat → List j_V → j_H → Option j_Z} {L : Nat} {m : j_M0} {x1 : Int} {x2 : Int} {x3 : Int} {x4 : Int} {x5 : Int} {x6 : Int} : j_fin C 118 75 [some (jR 2), some (jI x1), some (jI x2), some (jI x3), some (jI x4), some (jI x5), some (jI x6), none, none] [] (hH L m) = j_fin C 118 78 [some (jR 2), some (jI x1), some (jI x2), some (jI x3), some (jI x4), some (jI x5), some (jI x6), some (jI 0), none] [] (hH L m) := by
  refine (S_iconst at_118_75).trans ?_
  refine (S_istore (l1 := [some (jR 2), some (jI x1), some (jI x2), some (jI x3), some (jI x4), some (jI x5), some (jI x6), some (jI 0), none]) rfl at_118_76).trans ?_
  rfl
theorem T118_78 {C : Nat → List j_V → j_H → Option j_Z} {L : Nat} {m : j_M0} {x1 : Int} {x2 : Int} {x3 : Int} {x4 : Int} {x5 : Int} {x6 : Int} {x7 : Int} {o8 : Option j_V} : j_fin C 118 78 [some (jR 2), some (jI x1), some (jI x2), some (jI x3), some (jI x4), some (jI x5), some (jI x6), some (jI x7), o8] [] (hH L m) = if x7 < x3 then if 0 ≤ x1 ∧ x1 < 8 then (C 30 [jR 54, jR 35] (hH L (j_up m 38 x1.toNat (w32 (x2 + x7))))).bind fun z => j_fin C 118 108 [some (jR 2), some (jI x1), some (jI x2), some (jI x3), some (jI x4), some (jI x5), some (jI x6), some (jI x7), o8] (z.1.toList ++ []) z.2 else none else (C 146 [jL x6, jL x3, jI x5] (hH L m)).bind fun z => j_fin C 118 141 [some (jR 2), some (jI x1), some (jI x2), some (jI x3), some (jI x4), some (jI x5), some (jI x6), some (jI x7), o8] (z.1.toList ++ []) z.2 := by
  refine (S_iload rfl at_118_78).trans ?_
  refine (S_iload_n rfl at_118_80).trans ?_
  refine (S_icmp_ge at_118_81).trans ?_
  refine ite_congr rfl (fun _ => ?_) (fun _ => ?_)
  · refine (S_aload_n rfl at_118_84).trans ?_
    refine (S_getR (ka_2 L _) rfl (f_2_2 L _) at_118_85).trans ?_
    refine (S_getR (ka_35 L _) rfl (f_35_4 L _) at_118_88).trans ?_
    refine (S_iload_n rfl at_118_91).trans ?_
    refine (S_iload_n rfl at_118_92).trans ?_
    refine (S_iload rfl at_118_93).trans ?_
    refine (S_iadd at_118_95).trans ?_
    refine (H_iastore (by omega) (ka_38 L _) at_118_96).trans ?_
    refine ite_congr rfl (fun hi => ?_) (fun _ => rfl)
    refine (S_aload_n rfl at_118_97).trans ?_
    refine (S_getR (ka_2 L _) rfl (f_2_4 L _) at_118_98).trans ?_
    refine (S_aload_n rfl at_118_101).trans ?_
    refine (S_getR (ka_2 L _) rfl (f_2_2 L _) at_118_102).trans ?_
    refine (S_invv (b := 1) kn_30 rfl (ka_54 L _) (Nat.le_of_ble_eq_true rfl) at_118_105).trans ?_
    rfl
  · refine (S_iload rfl at_118_131).trans ?_
    refine (S_i2l at_118_133).trans ?_
    refine (S_iload_n rfl at_118_134).trans ?_
    refine (S_i2l at_118_135).trans ?_
    refine (S_iload rfl at_118_136).trans ?_
    refine (S_invs (by decide) (Nat.le_of_ble_eq_true rfl) (Nat.le_of_ble_eq_true rfl) at_118_138).trans ?_
    rfl
theorem T118_108 {C : Nat → List j_V → j_H → Option j_Z} {L : Nat} {m : j_M0} {x1 : Int} {x2 : Int} {x3 : Int} {x4 : Int} {x5 : Int} {x6 : Int} {x7 : Int} {o8 : Option j_V} {s0 : Int} : j_fin C 118 108 [some (jR 2), some (jI x1), some (jI x2), some (jI x3), some (jI x4), some (jI x5), some (jI x6), some (jI x7), o8] [jI s0] (hH L m) = if s0 < 0 then j_fin C 118 78 [some (jR 2), some (jI x1), some (jI x2), some (jI x3), some (jI x4), some (jI x5), some (jI x6), some (jI (w32 (x7 + 1))), some (jI s0)] [] (hH L m) else if x4 < s0 then j_fin C 118 78 [some (jR 2), some (jI x1), some (jI x2), some (jI x3), some (jI x4), some (jI x5), some (jI x6), some (jI (w32 (x7 + 1))), some (jI s0)] [] (hH L m) else j_fin C 118 78 [some (jR 2), some (jI x1), some (jI x2), some (jI x3), some (jI x4), some (jI x5), some (jI (w32 (x6 + 1))), some (jI (w32 (x7 + 1))), some (jI s0)] [] (hH L m) := by
  refine (S_istore (l1 := [some (jR 2), some (jI x1), some (jI x2), some (jI x3), some (jI x4), some (jI x5), some (jI x6), some (jI x7), some (jI s0)]) rfl at_118_108).trans ?_
  refine (S_iload rfl at_118_110).trans ?_
  refine (S_if_lt at_118_112).trans ?_
  refine ite_congr rfl (fun _ => ?_) (fun _ => ?_)
  · refine (S_iinc (l1 := [some (jR 2), some (jI x1), some (jI x2), some (jI x3), some (jI x4), some (jI x5), some (jI x6), some (jI (w32 (x7 + 1))), some (jI s0)]) rfl rfl at_118_125).trans ?_
    refine (S_goto at_118_128).trans ?_
    rfl
  · refine (S_iload rfl at_118_115).trans ?_
    refine (S_iload rfl at_118_117).trans ?_
    refine (S_icmp_gt at_118_119).trans ?_
    refine ite_congr rfl (fun _ => ?_) (fun _ => ?_)
    · refine (S_iinc (l1 := [some (jR 2), some (jI x1), some (jI x2), some (jI x3), some (jI x4), some (jI x5), some (jI x6), some (jI (w32 (x7 + 1))), some (jI s0)]) rfl rfl at_118_125).trans ?_
      refine (S_goto at_118_128).trans ?_
      rfl
    · refine (S_iinc (l1 := [some (jR 2), some (jI x1), some (jI x2), some (jI x3), some (jI x4), some (jI x5), some (jI (w32 (x6 + 1))), some (jI x7), some (jI s0)]) rfl rfl at_118_122).trans ?_
      refine (S_iinc (l1 := [some (jR 2), some (jI x1), some (jI x2), some (jI x3), some (jI x4), some (jI x5), some (jI (w32 (x6 + 1))), some (jI (w32 (x7 + 1))), some (jI s0)]) rfl rfl at_118_125).trans ?_
      refine (S_goto at_118_128).trans ?_
      rfl
theorem T118_141 {C : Nat → List j_V → j_H → Option j_Z} {L : Nat} {m : j_M0} {x1 : Int} {x2 : Int} {x3 : Int} {x4 : Int} {x5 : Int} {x6 : Int} {x7 : Int} {o8 : Option j_V} {t0 : Int} : j_fin C 118 141 [some (jR 2), some (jI x1), some (jI x2), some (jI x3), some (jI x4), some (jI x5), some (jI x6), some (jI x7), o8] [jL t0] (hH L m) = some (some (jL t0), hH L m) := by
  exact S_lret rfl at_118_141
theorem T119_0 {C : Nat → List j_V → j_H → Option j_Z} {L : Nat} {m : j_M0} {x1 : Int} : j_fin C 119 0 [some (jR 2), some (jI x1), none, none] [] (hH L m) = (C 141 [jI x1] (hH L m)).bind fun z => j_fin C 119 4 [some (jR 2), some (jI x1), none, none] (z.1.toList ++ []) z.2 := by
  refine (S_iload_n rfl at_119_0).trans ?_
  refine (S_invs (by decide) (Nat.le_of_ble_eq_true rfl) (Nat.le_of_ble_eq_true rfl) at_119_1).trans ?_
  rfl
theorem T119_4 {C : Nat → List j_V → j_H → Option j_Z} {L : Nat} {m : j_M0} {x1 : Int} {s0 : Int} : j_fin C 119 4 [some (jR 2), some (jI x1), none, none] [jI s0] (hH L m) = if s0 = 0 then some (some (jL (-9223372036854775808)), hH L m) else j_fin C 119 15 [some (jR 2), some (jI x1), some (jI 0), some (jI 0)] [] (hH L m) := by
  refine (S_if_ne at_119_4).trans ?_
  refine ite_congr rfl (fun _ => ?_) (fun _ => ?_)
  · refine (S_ldc2_w at_119_7).trans ?_
    exact S_lret rfl at_119_10
  · refine (S_iconst at_119_11).trans ?_
    refine (S_istore_n (l1 := [some (jR 2), some (jI x1), some (jI 0), none]) rfl at_119_12).trans ?_
    refine (S_iconst at_119_13).trans ?_
    refine (S_istore_n (l1 := [some (jR 2), some (jI x1), some (jI 0), some (jI 0)]) rfl at_119_14).trans ?_
    rfl
theorem T119_15 {C : Nat → List j_V → j_H → Option j_Z} {L : Nat} {m : j_M0} {x1 : Int} {x2 : Int} {x3 : Int} : j_fin C 119 15 [some (jR 2), some (jI x1), some (jI x2), some (jI x3)] [] (hH L m) = if x3 < (m 4 0) then if 0 ≤ x3 ∧ x3 < 5 then j_fin C 119 15 [some (jR 2), some (jI x1), some (jI (w32 (x2 + (m 5 x3.toNat)))), some (jI (w32 (x3 + 1)))] [] (hH L m) else none else (C 146 [jL x2, jL (m 4 0), jI x1] (hH L m)).bind fun z => j_fin C 119 67 [some (jR 2), some (jI x1), some (jI x2), some (jI x3)] (z.1.toList ++ []) z.2 := by
  refine (S_iload_n rfl at_119_15).trans ?_
  refine (S_aload_n rfl at_119_16).trans ?_
  refine (S_getR (ka_2 L _) rfl (f_2_0 L _) at_119_17).trans ?_
  refine (S_getR (ka_3 L _) rfl (f_3_0 L _) at_119_20).trans ?_
  refine (H_get0 (ka_4 L _) rfl at_119_23).trans ?_
  refine (S_icmp_ge at_119_26).trans ?_
  refine ite_congr rfl (fun _ => ?_) (fun _ => ?_)
  · refine (S_iload_n rfl at_119_29).trans ?_
    refine (S_aload_n rfl at_119_30).trans ?_
    refine (S_getR (ka_2 L _) rfl (f_2_0 L _) at_119_31).trans ?_
    refine (S_getR (ka_3 L _) rfl (f_3_0 L _) at_119_34).trans ?_
    refine (S_getR (ka_4 L _) rfl (f_4_2 L _) at_119_37).trans ?_
    refine (S_iload_n rfl at_119_40).trans ?_
    refine (H_iaload (ka_5 L _) at_119_41).trans ?_
    refine ite_congr rfl (fun hi => ?_) (fun _ => rfl)
    refine (S_iadd at_119_42).trans ?_
    refine (S_istore_n (l1 := [some (jR 2), some (jI x1), some (jI (w32 (x2 + (m 5 x3.toNat)))), some (jI x3)]) rfl at_119_43).trans ?_
    refine (S_iinc (l1 := [some (jR 2), some (jI x1), some (jI (w32 (x2 + (m 5 x3.toNat)))), some (jI (w32 (x3 + 1)))]) rfl rfl at_119_44).trans ?_
    refine (S_goto at_119_47).trans ?_
    rfl
  · refine (S_iload_n rfl at_119_50).trans ?_
    refine (S_i2l at_119_51).trans ?_
    refine (S_aload_n rfl at_119_52).trans ?_
    refine (S_getR (ka_2 L _) rfl (f_2_0 L _) at_119_53).trans ?_
    refine (S_getR (ka_3 L _) rfl (f_3_0 L _) at_119_56).trans ?_
    refine (H_get0 (ka_4 L _) rfl at_119_59).trans ?_
    refine (S_i2l at_119_62).trans ?_
    refine (S_iload_n rfl at_119_63).trans ?_
    refine (S_invs (by decide) (Nat.le_of_ble_eq_true rfl) (Nat.le_of_ble_eq_true rfl) at_119_64).trans ?_
    rfl
theorem T119_67 {C : Nat → List j_V → j_H → Option j_Z} {L : Nat} {m : j_M0} {x1 : Int} {x2 : Int} {x3 : Int} {t0 : Int} : j_fin C 119 67 [some (jR 2), some (jI x1), some (jI x2), some (jI x3)] [jL t0] (hH L m) = some (some (jL t0), hH L m) := by
  exact S_lret rfl at_119_67
theorem T120_0 {C : Nat → List j_V → j_H → Option j_Z} {L : Nat} {m : j_M0} {x1 : Int} {x2 : Int} : j_fin C 120 0 [some (jR 2), some (jI x1), some (jI x2)] [] (hH L m) = if x2 < 1 then some (some (jI (-2)), hH L m) else if 4 < x2 then some (some (jI (-2)), hH L m) else (C 8 [jR 35, jR 4] (hH L m)).bind fun z => j_fin C 120 27 [some (jR 2), some (jI x1), some (jI x2)] (z.1.toList ++ []) z.2 := by
  refine (S_iload_n rfl at_120_0).trans ?_
  refine (S_iconst at_120_1).trans ?_
  refine (S_icmp_lt at_120_2).trans ?_
  refine ite_congr rfl (fun _ => ?_) (fun _ => ?_)
  · refine (S_bipush at_120_10).trans ?_
    exact S_ireti rfl at_120_12
  · refine (S_iload_n rfl at_120_5).trans ?_
    refine (S_iconst at_120_6).trans ?_
    refine (S_icmp_le at_120_7).trans ?_
    refine ite_congr rfl (fun _ => ?_) (fun _ => ?_)
    · refine (S_bipush at_120_10).trans ?_
      exact S_ireti rfl at_120_12
    · refine (S_aload_n rfl at_120_13).trans ?_
      refine (S_getR (ka_2 L _) rfl (f_2_2 L _) at_120_14).trans ?_
      refine (S_aload_n rfl at_120_17).trans ?_
      refine (S_getR (ka_2 L _) rfl (f_2_0 L _) at_120_18).trans ?_
      refine (S_getR (ka_3 L _) rfl (f_3_0 L _) at_120_21).trans ?_
      refine (S_invv (b := 1) kn_8 rfl (ka_35 L _) (Nat.le_of_ble_eq_true rfl) at_120_24).trans ?_
      rfl
theorem T120_27 {C : Nat → List j_V → j_H → Option j_Z} {L : Nat} {m : j_M0} {x1 : Int} {x2 : Int} : j_fin C 120 27 [some (jR 2), some (jI x1), some (jI x2)] [] (hH L m) = (C 18 [jR 35, jI x1, jI x2] (hH L m)).bind fun z => j_fin C 120 36 [some (jR 2), some (jI x1), some (jI x2)] (z.1.toList ++ []) z.2 := by
  refine (S_aload_n rfl at_120_27).trans ?_
  refine (S_getR (ka_2 L _) rfl (f_2_2 L _) at_120_28).trans ?_
  refine (S_iload_n rfl at_120_31).trans ?_
  refine (S_iload_n rfl at_120_32).trans ?_
  refine (S_invv (b := 2) kn_18 rfl (ka_35 L _) (Nat.le_of_ble_eq_true rfl) at_120_33).trans ?_
  rfl
theorem T120_36 {C : Nat → List j_V → j_H → Option j_Z} {L : Nat} {m : j_M0} {x1 : Int} {x2 : Int} : j_fin C 120 36 [some (jR 2), some (jI x1), some (jI x2)] [] (hH L m) = (C 30 [jR 54, jR 35] (hH L m)).bind fun z => j_fin C 120 47 [some (jR 2), some (jI x1), some (jI x2)] (z.1.toList ++ []) z.2 := by
  refine (S_aload_n rfl at_120_36).trans ?_
  refine (S_getR (ka_2 L _) rfl (f_2_4 L _) at_120_37).trans ?_
  refine (S_aload_n rfl at_120_40).trans ?_
  refine (S_getR (ka_2 L _) rfl (f_2_2 L _) at_120_41).trans ?_
  refine (S_invv (b := 1) kn_30 rfl (ka_54 L _) (Nat.le_of_ble_eq_true rfl) at_120_44).trans ?_
  rfl
theorem T120_47 {C : Nat → List j_V → j_H → Option j_Z} {L : Nat} {m : j_M0} {x1 : Int} {x2 : Int} {s0 : Int} : j_fin C 120 47 [some (jR 2), some (jI x1), some (jI x2)] [jI s0] (hH L m) = some (some (jI s0), hH L m) := by
  exact S_ireti rfl at_120_47
theorem T121_0 {C : Nat → List j_V → j_H → Option j_Z} {L : Nat} {m : j_M0} {x1 : Int} {x2 : Int} : j_fin C 121 0 [some (jR 2), some (jI x1), some (jI x2), none, none] [] (hH L m) = (C 138 [jR 2, jI x1] (hH L m)).bind fun z => j_fin C 121 5 [some (jR 2), some (jI x1), some (jI x2), none, none] (z.1.toList ++ []) z.2 := by
  refine (S_aload_n rfl at_121_0).trans ?_
  refine (S_iload_n rfl at_121_1).trans ?_
  refine (S_invv (b := 1) kn_138 rfl (ka_2 L _) (Nat.le_of_ble_eq_true rfl) at_121_2).trans ?_
  rfl
theorem T121_5 {C : Nat → List j_V → j_H → Option j_Z} {L : Nat} {m : j_M0} {x1 : Int} {x2 : Int} {s0 : Int} : j_fin C 121 5 [some (jR 2), some (jI x1), some (jI x2), none, none] [jI s0] (hH L m) = if s0 = 0 then some (some (jI (-2)), hH L m) else if x2 < 0 then some (some (jI (-2)), hH L m) else if 999 < x2 then some (some (jI (-2)), hH L m) else (C 23 [jR 9, jI x1] (hH L m)).bind fun z => j_fin C 121 33 [some (jR 2), some (jI x1), some (jI x2), none, none] (z.1.toList ++ []) z.2 := by
  refine (S_if_eq at_121_5).trans ?_
  refine ite_congr rfl (fun _ => ?_) (fun _ => ?_)
  · refine (S_bipush at_121_19).trans ?_
    exact S_ireti rfl at_121_21
  · refine (S_iload_n rfl at_121_8).trans ?_
    refine (S_if_lt at_121_9).trans ?_
    refine ite_congr rfl (fun _ => ?_) (fun _ => ?_)
    · refine (S_bipush at_121_19).trans ?_
      exact S_ireti rfl at_121_21
    · refine (S_iload_n rfl at_121_12).trans ?_
      refine (S_sipush at_121_13).trans ?_
      refine (S_icmp_le at_121_16).trans ?_
      refine ite_congr rfl (fun _ => ?_) (fun _ => ?_)
      · refine (S_bipush at_121_19).trans ?_
        exact S_ireti rfl at_121_21
      · refine (S_aload_n rfl at_121_22).trans ?_
        refine (S_getR (ka_2 L _) rfl (f_2_0 L _) at_121_23).trans ?_
        refine (S_getR (ka_3 L _) rfl (f_3_1 L _) at_121_26).trans ?_
        refine (S_iload_n rfl at_121_29).trans ?_
        refine (S_invv (b := 1) kn_23 rfl (ka_9 L _) (Nat.le_of_ble_eq_true rfl) at_121_30).trans ?_
        rfl
theorem T121_33 {C : Nat → List j_V → j_H → Option j_Z} {L : Nat} {m : j_M0} {x1 : Int} {x2 : Int} {s0 : Int} : j_fin C 121 33 [some (jR 2), some (jI x1), some (jI x2), none, none] [jI s0] (hH L m) = if s0 < 0 then if (m 9 0) < 20 then (C 14 [jR 4, jI x1] (hH L m)).bind fun z => j_fin C 121 105 [some (jR 2), some (jI x1), some (jI x2), some (jI s0), none] (z.1.toList ++ [jI x1, jR 9]) z.2 else some (some (jI (-4)), hH L m) else if 0 ≤ s0 ∧ s0 < 20 then if 0 ≤ s0 ∧ s0 < 20 then some (some (jI (m 12 s0.toNat)), hH L (j_up m 12 s0.toNat x2)) else none else none := by
  refine (S_istore_n (l1 := [some (jR 2), some (jI x1), some (jI x2), some (jI s0), none]) rfl at_121_33).trans ?_
  refine (S_iload_n rfl at_121_34).trans ?_
  refine (S_if_lt at_121_35).trans ?_
  refine ite_congr rfl (fun _ => ?_) (fun _ => ?_)
  · refine (S_aload_n rfl at_121_68).trans ?_
    refine (S_getR (ka_2 L _) rfl (f_2_0 L _) at_121_69).trans ?_
    refine (S_getR (ka_3 L _) rfl (f_3_1 L _) at_121_72).trans ?_
    refine (H_get0 (ka_9 L _) rfl at_121_75).trans ?_
    refine (S_bipush at_121_78).trans ?_
    refine (S_icmp_lt at_121_80).trans ?_
    refine ite_congr rfl (fun _ => ?_) (fun _ => ?_)
    · refine (S_aload_n rfl at_121_86).trans ?_
      refine (S_getR (ka_2 L _) rfl (f_2_0 L _) at_121_87).trans ?_
      refine (S_getR (ka_3 L _) rfl (f_3_1 L _) at_121_90).trans ?_
      refine (S_iload_n rfl at_121_93).trans ?_
      refine (S_aload_n rfl at_121_94).trans ?_
      refine (S_getR (ka_2 L _) rfl (f_2_0 L _) at_121_95).trans ?_
      refine (S_getR (ka_3 L _) rfl (f_3_0 L _) at_121_98).trans ?_
      refine (S_iload_n rfl at_121_101).trans ?_
      refine (S_invv (b := 1) kn_14 rfl (ka_4 L _) (Nat.le_of_ble_eq_true rfl) at_121_102).trans ?_
      rfl
    · refine (S_bipush at_121_83).trans ?_
      exact S_ireti rfl at_121_85
  · refine (S_aload_n rfl at_121_38).trans ?_
    refine (S_getR (ka_2 L _) rfl (f_2_0 L _) at_121_39).trans ?_
    refine (S_getR (ka_3 L _) rfl (f_3_1 L _) at_121_42).trans ?_
    refine (S_getR (ka_9 L _) rfl (f_9_3 L _) at_121_45).trans ?_
    refine (S_iload_n rfl at_121_48).trans ?_
    refine (H_iaload (ka_12 L _) at_121_49).trans ?_
    refine ite_congr rfl (fun hi => ?_) (fun _ => rfl)
    refine (S_istore (l1 := [some (jR 2), some (jI x1), some (jI x2), some (jI s0), some (jI (m 12 s0.toNat))]) rfl at_121_50).trans ?_
    refine (S_aload_n rfl at_121_52).trans ?_
    refine (S_getR (ka_2 L _) rfl (f_2_0 L _) at_121_53).trans ?_
    refine (S_getR (ka_3 L _) rfl (f_3_1 L _) at_121_56).trans ?_
    refine (S_getR (ka_9 L _) rfl (f_9_3 L _) at_121_59).trans ?_
    refine (S_iload_n rfl at_121_62).trans ?_
    refine (S_iload_n rfl at_121_63).trans ?_
    refine (H_iastore (by omega) (ka_12 L _) at_121_64).trans ?_
    refine ite_congr rfl (fun hi => ?_) (fun _ => rfl)
    refine (S_iload rfl at_121_65).trans ?_
    exact S_ireti rfl at_121_67
theorem T121_105 {C : Nat → List j_V → j_H → Option j_Z} {L : Nat} {m : j_M0} {x1 : Int} {x2 : Int} {x3 : Int} {s1 : Int} {s2 : Int} : j_fin C 121 105 [some (jR 2), some (jI x1), some (jI x2), some (jI x3), none] [jI s2, jI s1, jR 9] (hH L m) = (C 25 [jR 9, jI s1, jI s2, jI x2] (hH L m)).bind fun z => j_fin C 121 109 [some (jR 2), some (jI x1), some (jI x2), some (jI x3), none] (z.1.toList ++ []) z.2 := by
  refine (S_iload_n rfl at_121_105).trans ?_
  refine (S_invv (b := 3) kn_25 rfl (ka_9 L _) (Nat.le_of_ble_eq_true rfl) at_121_106).trans ?_
  rfl
theorem T121_109 {C : Nat → List j_V → j_H → Option j_Z} {L : Nat} {m : j_M0} {x1 : Int} {x2 : Int} {x3 : Int} : j_fin C 121 109 [some (jR 2), some (jI x1), some (jI x2), some (jI x3), none] [] (hH L m) = some (some (jI (-5)), hH L m) := by
  refine (S_bipush at_121_109).trans ?_
  exact S_ireti rfl at_121_111
theorem T122_0 {C : Nat → List j_V → j_H → Option j_Z} {L : Nat} {m : j_M0} {x1 : Int} {x2 : Int} : j_fin C 122 0 [some (jR 2), some (jI x1), some (jI x2)] [] (hH L m) = if x2 < 0 then some (some (jI (-1)), hH L m) else if 2 < x2 then some (some (jI (-1)), hH L m) else if x1 < 0 then some (some (jI (-2)), hH L m) else if x1 < (m 9 0) then if x2 = 0 then if 0 ≤ x1 ∧ x1 < 20 then some (some (jI (m 10 x1.toNat)), hH L m) else none else if x2 = 1 then if 0 ≤ x1 ∧ x1 < 20 then some (some (jI (m 12 x1.toNat)), hH L m) else none else if 0 ≤ x1 ∧ x1 < 20 then some (some (jI (m 11 x1.toNat)), hH L m) else none else some (some (jI (-2)), hH L m) := by
  refine (S_iload_n rfl at_122_0).trans ?_
  refine (S_if_lt at_122_1).trans ?_
  refine ite_congr rfl (fun _ => ?_) (fun _ => ?_)
  · refine (S_iconst at_122_9).trans ?_
    exact S_ireti rfl at_122_10
  · refine (S_iload_n rfl at_122_4).trans ?_
    refine (S_iconst at_122_5).trans ?_
    refine (S_icmp_le at_122_6).trans ?_
    refine ite_congr rfl (fun _ => ?_) (fun _ => ?_)
    · refine (S_iconst at_122_9).trans ?_
      exact S_ireti rfl at_122_10
    · refine (S_iload_n rfl at_122_11).trans ?_
      refine (S_if_lt at_122_12).trans ?_
      refine ite_congr rfl (fun _ => ?_) (fun _ => ?_)
      · refine (S_bipush at_122_29).trans ?_
        exact S_ireti rfl at_122_31
      · refine (S_iload_n rfl at_122_15).trans ?_
        refine (S_aload_n rfl at_122_16).trans ?_
        refine (S_getR (ka_2 L _) rfl (f_2_0 L _) at_122_17).trans ?_
        refine (S_getR (ka_3 L _) rfl (f_3_1 L _) at_122_20).trans ?_
        refine (H_get0 (ka_9 L _) rfl at_122_23).trans ?_
        refine (S_icmp_lt at_122_26).trans ?_
        refine ite_congr rfl (fun _ => ?_) (fun _ => ?_)
        · refine (S_iload_n rfl at_122_32).trans ?_
          refine (S_if_ne at_122_33).trans ?_
          refine ite_congr rfl (fun _ => ?_) (fun _ => ?_)
          · refine (S_aload_n rfl at_122_36).trans ?_
            refine (S_getR (ka_2 L _) rfl (f_2_0 L _) at_122_37).trans ?_
            refine (S_getR (ka_3 L _) rfl (f_3_1 L _) at_122_40).trans ?_
            refine (S_getR (ka_9 L _) rfl (f_9_1 L _) at_122_43).trans ?_
            refine (S_iload_n rfl at_122_46).trans ?_
            refine (H_iaload (ka_10 L _) at_122_47).trans ?_
            refine ite_congr rfl (fun hi => ?_) (fun _ => rfl)
            exact S_ireti rfl at_122_48
          · refine (S_iload_n rfl at_122_49).trans ?_
            refine (S_iconst at_122_50).trans ?_
            refine (S_icmp_ne at_122_51).trans ?_
            refine ite_congr rfl (fun _ => ?_) (fun _ => ?_)
            · refine (S_aload_n rfl at_122_54).trans ?_
              refine (S_getR (ka_2 L _) rfl (f_2_0 L _) at_122_55).trans ?_
              refine (S_getR (ka_3 L _) rfl (f_3_1 L _) at_122_58).trans ?_
              refine (S_getR (ka_9 L _) rfl (f_9_3 L _) at_122_61).trans ?_
              refine (S_iload_n rfl at_122_64).trans ?_
              refine (H_iaload (ka_12 L _) at_122_65).trans ?_
              refine ite_congr rfl (fun hi => ?_) (fun _ => rfl)
              refine (S_goto at_122_66).trans ?_
              exact S_ireti rfl at_122_81
            · refine (S_aload_n rfl at_122_69).trans ?_
              refine (S_getR (ka_2 L _) rfl (f_2_0 L _) at_122_70).trans ?_
              refine (S_getR (ka_3 L _) rfl (f_3_1 L _) at_122_73).trans ?_
              refine (S_getR (ka_9 L _) rfl (f_9_2 L _) at_122_76).trans ?_
              refine (S_iload_n rfl at_122_79).trans ?_
              refine (H_iaload (ka_11 L _) at_122_80).trans ?_
              refine ite_congr rfl (fun hi => ?_) (fun _ => rfl)
              exact S_ireti rfl at_122_81
        · refine (S_bipush at_122_29).trans ?_
          exact S_ireti rfl at_122_31
theorem T123_0 {C : Nat → List j_V → j_H → Option j_Z} {L : Nat} {m : j_M0} {x1 : Int} : j_fin C 123 0 [some (jR 2), some (jI x1), none, none] [] (hH L m) = j_fin C 123 5 [some (jR 2), some (jI x1), some (jI (-5)), some (jI 0)] [] (hH L m) := by
  refine (S_bipush at_123_0).trans ?_
  refine (S_istore_n (l1 := [some (jR 2), some (jI x1), some (jI (-5)), none]) rfl at_123_2).trans ?_
  refine (S_iconst at_123_3).trans ?_
  refine (S_istore_n (l1 := [some (jR 2), some (jI x1), some (jI (-5)), some (jI 0)]) rfl at_123_4).trans ?_
  rfl
theorem T123_5 {C : Nat → List j_V → j_H → Option j_Z} {L : Nat} {m : j_M0} {x1 : Int} {x2 : Int} {x3 : Int} : j_fin C 123 5 [some (jR 2), some (jI x1), some (jI x2), some (jI x3)] [] (hH L m) = if x3 < (m 9 0) then if 0 ≤ x3 ∧ x3 < 20 then if x1 < (m 11 x3.toNat) then j_fin C 123 5 [some (jR 2), some (jI x1), some (jI x2), some (jI (w32 (x3 + 1)))] [] (hH L m) else if 0 ≤ x3 ∧ x3 < 20 then j_fin C 123 5 [some (jR 2), some (jI x1), some (jI (m 10 x3.toNat)), some (jI (w32 (x3 + 1)))] [] (hH L m) else none else none else some (some (jI x2), hH L m) := by
  refine (S_iload_n rfl at_123_5).trans ?_
  refine (S_aload_n rfl at_123_6).trans ?_
  refine (S_getR (ka_2 L _) rfl (f_2_0 L _) at_123_7).trans ?_
  refine (S_getR (ka_3 L _) rfl (f_3_1 L _) at_123_10).trans ?_
  refine (H_get0 (ka_9 L _) rfl at_123_13).trans ?_
  refine (S_icmp_ge at_123_16).trans ?_
  refine ite_congr rfl (fun _ => ?_) (fun _ => ?_)
  · refine (S_aload_n rfl at_123_19).trans ?_
    refine (S_getR (ka_2 L _) rfl (f_2_0 L _) at_123_20).trans ?_
    refine (S_getR (ka_3 L _) rfl (f_3_1 L _) at_123_23).trans ?_
    refine (S_getR (ka_9 L _) rfl (f_9_2 L _) at_123_26).trans ?_
    refine (S_iload_n rfl at_123_29).trans ?_
    refine (H_iaload (ka_11 L _) at_123_30).trans ?_
    refine ite_congr rfl (fun hi => ?_) (fun _ => rfl)
    refine (S_iload_n rfl at_123_31).trans ?_
    refine (S_icmp_gt at_123_32).trans ?_
    refine ite_congr rfl (fun _ => ?_) (fun _ => ?_)
    · refine (S_iinc (l1 := [some (jR 2), some (jI x1), some (jI x2), some (jI (w32 (x3 + 1)))]) rfl rfl at_123_48).trans ?_
      refine (S_goto at_123_51).trans ?_
      rfl
    · refine (S_aload_n rfl at_123_35).trans ?_
      refine (S_getR (ka_2 L _) rfl (f_2_0 L _) at_123_36).trans ?_
      refine (S_getR (ka_3 L _) rfl (f_3_1 L _) at_123_39).trans ?_
      refine (S_getR (ka_9 L _) rfl (f_9_1 L _) at_123_42).trans ?_
      refine (S_iload_n rfl at_123_45).trans ?_
      refine (H_iaload (ka_10 L _) at_123_46).trans ?_
      refine ite_congr rfl (fun hi => ?_) (fun _ => rfl)
      refine (S_istore_n (l1 := [some (jR 2), some (jI x1), some (jI (m 10 x3.toNat)), some (jI x3)]) rfl at_123_47).trans ?_
      refine (S_iinc (l1 := [some (jR 2), some (jI x1), some (jI (m 10 x3.toNat)), some (jI (w32 (x3 + 1)))]) rfl rfl at_123_48).trans ?_
      refine (S_goto at_123_51).trans ?_
      rfl
  · refine (S_iload_n rfl at_123_54).trans ?_
    exact S_ireti rfl at_123_55
theorem T124_0 {C : Nat → List j_V → j_H → Option j_Z} {L : Nat} {m : j_M0} : j_fin C 124 0 [some (jR 2), none, none] [] (hH L m) = j_fin C 124 4 [some (jR 2), some (jI (-1)), some (jI 0)] [] (hH L m) := by
  refine (S_iconst at_124_0).trans ?_
  refine (S_istore_n (l1 := [some (jR 2), some (jI (-1)), none]) rfl at_124_1).trans ?_
  refine (S_iconst at_124_2).trans ?_
  refine (S_istore_n (l1 := [some (jR 2), some (jI (-1)), some (jI 0)]) rfl at_124_3).trans ?_
  rfl
theorem T124_4 {C : Nat → List j_V → j_H → Option j_Z} {L : Nat} {m : j_M0} {x1 : Int} {x2 : Int} : j_fin C 124 4 [some (jR 2), some (jI x1), some (jI x2)] [] (hH L m) = if x2 < (m 9 0) then if x1 < 0 then j_fin C 124 4 [some (jR 2), some (jI x2), some (jI (w32 (x2 + 1)))] [] (hH L m) else (C 24 [jR 9, jI x2] (hH L m)).bind fun z => j_fin C 124 33 [some (jR 2), some (jI x1), some (jI x2)] (z.1.toList ++ []) z.2 else if x1 < 0 then some (some (jI (-5)), hH L m) else if 0 ≤ x1 ∧ x1 < 20 then some (some (jI (m 10 x1.toNat)), hH L m) else none := by
  refine (S_iload_n rfl at_124_4).trans ?_
  refine (S_aload_n rfl at_124_5).trans ?_
  refine (S_getR (ka_2 L _) rfl (f_2_0 L _) at_124_6).trans ?_
  refine (S_getR (ka_3 L _) rfl (f_3_1 L _) at_124_9).trans ?_
  refine (H_get0 (ka_9 L _) rfl at_124_12).trans ?_
  refine (S_icmp_ge at_124_15).trans ?_
  refine ite_congr rfl (fun _ => ?_) (fun _ => ?_)
  · refine (S_iload_n rfl at_124_18).trans ?_
    refine (S_if_lt at_124_19).trans ?_
    refine ite_congr rfl (fun _ => ?_) (fun _ => ?_)
    · refine (S_iload_n rfl at_124_47).trans ?_
      refine (S_istore_n (l1 := [some (jR 2), some (jI x2), some (jI x2)]) rfl at_124_48).trans ?_
      refine (S_iinc (l1 := [some (jR 2), some (jI x2), some (jI (w32 (x2 + 1)))]) rfl rfl at_124_49).trans ?_
      refine (S_goto at_124_52).trans ?_
      rfl
    · refine (S_aload_n rfl at_124_22).trans ?_
      refine (S_getR (ka_2 L _) rfl (f_2_0 L _) at_124_23).trans ?_
      refine (S_getR (ka_3 L _) rfl (f_3_1 L _) at_124_26).trans ?_
      refine (S_iload_n rfl at_124_29).trans ?_
      refine (S_invv (b := 1) kn_24 rfl (ka_9 L _) (Nat.le_of_ble_eq_true rfl) at_124_30).trans ?_
      rfl
  · refine (S_iload_n rfl at_124_55).trans ?_
    refine (S_if_ge at_124_56).trans ?_
    refine ite_congr rfl (fun _ => ?_) (fun _ => ?_)
    · refine (S_bipush at_124_59).trans ?_
      refine (S_goto at_124_61).trans ?_
      exact S_ireti rfl at_124_76
    · refine (S_aload_n rfl at_124_64).trans ?_
      refine (S_getR (ka_2 L _) rfl (f_2_0 L _) at_124_65).trans ?_
      refine (S_getR (ka_3 L _) rfl (f_3_1 L _) at_124_68).trans ?_
      refine (S_getR (ka_9 L _) rfl (f_9_1 L _) at_124_71).trans ?_
      refine (S_iload_n rfl at_124_74).trans ?_
      refine (H_iaload (ka_10 L _) at_124_75).trans ?_
      refine ite_congr rfl (fun hi => ?_) (fun _ => rfl)
      exact S_ireti rfl at_124_76
theorem T124_33 {C : Nat → List j_V → j_H → Option j_Z} {L : Nat} {m : j_M0} {x1 : Int} {x2 : Int} {s0 : Int} : j_fin C 124 33 [some (jR 2), some (jI x1), some (jI x2)] [jI s0] (hH L m) = (C 24 [jR 9, jI x1] (hH L m)).bind fun z => j_fin C 124 44 [some (jR 2), some (jI x1), some (jI x2)] (z.1.toList ++ [jI s0]) z.2 := by
  refine (S_aload_n rfl at_124_33).trans ?_
  refine (S_getR (ka_2 L _) rfl (f_2_0 L _) at_124_34).trans ?_
  refine (S_getR (ka_3 L _) rfl (f_3_1 L _) at_124_37).trans ?_
  refine (S_iload_n rfl at_124_40).trans ?_
  refine (S_invv (b := 1) kn_24 rfl (ka_9 L _) (Nat.le_of_ble_eq_true rfl) at_124_41).trans ?_
  rfl
theorem T124_44 {C : Nat → List j_V → j_H → Option j_Z} {L : Nat} {m : j_M0} {x1 : Int} {x2 : Int} {s0 : Int} {s1 : Int} : j_fin C 124 44 [some (jR 2), some (jI x1), some (jI x2)] [jI s1, jI s0] (hH L m) = if s1 < s0 then j_fin C 124 4 [some (jR 2), some (jI x2), some (jI (w32 (x2 + 1)))] [] (hH L m) else j_fin C 124 4 [some (jR 2), some (jI x1), some (jI (w32 (x2 + 1)))] [] (hH L m) := by
  refine (S_icmp_le at_124_44).trans ?_
  refine ite_congr rfl (fun _ => ?_) (fun _ => ?_)
  · refine (S_iload_n rfl at_124_47).trans ?_
    refine (S_istore_n (l1 := [some (jR 2), some (jI x2), some (jI x2)]) rfl at_124_48).trans ?_
    refine (S_iinc (l1 := [some (jR 2), some (jI x2), some (jI (w32 (x2 + 1)))]) rfl rfl at_124_49).trans ?_
    refine (S_goto at_124_52).trans ?_
    rfl
  · refine (S_iinc (l1 := [some (jR 2), some (jI x1), some (jI (w32 (x2 + 1)))]) rfl rfl at_124_49).trans ?_
    refine (S_goto at_124_52).trans ?_
    rfl
theorem T125_0 {C : Nat → List j_V → j_H → Option j_Z} {L : Nat} {m : j_M0} {x1 : Int} {x2 : Int} {x3 : Int} : j_fin C 125 0 [some (jR 2), some (jI x1), some (jI x2), some (jI x3)] [] (hH L m) = if x1 = (-1) then some (some (jI 0), hH L (j_up m 3 8 0)) else if x1 < 0 then some (some (jI (-1)), hH L m) else if 2 < x1 then some (some (jI (-1)), hH L m) else if x1 = 1 then (C 135 [jR 2, jI x2] (hH L m)).bind fun z => j_fin C 125 36 [some (jR 2), some (jI x1), some (jI x2), some (jI x3)] (z.1.toList ++ []) z.2 else (C 136 [jR 2, jI x2] (hH L m)).bind fun z => j_fin C 125 47 [some (jR 2), some (jI x1), some (jI x2), some (jI x3)] (z.1.toList ++ []) z.2 := by
  refine (S_iload_n rfl at_125_0).trans ?_
  refine (S_iconst at_125_1).trans ?_
  refine (S_icmp_ne at_125_2).trans ?_
  refine ite_congr rfl (fun _ => ?_) (fun _ => ?_)
  · refine (S_aload_n rfl at_125_5).trans ?_
    refine (S_getR (ka_2 L _) rfl (f_2_0 L _) at_125_6).trans ?_
    refine (S_iconst at_125_9).trans ?_
    refine (H_put0 (ka_3 L _) rfl at_125_10).trans ?_
    refine (S_iconst at_125_13).trans ?_
    exact S_ireti rfl at_125_14
  · refine (S_iload_n rfl at_125_15).trans ?_
    refine (S_if_lt at_125_16).trans ?_
    refine ite_congr rfl (fun _ => ?_) (fun _ => ?_)
    · refine (S_iconst at_125_24).trans ?_
      exact S_ireti rfl at_125_25
    · refine (S_iload_n rfl at_125_19).trans ?_
      refine (S_iconst at_125_20).trans ?_
      refine (S_icmp_le at_125_21).trans ?_
      refine ite_congr rfl (fun _ => ?_) (fun _ => ?_)
      · refine (S_iconst at_125_24).trans ?_
        exact S_ireti rfl at_125_25
      · refine (S_iload_n rfl at_125_26).trans ?_
        refine (S_iconst at_125_27).trans ?_
        refine (S_icmp_ne at_125_28).trans ?_
        refine ite_congr rfl (fun _ => ?_) (fun _ => ?_)
        · refine (S_aload_n rfl at_125_31).trans ?_
          refine (S_iload_n rfl at_125_32).trans ?_
          refine (S_invv (b := 1) kn_135 rfl (ka_2 L _) (Nat.le_of_ble_eq_true rfl) at_125_33).trans ?_
          rfl
        · refine (S_aload_n rfl at_125_42).trans ?_
          refine (S_iload_n rfl at_125_43).trans ?_
          refine (S_invv (b := 1) kn_136 rfl (ka_2 L _) (Nat.le_of_ble_eq_true rfl) at_125_44).trans ?_
          rfl
theorem T125_36 {C : Nat → List j_V → j_H → Option j_Z} {L : Nat} {m : j_M0} {x1 : Int} {x2 : Int} {x3 : Int} {s0 : Int} : j_fin C 125 36 [some (jR 2), some (jI x1), some (jI x2), some (jI x3)] [jI s0] (hH L m) = if s0 = 0 then some (some (jI (-1)), hH L m) else (C 143 [jI x1, jI x3] (hH L m)).bind fun z => j_fin C 125 57 [some (jR 2), some (jI x1), some (jI x2), some (jI x3)] (z.1.toList ++ []) z.2 := by
  refine (S_if_ne at_125_36).trans ?_
  refine ite_congr rfl (fun _ => ?_) (fun _ => ?_)
  · refine (S_goto at_125_39).trans ?_
    refine (S_iconst at_125_50).trans ?_
    exact S_ireti rfl at_125_51
  · refine (S_iload_n rfl at_125_52).trans ?_
    refine (S_iload_n rfl at_125_53).trans ?_
    refine (S_invs (by decide) (Nat.le_of_ble_eq_true rfl) (Nat.le_of_ble_eq_true rfl) at_125_54).trans ?_
    rfl
theorem T125_47 {C : Nat → List j_V → j_H → Option j_Z} {L : Nat} {m : j_M0} {x1 : Int} {x2 : Int} {x3 : Int} {s0 : Int} : j_fin C 125 47 [some (jR 2), some (jI x1), some (jI x2), some (jI x3)] [jI s0] (hH L m) = if s0 = 0 then some (some (jI (-1)), hH L m) else (C 143 [jI x1, jI x3] (hH L m)).bind fun z => j_fin C 125 57 [some (jR 2), some (jI x1), some (jI x2), some (jI x3)] (z.1.toList ++ []) z.2 := by
  refine (S_if_ne at_125_47).trans ?_
  refine ite_congr rfl (fun _ => ?_) (fun _ => ?_)
  · refine (S_iconst at_125_50).trans ?_
    exact S_ireti rfl at_125_51
  · refine (S_iload_n rfl at_125_52).trans ?_
    refine (S_iload_n rfl at_125_53).trans ?_
    refine (S_invs (by decide) (Nat.le_of_ble_eq_true rfl) (Nat.le_of_ble_eq_true rfl) at_125_54).trans ?_
    rfl
theorem T125_57 {C : Nat → List j_V → j_H → Option j_Z} {L : Nat} {m : j_M0} {x1 : Int} {x2 : Int} {x3 : Int} {s0 : Int} : j_fin C 125 57 [some (jR 2), some (jI x1), some (jI x2), some (jI x3)] [jI s0] (hH L m) = if s0 = 0 then some (some (jI (-2)), hH L m) else if (m 3 8) < 8 then (C 35 [jR 3, jI x1, jI x2, jI x3] (hH L m)).bind fun z => j_fin C 125 88 [some (jR 2), some (jI x1), some (jI x2), some (jI x3)] (z.1.toList ++ []) z.2 else some (some (jI (-4)), hH L m) := by
  refine (S_if_ne at_125_57).trans ?_
  refine ite_congr rfl (fun _ => ?_) (fun _ => ?_)
  · refine (S_bipush at_125_60).trans ?_
    exact S_ireti rfl at_125_62
  · refine (S_aload_n rfl at_125_63).trans ?_
    refine (S_getR (ka_2 L _) rfl (f_2_0 L _) at_125_64).trans ?_
    refine (H_get0 (ka_3 L _) rfl at_125_67).trans ?_
    refine (S_bipush at_125_70).trans ?_
    refine (S_icmp_lt at_125_72).trans ?_
    refine ite_congr rfl (fun _ => ?_) (fun _ => ?_)
    · refine (S_aload_n rfl at_125_78).trans ?_
      refine (S_getR (ka_2 L _) rfl (f_2_0 L _) at_125_79).trans ?_
      refine (S_iload_n rfl at_125_82).trans ?_
      refine (S_iload_n rfl at_125_83).trans ?_
      refine (S_iload_n rfl at_125_84).trans ?_
      refine (S_invv (b := 3) kn_35 rfl (ka_3 L _) (Nat.le_of_ble_eq_true rfl) at_125_85).trans ?_
      rfl
    · refine (S_bipush at_125_75).trans ?_
      exact S_ireti rfl at_125_77
theorem T125_88 {C : Nat → List j_V → j_H → Option j_Z} {L : Nat} {m : j_M0} {x1 : Int} {x2 : Int} {x3 : Int} : j_fin C 125 88 [some (jR 2), some (jI x1), some (jI x2), some (jI x3)] [] (hH L m) = some (some (jI (m 3 8)), hH L m) := by
  refine (S_aload_n rfl at_125_88).trans ?_
  refine (S_getR (ka_2 L _) rfl (f_2_0 L _) at_125_89).trans ?_
  refine (H_get0 (ka_3 L _) rfl at_125_92).trans ?_
  exact S_ireti rfl at_125_95
theorem T126_0 {C : Nat → List j_V → j_H → Option j_Z} {L : Nat} {m : j_M0} : j_fin C 126 0 [some (jR 2), none] [] (hH L m) = (C 8 [jR 35, jR 4] (hH L m)).bind fun z => j_fin C 126 14 [some (jR 2), none] (z.1.toList ++ []) z.2 := by
  refine (S_aload_n rfl at_126_0).trans ?_
  refine (S_getR (ka_2 L _) rfl (f_2_2 L _) at_126_1).trans ?_
  refine (S_aload_n rfl at_126_4).trans ?_
  refine (S_getR (ka_2 L _) rfl (f_2_0 L _) at_126_5).trans ?_
  refine (S_getR (ka_3 L _) rfl (f_3_0 L _) at_126_8).trans ?_
  refine (S_invv (b := 1) kn_8 rfl (ka_35 L _) (Nat.le_of_ble_eq_true rfl) at_126_11).trans ?_
  rfl
theorem T126_14 {C : Nat → List j_V → j_H → Option j_Z} {L : Nat} {m : j_M0} : j_fin C 126 14 [some (jR 2), none] [] (hH L m) = j_fin C 126 16 [some (jR 2), some (jI 0)] [] (hH L m) := by
  refine (S_iconst at_126_14).trans ?_
  refine (S_istore_n (l1 := [some (jR 2), some (jI 0)]) rfl at_126_15).trans ?_
  rfl
theorem T126_16 {C : Nat → List j_V → j_H → Option j_Z} {L : Nat} {m : j_M0} {x1 : Int} : j_fin C 126 16 [some (jR 2), some (jI x1)] [] (hH L m) = if x1 < (m 3 8) then if 0 ≤ x1 ∧ x1 < 8 then if 0 ≤ x1 ∧ x1 < 8 then if 0 ≤ x1 ∧ x1 < 8 then (C 17 [jR 35, jI (m 16 x1.toNat), jI (m 17 x1.toNat), jI (m 18 x1.toNat)] (hH L m)).bind fun z => j_fin C 126 61 [some (jR 2), some (jI x1)] (z.1.toList ++ []) z.2 else none else none else none else (C 30 [jR 54, jR 35] (hH L m)).bind fun z => j_fin C 126 78 [some (jR 2), some (jI x1)] (z.1.toList ++ []) z.2 := by
  refine (S_iload_n rfl at_126_16).trans ?_
  refine (S_aload_n rfl at_126_17).trans ?_
  refine (S_getR (ka_2 L _) rfl (f_2_0 L _) at_126_18).trans ?_
  refine (H_get0 (ka_3 L _) rfl at_126_21).trans ?_
  refine (S_icmp_ge at_126_24).trans ?_
  refine ite_congr rfl (fun _ => ?_) (fun _ => ?_)
  · refine (S_aload_n rfl at_126_27).trans ?_
    refine (S_getR (ka_2 L _) rfl (f_2_2 L _) at_126_28).trans ?_
    refine (S_aload_n rfl at_126_31).trans ?_
    refine (S_getR (ka_2 L _) rfl (f_2_0 L _) at_126_32).trans ?_
    refine (S_getR (ka_3 L _) rfl (f_3_9 L _) at_126_35).trans ?_
    refine (S_iload_n rfl at_126_38).trans ?_
    refine (H_iaload (ka_16 L _) at_126_39).trans ?_
    refine ite_congr rfl (fun hi => ?_) (fun _ => rfl)
    refine (S_aload_n rfl at_126_40).trans ?_
    refine (S_getR (ka_2 L _) rfl (f_2_0 L _) at_126_41).trans ?_
    refine (S_getR (ka_3 L _) rfl (f_3_10 L _) at_126_44).trans ?_
    refine (S_iload_n rfl at_126_47).trans ?_
    refine (H_iaload (ka_17 L _) at_126_48).trans ?_
    refine ite_congr rfl (fun hi => ?_) (fun _ => rfl)
    refine (S_aload_n rfl at_126_49).trans ?_
    refine (S_getR (ka_2 L _) rfl (f_2_0 L _) at_126_50).trans ?_
    refine (S_getR (ka_3 L _) rfl (f_3_11 L _) at_126_53).trans ?_
    refine (S_iload_n rfl at_126_56).trans ?_
    refine (H_iaload (ka_18 L _) at_126_57).trans ?_
    refine ite_congr rfl (fun hi => ?_) (fun _ => rfl)
    refine (S_invv (b := 3) kn_17 rfl (ka_35 L _) (Nat.le_of_ble_eq_true rfl) at_126_58).trans ?_
    rfl
  · refine (S_aload_n rfl at_126_67).trans ?_
    refine (S_getR (ka_2 L _) rfl (f_2_4 L _) at_126_68).trans ?_
    refine (S_aload_n rfl at_126_71).trans ?_
    refine (S_getR (ka_2 L _) rfl (f_2_2 L _) at_126_72).trans ?_
    refine (S_invv (b := 1) kn_30 rfl (ka_54 L _) (Nat.le_of_ble_eq_true rfl) at_126_75).trans ?_
    rfl
theorem T126_61 {C : Nat → List j_V → j_H → Option j_Z} {L : Nat} {m : j_M0} {x1 : Int} : j_fin C 126 61 [some (jR 2), some (jI x1)] [] (hH L m) = j_fin C 126 16 [some (jR 2), some (jI (w32 (x1 + 1)))] [] (hH L m) := by
  refine (S_iinc (l1 := [some (jR 2), some (jI (w32 (x1 + 1)))]) rfl rfl at_126_61).trans ?_
  refine (S_goto at_126_64).trans ?_
  rfl
theorem T126_78 {C : Nat → List j_V → j_H → Option j_Z} {L : Nat} {m : j_M0} {x1 : Int} {s0 : Int} : j_fin C 126 78 [some (jR 2), some (jI x1)] [jI s0] (hH L m) = some (some (jI s0), hH L m) := by
  exact S_ireti rfl at_126_78
theorem T127_0 {C : Nat → List j_V → j_H → Option j_Z} {L : Nat} {m : j_M0} {x1 : Int} {x2 : Int} : j_fin C 127 0 [some (jR 2), some (jI x1), some (jI x2), none, none] [] (hH L m) = (C 142 [jI x1] (hH L m)).bind fun z => j_fin C 127 4 [some (jR 2), some (jI x1), some (jI x2), none, none] (z.1.toList ++ []) z.2 := by
  refine (S_iload_n rfl at_127_0).trans ?_
  refine (S_invs (by decide) (Nat.le_of_ble_eq_true rfl) (Nat.le_of_ble_eq_true rfl) at_127_1).trans ?_
  rfl
theorem T127_4 {C : Nat → List j_V → j_H → Option j_Z} {L : Nat} {m : j_M0} {x1 : Int} {x2 : Int} {s0 : Int} : j_fin C 127 4 [some (jR 2), some (jI x1), some (jI x2), none, none] [jI s0] (hH L m) = if s0 = 0 then some (some (jI (-1)), hH L m) else if 0 ≤ x1 ∧ x1 < 6 then if (m 99 x1.toNat) = 2 then if (m 2 11) = 0 then some (some (jI (-3)), hH L m) else if (m 40 2) = 1 then if 0 ≤ x1 ∧ x1 < 6 then if (m 99 x1.toNat) = (-1) then j_fin C 127 108 [some (jR 2), some (jI x1), some (jI x2), some (jI 0), some (jI 0)] [] (hH L m) else if x2 < 0 then j_fin C 127 108 [some (jR 2), some (jI x1), some (jI x2), some (jI 0), some (jI 0)] [] (hH L m) else if 0 ≤ x1 ∧ x1 < 6 then if (m 100 x1.toNat) < x2 then j_fin C 127 108 [some (jR 2), some (jI x1), some (jI x2), some (jI 0), some (jI 0)] [] (hH L m) else if 0 ≤ x1 ∧ x1 < 6 then j_fin C 127 108 [some (jR 2), some (jI x1), some (jI x2), some (jI (w32 ((m 100 x1.toNat) - x2))), some (jI 0)] [] (hH L m) else none else none else none else some (some (jI (-3)), hH L m) else if 0 ≤ x1 ∧ x1 < 6 then if (m 99 x1.toNat) = (-1) then if (m 2 11) = 0 then some (some (jI (-3)), hH L m) else if (m 40 2) = 1 then if 0 ≤ x1 ∧ x1 < 6 then if (m 99 x1.toNat) = (-1) then j_fin C 127 108 [some (jR 2), some (jI x1), some (jI x2), some (jI 0), some (jI 0)] [] (hH L m) else if x2 < 0 then j_fin C 127 108 [some (jR 2), some (jI x1), some (jI x2), some (jI 0), some (jI 0)] [] (hH L m) else if 0 ≤ x1 ∧ x1 < 6 then if (m 100 x1.toNat) < x2 then j_fin C 127 108 [some (jR 2), some (jI x1), some (jI x2), some (jI 0), some (jI 0)] [] (hH L m) else if 0 ≤ x1 ∧ x1 < 6 then j_fin C 127 108 [some (jR 2), some (jI x1), some (jI x2), some (jI (w32 ((m 100 x1.toNat) - x2))), some (jI 0)] [] (hH L m) else none else none else none else some (some (jI (-3)), hH L m) else some (some (jI (-12)), hH L m) else none else none := by
  refine (S_if_ne at_127_4).trans ?_
  refine ite_congr rfl (fun _ => ?_) (fun _ => ?_)
  · refine (S_iconst at_127_7).trans ?_
    exact S_ireti rfl at_127_8
  · refine (S_aload_n rfl at_127_9).trans ?_
    refine (S_getR (ka_2 L _) rfl (f_2_9 L _) at_127_10).trans ?_
    refine (S_getR (ka_98 L _) rfl (f_98_0 L _) at_127_13).trans ?_
    refine (S_iload_n rfl at_127_16).trans ?_
    refine (H_iaload (ka_99 L _) at_127_17).trans ?_
    refine ite_congr rfl (fun hi => ?_) (fun _ => rfl)
    refine (S_iconst at_127_18).trans ?_
    refine (S_icmp_eq at_127_19).trans ?_
    refine ite_congr rfl (fun _ => ?_) (fun _ => ?_)
    · refine (S_aload_n rfl at_127_38).trans ?_
      refine (H_get2 (ka_2 L _) rfl at_127_39).trans ?_
      refine (S_if_eq at_127_42).trans ?_
      refine ite_congr rfl (fun _ => ?_) (fun _ => ?_)
      · refine (S_bipush at_127_56).trans ?_
        exact S_ireti rfl at_127_58
      · refine (S_aload_n rfl at_127_45).trans ?_
        refine (S_getR (ka_2 L _) rfl (f_2_3 L _) at_127_46).trans ?_
        refine (H_get0 (ka_40 L _) rfl at_127_49).trans ?_
        refine (S_iconst at_127_52).trans ?_
        refine (S_icmp_eq at_127_53).trans ?_
        refine ite_congr rfl (fun _ => ?_) (fun _ => ?_)
        · refine (S_aload_n rfl at_127_59).trans ?_
          refine (S_getR (ka_2 L _) rfl (f_2_9 L _) at_127_60).trans ?_
          refine (S_getR (ka_98 L _) rfl (f_98_0 L _) at_127_63).trans ?_
          refine (S_iload_n rfl at_127_66).trans ?_
          refine (H_iaload (ka_99 L _) at_127_67).trans ?_
          refine ite_congr rfl (fun hi => ?_) (fun _ => rfl)
          refine (S_iconst at_127_68).trans ?_
          refine (S_icmp_eq at_127_69).trans ?_
          refine ite_congr rfl (fun _ => ?_) (fun _ => ?_)
          · refine (S_iconst at_127_89).trans ?_
            refine (S_goto at_127_90).trans ?_
            refine (S_istore_n (l1 := [some (jR 2), some (jI x1), some (jI x2), some (jI 0), none]) rfl at_127_104).trans ?_
            refine (S_iconst at_127_105).trans ?_
            refine (S_istore (l1 := [some (jR 2), some (jI x1), some (jI x2), some (jI 0), some (jI 0)]) rfl at_127_106).trans ?_
            rfl
          · refine (S_iload_n rfl at_127_72).trans ?_
            refine (S_if_lt at_127_73).trans ?_
            refine ite_congr rfl (fun _ => ?_) (fun _ => ?_)
            · refine (S_iconst at_127_89).trans ?_
              refine (S_goto at_127_90).trans ?_
              refine (S_istore_n (l1 := [some (jR 2), some (jI x1), some (jI x2), some (jI 0), none]) rfl at_127_104).trans ?_
              refine (S_iconst at_127_105).trans ?_
              refine (S_istore (l1 := [some (jR 2), some (jI x1), some (jI x2), some (jI 0), some (jI 0)]) rfl at_127_106).trans ?_
              rfl
            · refine (S_iload_n rfl at_127_76).trans ?_
              refine (S_aload_n rfl at_127_77).trans ?_
              refine (S_getR (ka_2 L _) rfl (f_2_9 L _) at_127_78).trans ?_
              refine (S_getR (ka_98 L _) rfl (f_98_1 L _) at_127_81).trans ?_
              refine (S_iload_n rfl at_127_84).trans ?_
              refine (H_iaload (ka_100 L _) at_127_85).trans ?_
              refine ite_congr rfl (fun hi => ?_) (fun _ => rfl)
              refine (S_icmp_le at_127_86).trans ?_
              refine ite_congr rfl (fun _ => ?_) (fun _ => ?_)
              · refine (S_iconst at_127_89).trans ?_
                refine (S_goto at_127_90).trans ?_
                refine (S_istore_n (l1 := [some (jR 2), some (jI x1), some (jI x2), some (jI 0), none]) rfl at_127_104).trans ?_
                refine (S_iconst at_127_105).trans ?_
                refine (S_istore (l1 := [some (jR 2), some (jI x1), some (jI x2), some (jI 0), some (jI 0)]) rfl at_127_106).trans ?_
                rfl
              · refine (S_aload_n rfl at_127_93).trans ?_
                refine (S_getR (ka_2 L _) rfl (f_2_9 L _) at_127_94).trans ?_
                refine (S_getR (ka_98 L _) rfl (f_98_1 L _) at_127_97).trans ?_
                refine (S_iload_n rfl at_127_100).trans ?_
                refine (H_iaload (ka_100 L _) at_127_101).trans ?_
                refine ite_congr rfl (fun hi => ?_) (fun _ => rfl)
                refine (S_iload_n rfl at_127_102).trans ?_
                refine (S_isub at_127_103).trans ?_
                refine (S_istore_n (l1 := [some (jR 2), some (jI x1), some (jI x2), some (jI (w32 ((m 100 x1.toNat) - x2))), none]) rfl at_127_104).trans ?_
                refine (S_iconst at_127_105).trans ?_
                refine (S_istore (l1 := [some (jR 2), some (jI x1), some (jI x2), some (jI (w32 ((m 100 x1.toNat) - x2))), some (jI 0)]) rfl at_127_106).trans ?_
                rfl
        · refine (S_bipush at_127_56).trans ?_
          exact S_ireti rfl at_127_58
    · refine (S_aload_n rfl at_127_22).trans ?_
      refine (S_getR (ka_2 L _) rfl (f_2_9 L _) at_127_23).trans ?_
      refine (S_getR (ka_98 L _) rfl (f_98_0 L _) at_127_26).trans ?_
      refine (S_iload_n rfl at_127_29).trans ?_
      refine (H_iaload (ka_99 L _) at_127_30).trans ?_
      refine ite_congr rfl (fun hi => ?_) (fun _ => rfl)
      refine (S_iconst at_127_31).trans ?_
      refine (S_icmp_eq at_127_32).trans ?_
      refine ite_congr rfl (fun _ => ?_) (fun _ => ?_)
      · refine (S_aload_n rfl at_127_38).trans ?_
        refine (H_get2 (ka_2 L _) rfl at_127_39).trans ?_
        refine (S_if_eq at_127_42).trans ?_
        refine ite_congr rfl (fun _ => ?_) (fun _ => ?_)
        · refine (S_bipush at_127_56).trans ?_
          exact S_ireti rfl at_127_58
        · refine (S_aload_n rfl at_127_45).trans ?_
          refine (S_getR (ka_2 L _) rfl (f_2_3 L _) at_127_46).trans ?_
          refine (H_get0 (ka_40 L _) rfl at_127_49).trans ?_
          refine (S_iconst at_127_52).trans ?_
          refine (S_icmp_eq at_127_53).trans ?_
          refine ite_congr rfl (fun _ => ?_) (fun _ => ?_)
          · refine (S_aload_n rfl at_127_59).trans ?_
            refine (S_getR (ka_2 L _) rfl (f_2_9 L _) at_127_60).trans ?_
            refine (S_getR (ka_98 L _) rfl (f_98_0 L _) at_127_63).trans ?_
            refine (S_iload_n rfl at_127_66).trans ?_
            refine (H_iaload (ka_99 L _) at_127_67).trans ?_
            refine ite_congr rfl (fun hi => ?_) (fun _ => rfl)
            refine (S_iconst at_127_68).trans ?_
            refine (S_icmp_eq at_127_69).trans ?_
            refine ite_congr rfl (fun _ => ?_) (fun _ => ?_)
            · refine (S_iconst at_127_89).trans ?_
              refine (S_goto at_127_90).trans ?_
              refine (S_istore_n (l1 := [some (jR 2), some (jI x1), some (jI x2), some (jI 0), none]) rfl at_127_104).trans ?_
              refine (S_iconst at_127_105).trans ?_
              refine (S_istore (l1 := [some (jR 2), some (jI x1), some (jI x2), some (jI 0), some (jI 0)]) rfl at_127_106).trans ?_
              rfl
            · refine (S_iload_n rfl at_127_72).trans ?_
              refine (S_if_lt at_127_73).trans ?_
              refine ite_congr rfl (fun _ => ?_) (fun _ => ?_)
              · refine (S_iconst at_127_89).trans ?_
                refine (S_goto at_127_90).trans ?_
                refine (S_istore_n (l1 := [some (jR 2), some (jI x1), some (jI x2), some (jI 0), none]) rfl at_127_104).trans ?_
                refine (S_iconst at_127_105).trans ?_
                refine (S_istore (l1 := [some (jR 2), some (jI x1), some (jI x2), some (jI 0), some (jI 0)]) rfl at_127_106).trans ?_
                rfl
              · refine (S_iload_n rfl at_127_76).trans ?_
                refine (S_aload_n rfl at_127_77).trans ?_
                refine (S_getR (ka_2 L _) rfl (f_2_9 L _) at_127_78).trans ?_
                refine (S_getR (ka_98 L _) rfl (f_98_1 L _) at_127_81).trans ?_
                refine (S_iload_n rfl at_127_84).trans ?_
                refine (H_iaload (ka_100 L _) at_127_85).trans ?_
                refine ite_congr rfl (fun hi => ?_) (fun _ => rfl)
                refine (S_icmp_le at_127_86).trans ?_
                refine ite_congr rfl (fun _ => ?_) (fun _ => ?_)
                · refine (S_iconst at_127_89).trans ?_
                  refine (S_goto at_127_90).trans ?_
                  refine (S_istore_n (l1 := [some (jR 2), some (jI x1), some (jI x2), some (jI 0), none]) rfl at_127_104).trans ?_
                  refine (S_iconst at_127_105).trans ?_
                  refine (S_istore (l1 := [some (jR 2), some (jI x1), some (jI x2), some (jI 0), some (jI 0)]) rfl at_127_106).trans ?_
                  rfl
                · refine (S_aload_n rfl at_127_93).trans ?_
                  refine (S_getR (ka_2 L _) rfl (f_2_9 L _) at_127_94).trans ?_
                  refine (S_getR (ka_98 L _) rfl (f_98_1 L _) at_127_97).trans ?_
                  refine (S_iload_n rfl at_127_100).trans ?_
                  refine (H_iaload (ka_100 L _) at_127_101).trans ?_
                  refine ite_congr rfl (fun hi => ?_) (fun _ => rfl)
                  refine (S_iload_n rfl at_127_102).trans ?_
                  refine (S_isub at_127_103).trans ?_
                  refine (S_istore_n (l1 := [some (jR 2), some (jI x1), some (jI x2), some (jI (w32 ((m 100 x1.toNat) - x2))), none]) rfl at_127_104).trans ?_
                  refine (S_iconst at_127_105).trans ?_
                  refine (S_istore (l1 := [some (jR 2), some (jI x1), some (jI x2), some (jI (w32 ((m 100 x1.toNat) - x2))), some (jI 0)]) rfl at_127_106).trans ?_
                  rfl
          · refine (S_bipush at_127_56).trans ?_
            exact S_ireti rfl at_127_58
      · refine (S_bipush at_127_35).trans ?_
        exact S_ireti rfl at_127_37
theorem T127_108 {C : Nat → List j_V → j_H → Option j_Z} {L : Nat} {m : j_M0} {x1 : Int} {x2 : Int} {x3 : Int} {x4 : Int} : j_fin C 127 108 [some (jR 2), some (jI x1), some (jI x2), some (jI x3), some (jI x4)] [] (hH L m) = if x4 < (m 4 0) then if x4 < x3 then if 0 ≤ x1 ∧ x1 < 6 then if 0 ≤ (w32 (x2 + x4)) ∧ (w32 (x2 + x4)) < 60 then (C 54 [jR 41, jI x4] (hH L m)).bind fun z => j_fin C 127 161 [some (jR 2), some (jI x1), some (jI x2), some (jI x3), some (jI x4)] (z.1.toList ++ [jL (m (102 + x1.toNat) (w32 (x2 + x4)).toNat)]) z.2 else none else none else some (some (jI (w32 (100 + x4))), hH L m) else some (some (jI (-5)), hH L m) := by
  refine (S_iload rfl at_127_108).trans ?_
  refine (S_aload_n rfl at_127_110).trans ?_
  refine (S_getR (ka_2 L _) rfl (f_2_0 L _) at_127_111).trans ?_
  refine (S_getR (ka_3 L _) rfl (f_3_0 L _) at_127_114).trans ?_
  refine (H_get0 (ka_4 L _) rfl at_127_117).trans ?_
  refine (S_icmp_ge at_127_120).trans ?_
  refine ite_congr rfl (fun _ => ?_) (fun _ => ?_)
  · refine (S_iload rfl at_127_123).trans ?_
    refine (S_iload_n rfl at_127_125).trans ?_
    refine (S_icmp_lt at_127_126).trans ?_
    refine ite_congr rfl (fun _ => ?_) (fun _ => ?_)
    · refine (S_aload_n rfl at_127_135).trans ?_
      refine (S_getR (ka_2 L _) rfl (f_2_9 L _) at_127_136).trans ?_
      refine (S_getR (ka_98 L _) rfl (f_98_2 L _) at_127_139).trans ?_
      refine (S_iload_n rfl at_127_142).trans ?_
      refine (H_tapes at_127_143).trans ?_
      refine ite_congr rfl (fun hi => ?_) (fun _ => rfl)
      refine (S_iload_n rfl at_127_144).trans ?_
      refine (S_iload rfl at_127_145).trans ?_
      refine (S_iadd at_127_147).trans ?_
      refine (H_laload (ka_tp (by omega)) at_127_148).trans ?_
      refine ite_congr rfl (fun hi => ?_) (fun _ => rfl)
      refine (S_aload_n rfl at_127_149).trans ?_
      refine (S_getR (ka_2 L _) rfl (f_2_3 L _) at_127_150).trans ?_
      refine (S_getR (ka_40 L _) rfl (f_40_0 L _) at_127_153).trans ?_
      refine (S_iload rfl at_127_156).trans ?_
      refine (S_invv (b := 1) kn_54 rfl (ka_41 L _) (Nat.le_of_ble_eq_true rfl) at_127_158).trans ?_
      rfl
    · refine (S_bipush at_127_129).trans ?_
      refine (S_iload rfl at_127_131).trans ?_
      refine (S_iadd at_127_133).trans ?_
      exact S_ireti rfl at_127_134
  · refine (S_bipush at_127_174).trans ?_
    exact S_ireti rfl at_127_176
theorem T127_161 {C : Nat → List j_V → j_H → Option j_Z} {L : Nat} {m : j_M0} {x1 : Int} {x2 : Int} {x3 : Int} {x4 : Int} {t0 : Int} {t1 : Int} : j_fin C 127 161 [some (jR 2), some (jI x1), some (jI x2), some (jI x3), some (jI x4)] [jL t1, jL t0] (hH L m) = if (j_cmp t0 t1) = 0 then j_fin C 127 108 [some (jR 2), some (jI x1), some (jI x2), some (jI x3), some (jI (w32 (x4 + 1)))] [] (hH L m) else some (some (jI x4), hH L m) := by
  refine (S_lcmp at_127_161).trans ?_
  refine (S_if_eq at_127_162).trans ?_
  refine ite_congr rfl (fun _ => ?_) (fun _ => ?_)
  · refine (S_iinc (l1 := [some (jR 2), some (jI x1), some (jI x2), some (jI x3), some (jI (w32 (x4 + 1)))]) rfl rfl at_127_168).trans ?_
    refine (S_goto at_127_171).trans ?_
    rfl
  · refine (S_iload rfl at_127_165).trans ?_
    exact S_ireti rfl at_127_167
theorem T128_0 {C : Nat → List j_V → j_H → Option j_Z} {L : Nat} {m : j_M0} : j_fin C 128 0 [some (jR 2)] [] (hH L m) = (C 32 [jR 19, jR 3] (hH L m)).bind fun z => j_fin C 128 11 [some (jR 2)] (z.1.toList ++ []) z.2 := by
  refine (S_aload_n rfl at_128_0).trans ?_
  refine (S_getR (ka_2 L _) rfl (f_2_1 L _) at_128_1).trans ?_
  refine (S_aload_n rfl at_128_4).trans ?_
  refine (S_getR (ka_2 L _) rfl (f_2_0 L _) at_128_5).trans ?_
  refine (S_invv (b := 1) kn_32 rfl (ka_19 L _) (Nat.le_of_ble_eq_true rfl) at_128_8).trans ?_
  rfl
theorem T128_11 {C : Nat → List j_V → j_H → Option j_Z} {L : Nat} {m : j_M0} : j_fin C 128 11 [some (jR 2)] [] (hH L m) = some (some (jI ((j_up m 2 12 1) 4 1)), hH L (j_up m 2 12 1)) := by
  refine (S_aload_n rfl at_128_11).trans ?_
  refine (S_iconst at_128_12).trans ?_
  refine (H_put2 (ka_2 L _) rfl at_128_13).trans ?_
  refine (if_pos (by decide)).trans ?_
  refine (S_aload_n rfl at_128_16).trans ?_
  refine (S_getR (ka_2 L _) rfl (f_2_0 L _) at_128_17).trans ?_
  refine (S_getR (ka_3 L _) rfl (f_3_0 L _) at_128_20).trans ?_
  refine (H_get0 (ka_4 L _) rfl at_128_23).trans ?_
  exact S_ireti rfl at_128_26
theorem T129_0 {C : Nat → List j_V → j_H → Option j_Z} {L : Nat} {m : j_M0} : j_fin C 129 0 [some (jR 2)] [] (hH L m) = if (m 2 12) = 0 then some (some (jI (-3)), hH L m) else (C 32 [jR 3, jR 19] (hH L m)).bind fun z => j_fin C 129 21 [some (jR 2)] (z.1.toList ++ []) z.2 := by
  refine (S_aload_n rfl at_129_0).trans ?_
  refine (H_get2 (ka_2 L _) rfl at_129_1).trans ?_
  refine (S_if_ne at_129_4).trans ?_
  refine ite_congr rfl (fun _ => ?_) (fun _ => ?_)
  · refine (S_bipush at_129_7).trans ?_
    exact S_ireti rfl at_129_9
  · refine (S_aload_n rfl at_129_10).trans ?_
    refine (S_getR (ka_2 L _) rfl (f_2_0 L _) at_129_11).trans ?_
    refine (S_aload_n rfl at_129_14).trans ?_
    refine (S_getR (ka_2 L _) rfl (f_2_1 L _) at_129_15).trans ?_
    refine (S_invv (b := 1) kn_32 rfl (ka_3 L _) (Nat.le_of_ble_eq_true rfl) at_129_18).trans ?_
    rfl
theorem T129_21 {C : Nat → List j_V → j_H → Option j_Z} {L : Nat} {m : j_M0} : j_fin C 129 21 [some (jR 2)] [] (hH L m) = some (some (jI ((j_up m 2 11 0) 4 1)), hH L (j_up m 2 11 0)) := by
  refine (S_aload_n rfl at_129_21).trans ?_
  refine (S_iconst at_129_22).trans ?_
  refine (H_put2 (ka_2 L _) rfl at_129_23).trans ?_
  refine (if_pos (by decide)).trans ?_
  refine (S_aload_n rfl at_129_26).trans ?_
  refine (S_getR (ka_2 L _) rfl (f_2_0 L _) at_129_27).trans ?_
  refine (S_getR (ka_3 L _) rfl (f_3_0 L _) at_129_30).trans ?_
  refine (H_get0 (ka_4 L _) rfl at_129_33).trans ?_
  exact S_ireti rfl at_129_36
theorem T130_0 {C : Nat → List j_V → j_H → Option j_Z} {L : Nat} {m : j_M0} {x1 : Int} : j_fin C 130 0 [some (jR 2), some (jI x1)] [] (hH L m) = if x1 = 0 then some (some (jI (m 4 0)), hH L m) else if x1 = 1 then some (some (jI (m 4 1)), hH L m) else if x1 = 2 then if (m 2 11) = 0 then some (some (jI 0), hH L m) else some (some (jI (m 41 0)), hH L m) else if x1 = 3 then if (m 2 11) = 0 then some (some (jI 0), hH L m) else some (some (jI (m 50 0)), hH L m) else if x1 = 4 then if (m 2 11) = 0 then some (some (jI 0), hH L m) else some (some (jI (m 41 2)), hH L m) else if x1 = 5 then some (some (jI (m 3 5)), hH L m) else if x1 = 6 then some (some (jI (m 3 8)), hH L m) else if x1 = 7 then some (some (jI (m 9 0)), hH L m) else if x1 = 8 then some (some (jI (m 93 0)), hH L m) else if x1 = 9 then some (some (jI (m 3 4)), hH L m) else some (some (jI (-2)), hH L m) := by
  refine (S_iload_n rfl at_130_0).trans ?_
  refine (tsw_130_1 _).trans ?_
  refine ite_congr rfl (fun _ => ?_) (fun _ => ?_)
  · refine (S_aload_n rfl at_130_56).trans ?_
    refine (S_getR (ka_2 L _) rfl (f_2_0 L _) at_130_57).trans ?_
    refine (S_getR (ka_3 L _) rfl (f_3_0 L _) at_130_60).trans ?_
    refine (H_get0 (ka_4 L _) rfl at_130_63).trans ?_
    exact S_ireti rfl at_130_66
  refine ite_congr rfl (fun _ => ?_) (fun _ => ?_)
  · refine (S_aload_n rfl at_130_67).trans ?_
    refine (S_getR (ka_2 L _) rfl (f_2_0 L _) at_130_68).trans ?_
    refine (S_getR (ka_3 L _) rfl (f_3_0 L _) at_130_71).trans ?_
    refine (H_get0 (ka_4 L _) rfl at_130_74).trans ?_
    exact S_ireti rfl at_130_77
  refine ite_congr rfl (fun _ => ?_) (fun _ => ?_)
  · refine (S_aload_n rfl at_130_78).trans ?_
    refine (H_get2 (ka_2 L _) rfl at_130_79).trans ?_
    refine (S_if_eq at_130_82).trans ?_
    refine ite_congr rfl (fun _ => ?_) (fun _ => ?_)
    · refine (S_iconst at_130_98).trans ?_
      exact S_ireti rfl at_130_99
    · refine (S_aload_n rfl at_130_85).trans ?_
      refine (S_getR (ka_2 L _) rfl (f_2_3 L _) at_130_86).trans ?_
      refine (S_getR (ka_40 L _) rfl (f_40_0 L _) at_130_89).trans ?_
      refine (H_get0 (ka_41 L _) rfl at_130_92).trans ?_
      refine (S_goto at_130_95).trans ?_
      exact S_ireti rfl at_130_99
  refine ite_congr rfl (fun _ => ?_) (fun _ => ?_)
  · refine (S_aload_n rfl at_130_100).trans ?_
    refine (H_get2 (ka_2 L _) rfl at_130_101).trans ?_
    refine (S_if_eq at_130_104).trans ?_
    refine ite_congr rfl (fun _ => ?_) (fun _ => ?_)
    · refine (S_iconst at_130_120).trans ?_
      exact S_ireti rfl at_130_121
    · refine (S_aload_n rfl at_130_107).trans ?_
      refine (S_getR (ka_2 L _) rfl (f_2_3 L _) at_130_108).trans ?_
      refine (S_getR (ka_40 L _) rfl (f_40_1 L _) at_130_111).trans ?_
      refine (H_get0 (ka_50 L _) rfl at_130_114).trans ?_
      refine (S_goto at_130_117).trans ?_
      exact S_ireti rfl at_130_121
  refine ite_congr rfl (fun _ => ?_) (fun _ => ?_)
  · refine (S_aload_n rfl at_130_122).trans ?_
    refine (H_get2 (ka_2 L _) rfl at_130_123).trans ?_
    refine (S_if_eq at_130_126).trans ?_
    refine ite_congr rfl (fun _ => ?_) (fun _ => ?_)
    · refine (S_iconst at_130_142).trans ?_
      exact S_ireti rfl at_130_143
    · refine (S_aload_n rfl at_130_129).trans ?_
      refine (S_getR (ka_2 L _) rfl (f_2_3 L _) at_130_130).trans ?_
      refine (S_getR (ka_40 L _) rfl (f_40_0 L _) at_130_133).trans ?_
      refine (H_get0 (ka_41 L _) rfl at_130_136).trans ?_
      refine (S_goto at_130_139).trans ?_
      exact S_ireti rfl at_130_143
  refine ite_congr rfl (fun _ => ?_) (fun _ => ?_)
  · refine (S_aload_n rfl at_130_144).trans ?_
    refine (S_getR (ka_2 L _) rfl (f_2_0 L _) at_130_145).trans ?_
    refine (H_get0 (ka_3 L _) rfl at_130_148).trans ?_
    exact S_ireti rfl at_130_151
  refine ite_congr rfl (fun _ => ?_) (fun _ => ?_)
  · refine (S_aload_n rfl at_130_152).trans ?_
    refine (S_getR (ka_2 L _) rfl (f_2_0 L _) at_130_153).trans ?_
    refine (H_get0 (ka_3 L _) rfl at_130_156).trans ?_
    exact S_ireti rfl at_130_159
  refine ite_congr rfl (fun _ => ?_) (fun _ => ?_)
  · refine (S_aload_n rfl at_130_160).trans ?_
    refine (S_getR (ka_2 L _) rfl (f_2_0 L _) at_130_161).trans ?_
    refine (S_getR (ka_3 L _) rfl (f_3_1 L _) at_130_164).trans ?_
    refine (H_get0 (ka_9 L _) rfl at_130_167).trans ?_
    exact S_ireti rfl at_130_170
  refine ite_congr rfl (fun _ => ?_) (fun _ => ?_)
  · refine (S_aload_n rfl at_130_171).trans ?_
    refine (S_getR (ka_2 L _) rfl (f_2_8 L _) at_130_172).trans ?_
    refine (H_get0 (ka_93 L _) rfl at_130_175).trans ?_
    exact S_ireti rfl at_130_178
  refine ite_congr rfl (fun _ => ?_) (fun _ => ?_)
  · refine (S_aload_n rfl at_130_179).trans ?_
    refine (S_getR (ka_2 L _) rfl (f_2_0 L _) at_130_180).trans ?_
    refine (H_get0 (ka_3 L _) rfl at_130_183).trans ?_
    exact S_ireti rfl at_130_186
  refine (S_bipush at_130_187).trans ?_
  exact S_ireti rfl at_130_189
theorem T131_0 {C : Nat → List j_V → j_H → Option j_Z} {L : Nat} {m : j_M0} {x1 : Int} {x2 : Int} {x3 : Int} : j_fin C 131 0 [some (jR 2), some (jI x1), some (jI x2), some (jI x3)] [] (hH L m) = (C 142 [jI x1] (hH L m)).bind fun z => j_fin C 131 4 [some (jR 2), some (jI x1), some (jI x2), some (jI x3)] (z.1.toList ++ []) z.2 := by
  refine (S_iload_n rfl at_131_0).trans ?_
  refine (S_invs (by decide) (Nat.le_of_ble_eq_true rfl) (Nat.le_of_ble_eq_true rfl) at_131_1).trans ?_
  rfl
theorem T131_4 {C : Nat → List j_V → j_H → Option j_Z} {L : Nat} {m : j_M0} {x1 : Int} {x2 : Int} {x3 : Int} {s0 : Int} : j_fin C 131 4 [some (jR 2), some (jI x1), some (jI x2), some (jI x3)] [jI s0] (hH L m) = if s0 = 0 then some (some (jI (-1)), hH L m) else if x2 < (-1) then some (some (jI (-2)), hH L m) else if 4 < x2 then some (some (jI (-2)), hH L m) else if x2 = (-1) then if x2 = (-1) then if x2 = (-1) then (C 61 [jR 98, jI x1, jI x2, jI 0] (hH L m)).bind fun z => j_fin C 131 67 [some (jR 2), some (jI x1), some (jI x2), some (jI x3)] (z.1.toList ++ []) z.2 else (C 61 [jR 98, jI x1, jI x2, jI x3] (hH L m)).bind fun z => j_fin C 131 67 [some (jR 2), some (jI x1), some (jI x2), some (jI x3)] (z.1.toList ++ []) z.2 else if x3 < 0 then some (some (jI (-14)), hH L m) else if x2 = (-1) then (C 61 [jR 98, jI x1, jI x2, jI 0] (hH L m)).bind fun z => j_fin C 131 67 [some (jR 2), some (jI x1), some (jI x2), some (jI x3)] (z.1.toList ++ []) z.2 else (C 61 [jR 98, jI x1, jI x2, jI x3] (hH L m)).bind fun z => j_fin C 131 67 [some (jR 2), some (jI x1), some (jI x2), some (jI x3)] (z.1.toList ++ []) z.2 else if 60 < x3 then some (some (jI (-2)), hH L m) else if x2 = (-1) then if x2 = (-1) then (C 61 [jR 98, jI x1, jI x2, jI 0] (hH L m)).bind fun z => j_fin C 131 67 [some (jR 2), some (jI x1), some (jI x2), some (jI x3)] (z.1.toList ++ []) z.2 else (C 61 [jR 98, jI x1, jI x2, jI x3] (hH L m)).bind fun z => j_fin C 131 67 [some (jR 2), some (jI x1), some (jI x2), some (jI x3)] (z.1.toList ++ []) z.2 else if x3 < 0 then some (some (jI (-14)), hH L m) else if x2 = (-1) then (C 61 [jR 98, jI x1, jI x2, jI 0] (hH L m)).bind fun z => j_fin C 131 67 [some (jR 2), some (jI x1), some (jI x2), some (jI x3)] (z.1.toList ++ []) z.2 else (C 61 [jR 98, jI x1, jI x2, jI x3] (hH L m)).bind fun z => j_fin C 131 67 [some (jR 2), some (jI x1), some (jI x2), some (jI x3)] (z.1.toList ++ []) z.2 := by
  refine (S_if_ne at_131_4).trans ?_
  refine ite_congr rfl (fun _ => ?_) (fun _ => ?_)
  · refine (S_iconst at_131_7).trans ?_
    exact S_ireti rfl at_131_8
  · refine (S_iload_n rfl at_131_9).trans ?_
    refine (S_iconst at_131_10).trans ?_
    refine (S_icmp_lt at_131_11).trans ?_
    refine ite_congr rfl (fun _ => ?_) (fun _ => ?_)
    · refine (S_bipush at_131_19).trans ?_
      exact S_ireti rfl at_131_21
    · refine (S_iload_n rfl at_131_14).trans ?_
      refine (S_iconst at_131_15).trans ?_
      refine (S_icmp_le at_131_16).trans ?_
      refine ite_congr rfl (fun _ => ?_) (fun _ => ?_)
      · refine (S_bipush at_131_19).trans ?_
        exact S_ireti rfl at_131_21
      · refine (S_iload_n rfl at_131_22).trans ?_
        refine (S_iconst at_131_23).trans ?_
        refine (S_icmp_eq at_131_24).trans ?_
        refine ite_congr rfl (fun _ => ?_) (fun _ => ?_)
        · refine (S_iload_n rfl at_131_36).trans ?_
          refine (S_iconst at_131_37).trans ?_
          refine (S_icmp_eq at_131_38).trans ?_
          refine ite_congr rfl (fun _ => ?_) (fun _ => ?_)
          · refine (S_aload_n rfl at_131_48).trans ?_
            refine (S_getR (ka_2 L _) rfl (f_2_9 L _) at_131_49).trans ?_
            refine (S_iload_n rfl at_131_52).trans ?_
            refine (S_iload_n rfl at_131_53).trans ?_
            refine (S_iload_n rfl at_131_54).trans ?_
            refine (S_iconst at_131_55).trans ?_
            refine (S_icmp_ne at_131_56).trans ?_
            refine ite_congr rfl (fun _ => ?_) (fun _ => ?_)
            · refine (S_iconst at_131_59).trans ?_
              refine (S_goto at_131_60).trans ?_
              refine (S_invv (b := 3) kn_61 rfl (ka_98 L _) (Nat.le_of_ble_eq_true rfl) at_131_64).trans ?_
              rfl
            · refine (S_iload_n rfl at_131_63).trans ?_
              refine (S_invv (b := 3) kn_61 rfl (ka_98 L _) (Nat.le_of_ble_eq_true rfl) at_131_64).trans ?_
              rfl
          · refine (S_iload_n rfl at_131_41).trans ?_
            refine (S_if_ge at_131_42).trans ?_
            refine ite_congr rfl (fun _ => ?_) (fun _ => ?_)
            · refine (S_bipush at_131_45).trans ?_
              exact S_ireti rfl at_131_47
            · refine (S_aload_n rfl at_131_48).trans ?_
              refine (S_getR (ka_2 L _) rfl (f_2_9 L _) at_131_49).trans ?_
              refine (S_iload_n rfl at_131_52).trans ?_
              refine (S_iload_n rfl at_131_53).trans ?_
              refine (S_iload_n rfl at_131_54).trans ?_
              refine (S_iconst at_131_55).trans ?_
              refine (S_icmp_ne at_131_56).trans ?_
              refine ite_congr rfl (fun _ => ?_) (fun _ => ?_)
              · refine (S_iconst at_131_59).trans ?_
                refine (S_goto at_131_60).trans ?_
                refine (S_invv (b := 3) kn_61 rfl (ka_98 L _) (Nat.le_of_ble_eq_true rfl) at_131_64).trans ?_
                rfl
              · refine (S_iload_n rfl at_131_63).trans ?_
                refine (S_invv (b := 3) kn_61 rfl (ka_98 L _) (Nat.le_of_ble_eq_true rfl) at_131_64).trans ?_
                rfl
        · refine (S_iload_n rfl at_131_27).trans ?_
          refine (S_bipush at_131_28).trans ?_
          refine (S_icmp_le at_131_30).trans ?_
          refine ite_congr rfl (fun _ => ?_) (fun _ => ?_)
          · refine (S_bipush at_131_33).trans ?_
            exact S_ireti rfl at_131_35
          · refine (S_iload_n rfl at_131_36).trans ?_
            refine (S_iconst at_131_37).trans ?_
            refine (S_icmp_eq at_131_38).trans ?_
            refine ite_congr rfl (fun _ => ?_) (fun _ => ?_)
            · refine (S_aload_n rfl at_131_48).trans ?_
              refine (S_getR (ka_2 L _) rfl (f_2_9 L _) at_131_49).trans ?_
              refine (S_iload_n rfl at_131_52).trans ?_
              refine (S_iload_n rfl at_131_53).trans ?_
              refine (S_iload_n rfl at_131_54).trans ?_
              refine (S_iconst at_131_55).trans ?_
              refine (S_icmp_ne at_131_56).trans ?_
              refine ite_congr rfl (fun _ => ?_) (fun _ => ?_)
              · refine (S_iconst at_131_59).trans ?_
                refine (S_goto at_131_60).trans ?_
                refine (S_invv (b := 3) kn_61 rfl (ka_98 L _) (Nat.le_of_ble_eq_true rfl) at_131_64).trans ?_
                rfl
              · refine (S_iload_n rfl at_131_63).trans ?_
                refine (S_invv (b := 3) kn_61 rfl (ka_98 L _) (Nat.le_of_ble_eq_true rfl) at_131_64).trans ?_
                rfl
            · refine (S_iload_n rfl at_131_41).trans ?_
              refine (S_if_ge at_131_42).trans ?_
              refine ite_congr rfl (fun _ => ?_) (fun _ => ?_)
              · refine (S_bipush at_131_45).trans ?_
                exact S_ireti rfl at_131_47
              · refine (S_aload_n rfl at_131_48).trans ?_
                refine (S_getR (ka_2 L _) rfl (f_2_9 L _) at_131_49).trans ?_
                refine (S_iload_n rfl at_131_52).trans ?_
                refine (S_iload_n rfl at_131_53).trans ?_
                refine (S_iload_n rfl at_131_54).trans ?_
                refine (S_iconst at_131_55).trans ?_
                refine (S_icmp_ne at_131_56).trans ?_
                refine ite_congr rfl (fun _ => ?_) (fun _ => ?_)
                · refine (S_iconst at_131_59).trans ?_
                  refine (S_goto at_131_60).trans ?_
                  refine (S_invv (b := 3) kn_61 rfl (ka_98 L _) (Nat.le_of_ble_eq_true rfl) at_131_64).trans ?_
                  rfl
                · refine (S_iload_n rfl at_131_63).trans ?_
                  refine (S_invv (b := 3) kn_61 rfl (ka_98 L _) (Nat.le_of_ble_eq_true rfl) at_131_64).trans ?_
                  rfl
theorem T131_67 {C : Nat → List j_V → j_H → Option j_Z} {L : Nat} {m : j_M0} {x1 : Int} {x2 : Int} {x3 : Int} : j_fin C 131 67 [some (jR 2), some (jI x1), some (jI x2), some (jI x3)] [] (hH L m) = some (some (jI 1), hH L m) := by
  refine (S_iconst at_131_67).trans ?_
  exact S_ireti rfl at_131_68
theorem T132_0 {C : Nat → List j_V → j_H → Option j_Z} {L : Nat} {m : j_M0} {x1 : Int} {x2 : Int} {y3 : Int} : j_fin C 132 0 [some (jR 2), some (jI x1), some (jI x2), some (jL y3), none] [] (hH L m) = (C 142 [jI x1] (hH L m)).bind fun z => j_fin C 132 4 [some (jR 2), some (jI x1), some (jI x2), some (jL y3), none] (z.1.toList ++ []) z.2 := by
  refine (S_iload_n rfl at_132_0).trans ?_
  refine (S_invs (by decide) (Nat.le_of_ble_eq_true rfl) (Nat.le_of_ble_eq_true rfl) at_132_1).trans ?_
  rfl
theorem T132_4 {C : Nat → List j_V → j_H → Option j_Z} {L : Nat} {m : j_M0} {x1 : Int} {x2 : Int} {y3 : Int} {s0 : Int} : j_fin C 132 4 [some (jR 2), some (jI x1), some (jI x2), some (jL y3), none] [jI s0] (hH L m) = if s0 = 0 then some (some (jI (-1)), hH L m) else if 0 ≤ x1 ∧ x1 < 6 then if (m 99 x1.toNat) = (-1) then some (some (jI (-11)), hH L m) else if x2 < 0 then some (some (jI (-13)), hH L m) else if 0 ≤ x1 ∧ x1 < 6 then if x2 < (m 100 x1.toNat) then if 0 ≤ x1 ∧ x1 < 6 then if 0 ≤ x1 ∧ x1 < 6 then (C 62 [jR 98, jI (m 99 x1.toNat), jL y3] (hH L m)).bind fun z => j_fin C 132 72 [some (jR 2), some (jI x1), some (jI x2), some (jL y3), none] (z.1.toList ++ [jI x2, jR (102 + x1.toNat)]) z.2 else none else none else some (some (jI (-13)), hH L m) else none else none := by
  refine (S_if_ne at_132_4).trans ?_
  refine ite_congr rfl (fun _ => ?_) (fun _ => ?_)
  · refine (S_iconst at_132_7).trans ?_
    exact S_ireti rfl at_132_8
  · refine (S_aload_n rfl at_132_9).trans ?_
    refine (S_getR (ka_2 L _) rfl (f_2_9 L _) at_132_10).trans ?_
    refine (S_getR (ka_98 L _) rfl (f_98_0 L _) at_132_13).trans ?_
    refine (S_iload_n rfl at_132_16).trans ?_
    refine (H_iaload (ka_99 L _) at_132_17).trans ?_
    refine ite_congr rfl (fun hi => ?_) (fun _ => rfl)
    refine (S_iconst at_132_18).trans ?_
    refine (S_icmp_ne at_132_19).trans ?_
    refine ite_congr rfl (fun _ => ?_) (fun _ => ?_)
    · refine (S_bipush at_132_22).trans ?_
      exact S_ireti rfl at_132_24
    · refine (S_iload_n rfl at_132_25).trans ?_
      refine (S_if_lt at_132_26).trans ?_
      refine ite_congr rfl (fun _ => ?_) (fun _ => ?_)
      · refine (S_bipush at_132_42).trans ?_
        exact S_ireti rfl at_132_44
      · refine (S_iload_n rfl at_132_29).trans ?_
        refine (S_aload_n rfl at_132_30).trans ?_
        refine (S_getR (ka_2 L _) rfl (f_2_9 L _) at_132_31).trans ?_
        refine (S_getR (ka_98 L _) rfl (f_98_1 L _) at_132_34).trans ?_
        refine (S_iload_n rfl at_132_37).trans ?_
        refine (H_iaload (ka_100 L _) at_132_38).trans ?_
        refine ite_congr rfl (fun hi => ?_) (fun _ => rfl)
        refine (S_icmp_lt at_132_39).trans ?_
        refine ite_congr rfl (fun _ => ?_) (fun _ => ?_)
        · refine (S_aload_n rfl at_132_45).trans ?_
          refine (S_getR (ka_2 L _) rfl (f_2_9 L _) at_132_46).trans ?_
          refine (S_getR (ka_98 L _) rfl (f_98_2 L _) at_132_49).trans ?_
          refine (S_iload_n rfl at_132_52).trans ?_
          refine (H_tapes at_132_53).trans ?_
          refine ite_congr rfl (fun hi => ?_) (fun _ => rfl)
          refine (S_iload_n rfl at_132_54).trans ?_
          refine (S_aload_n rfl at_132_55).trans ?_
          refine (S_getR (ka_2 L _) rfl (f_2_9 L _) at_132_56).trans ?_
          refine (S_aload_n rfl at_132_59).trans ?_
          refine (S_getR (ka_2 L _) rfl (f_2_9 L _) at_132_60).trans ?_
          refine (S_getR (ka_98 L _) rfl (f_98_0 L _) at_132_63).trans ?_
          refine (S_iload_n rfl at_132_66).trans ?_
          refine (H_iaload (ka_99 L _) at_132_67).trans ?_
          refine ite_congr rfl (fun hi => ?_) (fun _ => rfl)
          refine (S_lload_n rfl at_132_68).trans ?_
          refine (S_invv (b := 2) kn_62 rfl (ka_98 L _) (Nat.le_of_ble_eq_true rfl) at_132_69).trans ?_
          rfl
        · refine (S_bipush at_132_42).trans ?_
          exact S_ireti rfl at_132_44
theorem T132_72 {C : Nat → List j_V → j_H → Option j_Z} {L : Nat} {m : j_M0} {x1 : Int} {x2 : Int} {y3 : Int} {q0 : Nat} {s1 : Int} {t2 : Int} (hq0 : q0 < 6) : j_fin C 132 72 [some (jR 2), some (jI x1), some (jI x2), some (jL y3), none] [jL t2, jI s1, jR (102 + q0)] (hH L m) = if 0 ≤ s1 ∧ s1 < 60 then some (some (jI 1), hH L (j_up m (102 + q0) s1.toNat t2)) else none := by
  refine (H_lastore (by omega) (ka_tp hq0) at_132_72).trans ?_
  refine ite_congr rfl (fun hi => ?_) (fun _ => rfl)
  refine (S_iconst at_132_73).trans ?_
  exact S_ireti rfl at_132_74
theorem T133_0 {C : Nat → List j_V → j_H → Option j_Z} {L : Nat} {m : j_M0} {x1 : Int} {x2 : Int} : j_fin C 133 0 [some (jR 2), some (jI x1), some (jI x2)] [] (hH L m) = (C 142 [jI x1] (hH L m)).bind fun z => j_fin C 133 4 [some (jR 2), some (jI x1), some (jI x2)] (z.1.toList ++ []) z.2 := by
  refine (S_iload_n rfl at_133_0).trans ?_
  refine (S_invs (by decide) (Nat.le_of_ble_eq_true rfl) (Nat.le_of_ble_eq_true rfl) at_133_1).trans ?_
  rfl
theorem T133_4 {C : Nat → List j_V → j_H → Option j_Z} {L : Nat} {m : j_M0} {x1 : Int} {x2 : Int} {s0 : Int} : j_fin C 133 4 [some (jR 2), some (jI x1), some (jI x2)] [jI s0] (hH L m) = if s0 = 0 then some (some (jL (-9223372036854775808)), hH L m) else if x2 < 0 then some (some (jL (-9223372036854775808)), hH L m) else if 0 ≤ x1 ∧ x1 < 6 then if x2 < (m 100 x1.toNat) then if 0 ≤ x1 ∧ x1 < 6 then if 0 ≤ x2 ∧ x2 < 60 then some (some (jL (m (102 + x1.toNat) x2.toNat)), hH L m) else none else none else some (some (jL (-9223372036854775808)), hH L m) else none := by
  refine (S_if_eq at_133_4).trans ?_
  refine ite_congr rfl (fun _ => ?_) (fun _ => ?_)
  · refine (S_ldc2_w at_133_24).trans ?_
    exact S_lret rfl at_133_27
  · refine (S_iload_n rfl at_133_7).trans ?_
    refine (S_if_lt at_133_8).trans ?_
    refine ite_congr rfl (fun _ => ?_) (fun _ => ?_)
    · refine (S_ldc2_w at_133_24).trans ?_
      exact S_lret rfl at_133_27
    · refine (S_iload_n rfl at_133_11).trans ?_
      refine (S_aload_n rfl at_133_12).trans ?_
      refine (S_getR (ka_2 L _) rfl (f_2_9 L _) at_133_13).trans ?_
      refine (S_getR (ka_98 L _) rfl (f_98_1 L _) at_133_16).trans ?_
      refine (S_iload_n rfl at_133_19).trans ?_
      refine (H_iaload (ka_100 L _) at_133_20).trans ?_
      refine ite_congr rfl (fun hi => ?_) (fun _ => rfl)
      refine (S_icmp_lt at_133_21).trans ?_
      refine ite_congr rfl (fun _ => ?_) (fun _ => ?_)
      · refine (S_aload_n rfl at_133_28).trans ?_
        refine (S_getR (ka_2 L _) rfl (f_2_9 L _) at_133_29).trans ?_
        refine (S_getR (ka_98 L _) rfl (f_98_2 L _) at_133_32).trans ?_
        refine (S_iload_n rfl at_133_35).trans ?_
        refine (H_tapes at_133_36).trans ?_
        refine ite_congr rfl (fun hi => ?_) (fun _ => rfl)
        refine (S_iload_n rfl at_133_37).trans ?_
        refine (H_laload (ka_tp (by omega)) at_133_38).trans ?_
        refine ite_congr rfl (fun hi => ?_) (fun _ => rfl)
        exact S_lret rfl at_133_39
      · refine (S_ldc2_w at_133_24).trans ?_
        exact S_lret rfl at_133_27
theorem T134_0 {C : Nat → List j_V → j_H → Option j_Z} {L : Nat} {m : j_M0} {x1 : Int} {x2 : Int} {x3 : Int} {x4 : Int} {x5 : Int} : j_fin C 134 0 [some (jR 2), some (jI x1), some (jI x2), some (jI x3), some (jI x4), some (jI x5)] [] (hH L m) = (C 142 [jI x1] (hH L m)).bind fun z => j_fin C 134 4 [some (jR 2), some (jI x1), some (jI x2), some (jI x3), some (jI x4), some (jI x5)] (z.1.toList ++ []) z.2 := by
  refine (S_iload_n rfl at_134_0).trans ?_
  refine (S_invs (by decide) (Nat.le_of_ble_eq_true rfl) (Nat.le_of_ble_eq_true rfl) at_134_1).trans ?_
  rfl
theorem T134_4 {C : Nat → List j_V → j_H → Option j_Z} {L : Nat} {m : j_M0} {x1 : Int} {x2 : Int} {x3 : Int} {x4 : Int} {x5 : Int} {s0 : Int} : j_fin C 134 4 [some (jR 2), some (jI x1), some (jI x2), some (jI x3), some (jI x4), some (jI x5)] [jI s0] (hH L m) = if s0 = 0 then some (some (jI (-1)), hH L m) else (C 142 [jI x3] (hH L m)).bind fun z => j_fin C 134 11 [some (jR 2), some (jI x1), some (jI x2), some (jI x3), some (jI x4), some (jI x5)] (z.1.toList ++ []) z.2 := by
  refine (S_if_eq at_134_4).trans ?_
  refine ite_congr rfl (fun _ => ?_) (fun _ => ?_)
  · refine (S_iconst at_134_14).trans ?_
    exact S_ireti rfl at_134_15
  · refine (S_iload_n rfl at_134_7).trans ?_
    refine (S_invs (by decide) (Nat.le_of_ble_eq_true rfl) (Nat.le_of_ble_eq_true rfl) at_134_8).trans ?_
    rfl
theorem T134_11 {C : Nat → List j_V → j_H → Option j_Z} {L : Nat} {m : j_M0} {x1 : Int} {x2 : Int} {x3 : Int} {x4 : Int} {x5 : Int} {s0 : Int} : j_fin C 134 11 [some (jR 2), some (jI x1), some (jI x2), some (jI x3), some (jI x4), some (jI x5)] [jI s0] (hH L m) = if s0 = 0 then some (some (jI (-1)), hH L m) else if 0 ≤ x1 ∧ x1 < 6 then if (m 99 x1.toNat) = (-1) then some (some (jI (-11)), hH L m) else if 0 ≤ x3 ∧ x3 < 6 then if (m 99 x3.toNat) = (-1) then some (some (jI (-11)), hH L m) else if 0 ≤ x1 ∧ x1 < 6 then if 0 ≤ x3 ∧ x3 < 6 then if (m 99 x1.toNat) = (m 99 x3.toNat) then (C 63 [jR 98, jI x1, jI x2, jI x5] (hH L m)).bind fun z => j_fin C 134 80 [some (jR 2), some (jI x1), some (jI x2), some (jI x3), some (jI x4), some (jI x5)] (z.1.toList ++ []) z.2 else some (some (jI (-12)), hH L m) else none else none else none else none := by
  refine (S_if_ne at_134_11).trans ?_
  refine ite_congr rfl (fun _ => ?_) (fun _ => ?_)
  · refine (S_iconst at_134_14).trans ?_
    exact S_ireti rfl at_134_15
  · refine (S_aload_n rfl at_134_16).trans ?_
    refine (S_getR (ka_2 L _) rfl (f_2_9 L _) at_134_17).trans ?_
    refine (S_getR (ka_98 L _) rfl (f_98_0 L _) at_134_20).trans ?_
    refine (S_iload_n rfl at_134_23).trans ?_
    refine (H_iaload (ka_99 L _) at_134_24).trans ?_
    refine ite_congr rfl (fun hi => ?_) (fun _ => rfl)
    refine (S_iconst at_134_25).trans ?_
    refine (S_icmp_eq at_134_26).trans ?_
    refine ite_congr rfl (fun _ => ?_) (fun _ => ?_)
    · refine (S_bipush at_134_42).trans ?_
      exact S_ireti rfl at_134_44
    · refine (S_aload_n rfl at_134_29).trans ?_
      refine (S_getR (ka_2 L _) rfl (f_2_9 L _) at_134_30).trans ?_
      refine (S_getR (ka_98 L _) rfl (f_98_0 L _) at_134_33).trans ?_
      refine (S_iload_n rfl at_134_36).trans ?_
      refine (H_iaload (ka_99 L _) at_134_37).trans ?_
      refine ite_congr rfl (fun hi => ?_) (fun _ => rfl)
      refine (S_iconst at_134_38).trans ?_
      refine (S_icmp_ne at_134_39).trans ?_
      refine ite_congr rfl (fun _ => ?_) (fun _ => ?_)
      · refine (S_bipush at_134_42).trans ?_
        exact S_ireti rfl at_134_44
      · refine (S_aload_n rfl at_134_45).trans ?_
        refine (S_getR (ka_2 L _) rfl (f_2_9 L _) at_134_46).trans ?_
        refine (S_getR (ka_98 L _) rfl (f_98_0 L _) at_134_49).trans ?_
        refine (S_iload_n rfl at_134_52).trans ?_
        refine (H_iaload (ka_99 L _) at_134_53).trans ?_
        refine ite_congr rfl (fun hi => ?_) (fun _ => rfl)
        refine (S_aload_n rfl at_134_54).trans ?_
        refine (S_getR (ka_2 L _) rfl (f_2_9 L _) at_134_55).trans ?_
        refine (S_getR (ka_98 L _) rfl (f_98_0 L _) at_134_58).trans ?_
        refine (S_iload_n rfl at_134_61).trans ?_
        refine (H_iaload (ka_99 L _) at_134_62).trans ?_
        refine ite_congr rfl (fun hi => ?_) (fun _ => rfl)
        refine (S_icmp_eq at_134_63).trans ?_
        refine ite_congr rfl (fun _ => ?_) (fun _ => ?_)
        · refine (S_aload_n rfl at_134_69).trans ?_
          refine (S_getR (ka_2 L _) rfl (f_2_9 L _) at_134_70).trans ?_
          refine (S_iload_n rfl at_134_73).trans ?_
          refine (S_iload_n rfl at_134_74).trans ?_
          refine (S_iload rfl at_134_75).trans ?_
          refine (S_invv (b := 3) kn_63 rfl (ka_98 L _) (Nat.le_of_ble_eq_true rfl) at_134_77).trans ?_
          rfl
        · refine (S_bipush at_134_66).trans ?_
          exact S_ireti rfl at_134_68
theorem T134_80 {C : Nat → List j_V → j_H → Option j_Z} {L : Nat} {m : j_M0} {x1 : Int} {x2 : Int} {x3 : Int} {x4 : Int} {x5 : Int} {s0 : Int} : j_fin C 134 80 [some (jR 2), some (jI x1), some (jI x2), some (jI x3), some (jI x4), some (jI x5)] [jI s0] (hH L m) = if s0 = 0 then some (some (jI (-13)), hH L m) else (C 63 [jR 98, jI x3, jI x4, jI x5] (hH L m)).bind fun z => j_fin C 134 95 [some (jR 2), some (jI x1), some (jI x2), some (jI x3), some (jI x4), some (jI x5)] (z.1.toList ++ []) z.2 := by
  refine (S_if_eq at_134_80).trans ?_
  refine ite_congr rfl (fun _ => ?_) (fun _ => ?_)
  · refine (S_bipush at_134_98).trans ?_
    exact S_ireti rfl at_134_100
  · refine (S_aload_n rfl at_134_83).trans ?_
    refine (S_getR (ka_2 L _) rfl (f_2_9 L _) at_134_84).trans ?_
    refine (S_iload_n rfl at_134_87).trans ?_
    refine (S_iload rfl at_134_88).trans ?_
    refine (S_iload rfl at_134_90).trans ?_
    refine (S_invv (b := 3) kn_63 rfl (ka_98 L _) (Nat.le_of_ble_eq_true rfl) at_134_92).trans ?_
    rfl
theorem T134_95 {C : Nat → List j_V → j_H → Option j_Z} {L : Nat} {m : j_M0} {x1 : Int} {x2 : Int} {x3 : Int} {x4 : Int} {x5 : Int} {s0 : Int} : j_fin C 134 95 [some (jR 2), some (jI x1), some (jI x2), some (jI x3), some (jI x4), some (jI x5)] [jI s0] (hH L m) = if s0 = 0 then some (some (jI (-13)), hH L m) else if 0 ≤ x1 ∧ x1 < 6 then if 0 ≤ x3 ∧ x3 < 6 then if 0 ≤ x5 ∧ 0 ≤ x2 ∧ 0 ≤ x4 ∧ x2 + x5 ≤ 60 ∧ x4 + x5 ≤ 60 then some (some (jI x5), hH L (j_cpy m (102 + x1.toNat) x2.toNat (102 + x3.toNat) x4.toNat x5.toNat)) else none else none else none := by
  refine (S_if_ne at_134_95).trans ?_
  refine ite_congr rfl (fun _ => ?_) (fun _ => ?_)
  · refine (S_bipush at_134_98).trans ?_
    exact S_ireti rfl at_134_100
  · refine (S_aload_n rfl at_134_101).trans ?_
    refine (S_getR (ka_2 L _) rfl (f_2_9 L _) at_134_102).trans ?_
    refine (S_getR (ka_98 L _) rfl (f_98_2 L _) at_134_105).trans ?_
    refine (S_iload_n rfl at_134_108).trans ?_
    refine (H_tapes at_134_109).trans ?_
    refine ite_congr rfl (fun hi => ?_) (fun _ => rfl)
    refine (S_iload_n rfl at_134_110).trans ?_
    refine (S_aload_n rfl at_134_111).trans ?_
    refine (S_getR (ka_2 L _) rfl (f_2_9 L _) at_134_112).trans ?_
    refine (S_getR (ka_98 L _) rfl (f_98_2 L _) at_134_115).trans ?_
    refine (S_iload_n rfl at_134_118).trans ?_
    refine (H_tapes at_134_119).trans ?_
    refine ite_congr rfl (fun hi => ?_) (fun _ => rfl)
    refine (S_iload rfl at_134_120).trans ?_
    refine (S_iload rfl at_134_122).trans ?_
    refine (H_cpy rfl (by decide) (ka_tp (by omega)) (ka_tp (by omega)) (by omega) (Nat.le_of_ble_eq_true rfl) at_134_124).trans ?_
    refine ite_congr rfl (fun hi => ?_) (fun _ => rfl)
    refine (S_iload rfl at_134_127).trans ?_
    exact S_ireti rfl at_134_129
theorem T135_0 {C : Nat → List j_V → j_H → Option j_Z} {L : Nat} {m : j_M0} {x1 : Int} : j_fin C 135 0 [some (jR 2), some (jI x1)] [] (hH L m) = if x1 < 0 then some (some (jI 0), hH L m) else if x1 < (m 4 0) then some (some (jI 1), hH L m) else some (some (jI 0), hH L m) := by
  refine (S_iload_n rfl at_135_0).trans ?_
  refine (S_if_lt at_135_1).trans ?_
  refine ite_congr rfl (fun _ => ?_) (fun _ => ?_)
  · refine (S_iconst at_135_22).trans ?_
    exact (S_iretz rfl at_135_23).trans (if_pos (by decide))
  · refine (S_iload_n rfl at_135_4).trans ?_
    refine (S_aload_n rfl at_135_5).trans ?_
    refine (S_getR (ka_2 L _) rfl (f_2_0 L _) at_135_6).trans ?_
    refine (S_getR (ka_3 L _) rfl (f_3_0 L _) at_135_9).trans ?_
    refine (H_get0 (ka_4 L _) rfl at_135_12).trans ?_
    refine (S_icmp_ge at_135_15).trans ?_
    refine ite_congr rfl (fun _ => ?_) (fun _ => ?_)
    · refine (S_iconst at_135_18).trans ?_
      refine (S_goto at_135_19).trans ?_
      exact (S_iretz rfl at_135_23).trans (if_pos (by decide))
    · refine (S_iconst at_135_22).trans ?_
      exact (S_iretz rfl at_135_23).trans (if_pos (by decide))
theorem T136_0 {C : Nat → List j_V → j_H → Option j_Z} {L : Nat} {m : j_M0} {x1 : Int} : j_fin C 136 0 [some (jR 2), some (jI x1)] [] (hH L m) = if x1 < 0 then some (some (jI 0), hH L m) else if x1 < (m 4 1) then some (some (jI 1), hH L m) else some (some (jI 0), hH L m) := by
  refine (S_iload_n rfl at_136_0).trans ?_
  refine (S_if_lt at_136_1).trans ?_
  refine ite_congr rfl (fun _ => ?_) (fun _ => ?_)
  · refine (S_iconst at_136_22).trans ?_
    exact (S_iretz rfl at_136_23).trans (if_pos (by decide))
  · refine (S_iload_n rfl at_136_4).trans ?_
    refine (S_aload_n rfl at_136_5).trans ?_
    refine (S_getR (ka_2 L _) rfl (f_2_0 L _) at_136_6).trans ?_
    refine (S_getR (ka_3 L _) rfl (f_3_0 L _) at_136_9).trans ?_
    refine (H_get0 (ka_4 L _) rfl at_136_12).trans ?_
    refine (S_icmp_ge at_136_15).trans ?_
    refine ite_congr rfl (fun _ => ?_) (fun _ => ?_)
    · refine (S_iconst at_136_18).trans ?_
      refine (S_goto at_136_19).trans ?_
      exact (S_iretz rfl at_136_23).trans (if_pos (by decide))
    · refine (S_iconst at_136_22).trans ?_
      exact (S_iretz rfl at_136_23).trans (if_pos (by decide))
theorem T137_0 {C : Nat → List j_V → j_H → Option j_Z} {L : Nat} {m : j_M0} {x1 : Int} : j_fin C 137 0 [some (jR 2), some (jI x1)] [] (hH L m) = if (m 2 11) = 0 then some (some (jI 0), hH L m) else if x1 < 0 then some (some (jI 0), hH L m) else if x1 < (m 50 0) then some (some (jI 1), hH L m) else some (some (jI 0), hH L m) := by
  refine (S_aload_n rfl at_137_0).trans ?_
  refine (H_get2 (ka_2 L _) rfl at_137_1).trans ?_
  refine (S_if_eq at_137_4).trans ?_
  refine ite_congr rfl (fun _ => ?_) (fun _ => ?_)
  · refine (S_iconst at_137_29).trans ?_
    exact (S_iretz rfl at_137_30).trans (if_pos (by decide))
  · refine (S_iload_n rfl at_137_7).trans ?_
    refine (S_if_lt at_137_8).trans ?_
    refine ite_congr rfl (fun _ => ?_) (fun _ => ?_)
    · refine (S_iconst at_137_29).trans ?_
      exact (S_iretz rfl at_137_30).trans (if_pos (by decide))
    · refine (S_iload_n rfl at_137_11).trans ?_
      refine (S_aload_n rfl at_137_12).trans ?_
      refine (S_getR (ka_2 L _) rfl (f_2_3 L _) at_137_13).trans ?_
      refine (S_getR (ka_40 L _) rfl (f_40_1 L _) at_137_16).trans ?_
      refine (H_get0 (ka_50 L _) rfl at_137_19).trans ?_
      refine (S_icmp_ge at_137_22).trans ?_
      refine ite_congr rfl (fun _ => ?_) (fun _ => ?_)
      · refine (S_iconst at_137_25).trans ?_
        refine (S_goto at_137_26).trans ?_
        exact (S_iretz rfl at_137_30).trans (if_pos (by decide))
      · refine (S_iconst at_137_29).trans ?_
        exact (S_iretz rfl at_137_30).trans (if_pos (by decide))
theorem T138_0 {C : Nat → List j_V → j_H → Option j_Z} {L : Nat} {m : j_M0} {x1 : Int} : j_fin C 138 0 [some (jR 2), some (jI x1)] [] (hH L m) = if x1 < 0 then some (some (jI 0), hH L m) else if 0 ≤ (m 4 0) ∧ (m 4 0) < 6 then if x1 < (m 1 (m 4 0).toNat) then some (some (jI 1), hH L m) else some (some (jI 0), hH L m) else none := by
  refine (S_iload_n rfl at_138_0).trans ?_
  refine (S_if_lt at_138_1).trans ?_
  refine ite_congr rfl (fun _ => ?_) (fun _ => ?_)
  · refine (S_iconst at_138_26).trans ?_
    exact (S_iretz rfl at_138_27).trans (if_pos (by decide))
  · refine (S_iload_n rfl at_138_4).trans ?_
    refine (S_gets at_138_5).trans ?_
    refine (S_aload_n rfl at_138_8).trans ?_
    refine (S_getR (ka_2 L _) rfl (f_2_0 L _) at_138_9).trans ?_
    refine (S_getR (ka_3 L _) rfl (f_3_0 L _) at_138_12).trans ?_
    refine (H_get0 (ka_4 L _) rfl at_138_15).trans ?_
    refine (H_iaload (ka_1 L _) at_138_18).trans ?_
    refine ite_congr rfl (fun hi => ?_) (fun _ => rfl)
    refine (S_icmp_ge at_138_19).trans ?_
    refine ite_congr rfl (fun _ => ?_) (fun _ => ?_)
    · refine (S_iconst at_138_22).trans ?_
      refine (S_goto at_138_23).trans ?_
      exact (S_iretz rfl at_138_27).trans (if_pos (by decide))
    · refine (S_iconst at_138_26).trans ?_
      exact (S_iretz rfl at_138_27).trans (if_pos (by decide))
theorem T139_0 {C : Nat → List j_V → j_H → Option j_Z} {L : Nat} {m : j_M0} {x0 : Int} : j_fin C 139 0 [some (jI x0)] [] (hH L m) = if x0 < (-99) then some (some (jI 0), hH L m) else if 999 < x0 then some (some (jI 0), hH L m) else some (some (jI 1), hH L m) := by
  refine (S_iload_n rfl at_139_0).trans ?_
  refine (S_bipush at_139_1).trans ?_
  refine (S_icmp_lt at_139_3).trans ?_
  refine ite_congr rfl (fun _ => ?_) (fun _ => ?_)
  · refine (S_iconst at_139_17).trans ?_
    exact (S_iretz rfl at_139_18).trans (if_pos (by decide))
  · refine (S_iload_n rfl at_139_6).trans ?_
    refine (S_sipush at_139_7).trans ?_
    refine (S_icmp_gt at_139_10).trans ?_
    refine ite_congr rfl (fun _ => ?_) (fun _ => ?_)
    · refine (S_iconst at_139_17).trans ?_
      exact (S_iretz rfl at_139_18).trans (if_pos (by decide))
    · refine (S_iconst at_139_13).trans ?_
      refine (S_goto at_139_14).trans ?_
      exact (S_iretz rfl at_139_18).trans (if_pos (by decide))
theorem T140_0 {C : Nat → List j_V → j_H → Option j_Z} {L : Nat} {m : j_M0} {x0 : Int} : j_fin C 140 0 [some (jI x0)] [] (hH L m) = if x0 < (-9) then some (some (jI 0), hH L m) else if 9 < x0 then some (some (jI 0), hH L m) else some (some (jI 1), hH L m) := by
  refine (S_iload_n rfl at_140_0).trans ?_
  refine (S_bipush at_140_1).trans ?_
  refine (S_icmp_lt at_140_3).trans ?_
  refine ite_congr rfl (fun _ => ?_) (fun _ => ?_)
  · refine (S_iconst at_140_16).trans ?_
    exact (S_iretz rfl at_140_17).trans (if_pos (by decide))
  · refine (S_iload_n rfl at_140_6).trans ?_
    refine (S_bipush at_140_7).trans ?_
    refine (S_icmp_gt at_140_9).trans ?_
    refine ite_congr rfl (fun _ => ?_) (fun _ => ?_)
    · refine (S_iconst at_140_16).trans ?_
      exact (S_iretz rfl at_140_17).trans (if_pos (by decide))
    · refine (S_iconst at_140_12).trans ?_
      refine (S_goto at_140_13).trans ?_
      exact (S_iretz rfl at_140_17).trans (if_pos (by decide))
theorem T141_0 {C : Nat → List j_V → j_H → Option j_Z} {L : Nat} {m : j_M0} {x0 : Int} : j_fin C 141 0 [some (jI x0)] [] (hH L m) = if x0 = 0 then some (some (jI 1), hH L m) else if x0 = 1 then some (some (jI 1), hH L m) else some (some (jI 0), hH L m) := by
  refine (S_iload_n rfl at_141_0).trans ?_
  refine (S_if_eq at_141_1).trans ?_
  refine ite_congr rfl (fun _ => ?_) (fun _ => ?_)
  · refine (S_iconst at_141_9).trans ?_
    refine (S_goto at_141_10).trans ?_
    exact (S_iretz rfl at_141_14).trans (if_pos (by decide))
  · refine (S_iload_n rfl at_141_4).trans ?_
    refine (S_iconst at_141_5).trans ?_
    refine (S_icmp_ne at_141_6).trans ?_
    refine ite_congr rfl (fun _ => ?_) (fun _ => ?_)
    · refine (S_iconst at_141_9).trans ?_
      refine (S_goto at_141_10).trans ?_
      exact (S_iretz rfl at_141_14).trans (if_pos (by decide))
    · refine (S_iconst at_141_13).trans ?_
      exact (S_iretz rfl at_141_14).trans (if_pos (by decide))
theorem T142_0 {C : Nat → List j_V → j_H → Option j_Z} {L : Nat} {m : j_M0} {x0 : Int} : j_fin C 142 0 [some (jI x0)] [] (hH L m) = if x0 < 0 then some (some (jI 0), hH L m) else if x0 < 6 then some (some (jI 1), hH L m) else some (some (jI 0), hH L m) := by
  refine (S_iload_n rfl at_142_0).trans ?_
  refine (S_if_lt at_142_1).trans ?_
  refine ite_congr rfl (fun _ => ?_) (fun _ => ?_)
  · refine (S_iconst at_142_14).trans ?_
    exact (S_iretz rfl at_142_15).trans (if_pos (by decide))
  · refine (S_iload_n rfl at_142_4).trans ?_
    refine (S_bipush at_142_5).trans ?_
    refine (S_icmp_ge at_142_7).trans ?_
    refine ite_congr rfl (fun _ => ?_) (fun _ => ?_)
    · refine (S_iconst at_142_10).trans ?_
      refine (S_goto at_142_11).trans ?_
      exact (S_iretz rfl at_142_15).trans (if_pos (by decide))
    · refine (S_iconst at_142_14).trans ?_
      exact (S_iretz rfl at_142_15).trans (if_pos (by decide))
theorem T143_0 {C : Nat → List j_V → j_H → Option j_Z} {L : Nat} {m : j_M0} {x0 : Int} {x1 : Int} : j_fin C 143 0 [some (jI x0), some (jI x1)] [] (hH L m) = if x0 = 0 then (C 139 [jI x1] (hH L m)).bind fun z => j_fin C 143 8 [some (jI x0), some (jI x1)] (z.1.toList ++ []) z.2 else if x0 = 1 then if x1 < 0 then j_fin C 143 36 [some (jI x0), some (jI x1)] [jI 0] (hH L m) else if 99 < x1 then j_fin C 143 36 [some (jI x0), some (jI x1)] [jI 0] (hH L m) else j_fin C 143 36 [some (jI x0), some (jI x1)] [jI 1] (hH L m) else (C 140 [jI x1] (hH L m)).bind fun z => j_fin C 143 36 [some (jI x0), some (jI x1)] (z.1.toList ++ []) z.2 := by
  refine (S_iload_n rfl at_143_0).trans ?_
  refine (S_if_ne at_143_1).trans ?_
  refine ite_congr rfl (fun _ => ?_) (fun _ => ?_)
  · refine (S_iload_n rfl at_143_4).trans ?_
    refine (S_invs (by decide) (Nat.le_of_ble_eq_true rfl) (Nat.le_of_ble_eq_true rfl) at_143_5).trans ?_
    rfl
  · refine (S_iload_n rfl at_143_9).trans ?_
    refine (S_iconst at_143_10).trans ?_
    refine (S_icmp_ne at_143_11).trans ?_
    refine ite_congr rfl (fun _ => ?_) (fun _ => ?_)
    · refine (S_iload_n rfl at_143_14).trans ?_
      refine (S_if_lt at_143_15).trans ?_
      refine ite_congr rfl (fun _ => ?_) (fun _ => ?_)
      · refine (S_iconst at_143_28).trans ?_
        refine (S_goto at_143_29).trans ?_
        rfl
      · refine (S_iload_n rfl at_143_18).trans ?_
        refine (S_bipush at_143_19).trans ?_
        refine (S_icmp_gt at_143_21).trans ?_
        refine ite_congr rfl (fun _ => ?_) (fun _ => ?_)
        · refine (S_iconst at_143_28).trans ?_
          refine (S_goto at_143_29).trans ?_
          rfl
        · refine (S_iconst at_143_24).trans ?_
          refine (S_goto at_143_25).trans ?_
          rfl
    · refine (S_iload_n rfl at_143_32).trans ?_
      refine (S_invs (by decide) (Nat.le_of_ble_eq_true rfl) (Nat.le_of_ble_eq_true rfl) at_143_33).trans ?_
      rfl
theorem T143_8 {C : Nat → List j_V → j_H → Option j_Z} {L : Nat} {m : j_M0} {x0 : Int} {x1 : Int} {s0 : Int} : j_fin C 143 8 [some (jI x0), some (jI x1)] [jI s0] (hH L m) = if s0 = 0 ∨ s0 = 1 then some (some (jI s0), hH L m) else none := by
  exact S_iretz rfl at_143_8
theorem T143_36 {C : Nat → List j_V → j_H → Option j_Z} {L : Nat} {m : j_M0} {x0 : Int} {x1 : Int} {s0 : Int} : j_fin C 143 36 [some (jI x0), some (jI x1)] [jI s0] (hH L m) = if s0 = 0 ∨ s0 = 1 then some (some (jI s0), hH L m) else none := by
  exact S_iretz rfl at_143_36
theorem T144_0 {C : Nat → List j_V → j_H → Option j_Z} {L : Nat} {m : j_M0} {y0 : Int} : j_fin C 144 0 [some (jL y0), none] [] (hH L m) = if 0 < (j_cmp y0 1000000000) then some (some (jI 0), hH L m) else if (j_cmp y0 (-1000000000)) < 0 then some (some (jI 0), hH L m) else some (some (jI 1), hH L m) := by
  refine (S_lload_n rfl at_144_0).trans ?_
  refine (S_ldc2_w at_144_1).trans ?_
  refine (S_lcmp at_144_4).trans ?_
  refine (S_if_gt at_144_5).trans ?_
  refine ite_congr rfl (fun _ => ?_) (fun _ => ?_)
  · refine (S_iconst at_144_20).trans ?_
    exact (S_iretz rfl at_144_21).trans (if_pos (by decide))
  · refine (S_lload_n rfl at_144_8).trans ?_
    refine (S_ldc2_w at_144_9).trans ?_
    refine (S_lcmp at_144_12).trans ?_
    refine (S_if_lt at_144_13).trans ?_
    refine ite_congr rfl (fun _ => ?_) (fun _ => ?_)
    · refine (S_iconst at_144_20).trans ?_
      exact (S_iretz rfl at_144_21).trans (if_pos (by decide))
    · refine (S_iconst at_144_16).trans ?_
      refine (S_goto at_144_17).trans ?_
      exact (S_iretz rfl at_144_21).trans (if_pos (by decide))
theorem T145_0 {C : Nat → List j_V → j_H → Option j_Z} {L : Nat} {m : j_M0} : j_fin C 145 0 [some (jR 2), none] [] (hH L m) = (C 29 [jR 54, jR 35, jI 12] (hH L m)).bind fun z => j_fin C 145 13 [some (jR 2), none] (z.1.toList ++ []) z.2 := by
  refine (S_aload_n rfl at_145_0).trans ?_
  refine (S_getR (ka_2 L _) rfl (f_2_4 L _) at_145_1).trans ?_
  refine (S_aload_n rfl at_145_4).trans ?_
  refine (S_getR (ka_2 L _) rfl (f_2_2 L _) at_145_5).trans ?_
  refine (S_bipush at_145_8).trans ?_
  refine (S_invv (b := 2) kn_29 rfl (ka_54 L _) (Nat.le_of_ble_eq_true rfl) at_145_10).trans ?_
  rfl
theorem T145_13 {C : Nat → List j_V → j_H → Option j_Z} {L : Nat} {m : j_M0} {s0 : Int} : j_fin C 145 13 [some (jR 2), none] [jI s0] (hH L m) = if s0 = 1 then j_fin C 145 21 [some (jR 2), some (jI 0)] [] (hH L m) else some (some (jI 0), hH L m) := by
  refine (S_iconst at_145_13).trans ?_
  refine (S_icmp_eq at_145_14).trans ?_
  refine ite_congr rfl (fun _ => ?_) (fun _ => ?_)
  · refine (S_iconst at_145_19).trans ?_
    refine (S_istore_n (l1 := [some (jR 2), some (jI 0)]) rfl at_145_20).trans ?_
    rfl
  · refine (S_iconst at_145_17).trans ?_
    exact (S_iretz rfl at_145_18).trans (if_pos (by decide))
theorem T145_21 {C : Nat → List j_V → j_H → Option j_Z} {L : Nat} {m : j_M0} {x1 : Int} : j_fin C 145 21 [some (jR 2), some (jI x1)] [] (hH L m) = if x1 < (m 3 5) then if 0 ≤ x1 ∧ x1 < 5 then (C 54 [jR 55, jI (m 14 x1.toNat)] (hH L m)).bind fun z => j_fin C 145 51 [some (jR 2), some (jI x1)] (z.1.toList ++ []) z.2 else none else some (some (jI 1), hH L m) := by
  refine (S_iload_n rfl at_145_21).trans ?_
  refine (S_aload_n rfl at_145_22).trans ?_
  refine (S_getR (ka_2 L _) rfl (f_2_0 L _) at_145_23).trans ?_
  refine (H_get0 (ka_3 L _) rfl at_145_26).trans ?_
  refine (S_icmp_ge at_145_29).trans ?_
  refine ite_congr rfl (fun _ => ?_) (fun _ => ?_)
  · refine (S_aload_n rfl at_145_32).trans ?_
    refine (S_getR (ka_2 L _) rfl (f_2_4 L _) at_145_33).trans ?_
    refine (S_getR (ka_54 L _) rfl (f_54_0 L _) at_145_36).trans ?_
    refine (S_aload_n rfl at_145_39).trans ?_
    refine (S_getR (ka_2 L _) rfl (f_2_0 L _) at_145_40).trans ?_
    refine (S_getR (ka_3 L _) rfl (f_3_6 L _) at_145_43).trans ?_
    refine (S_iload_n rfl at_145_46).trans ?_
    refine (H_iaload (ka_14 L _) at_145_47).trans ?_
    refine ite_congr rfl (fun hi => ?_) (fun _ => rfl)
    refine (S_invv (b := 1) kn_54 rfl (ka_55 L _) (Nat.le_of_ble_eq_true rfl) at_145_48).trans ?_
    rfl
  · refine (S_iconst at_145_73).trans ?_
    exact (S_iretz rfl at_145_74).trans (if_pos (by decide))
theorem T145_51 {C : Nat → List j_V → j_H → Option j_Z} {L : Nat} {m : j_M0} {x1 : Int} {t0 : Int} : j_fin C 145 51 [some (jR 2), some (jI x1)] [jL t0] (hH L m) = if 0 ≤ x1 ∧ x1 < 5 then if (j_cmp t0 (m 15 x1.toNat)) = 0 then j_fin C 145 21 [some (jR 2), some (jI (w32 (x1 + 1)))] [] (hH L m) else some (some (jI 0), hH L m) else none := by
  refine (S_aload_n rfl at_145_51).trans ?_
  refine (S_getR (ka_2 L _) rfl (f_2_0 L _) at_145_52).trans ?_
  refine (S_getR (ka_3 L _) rfl (f_3_7 L _) at_145_55).trans ?_
  refine (S_iload_n rfl at_145_58).trans ?_
  refine (H_iaload (ka_15 L _) at_145_59).trans ?_
  refine ite_congr rfl (fun hi => ?_) (fun _ => rfl)
  refine (S_i2l at_145_60).trans ?_
  refine (S_lcmp at_145_61).trans ?_
  refine (S_if_eq at_145_62).trans ?_
  refine ite_congr rfl (fun _ => ?_) (fun _ => ?_)
  · refine (S_iinc (l1 := [some (jR 2), some (jI (w32 (x1 + 1)))]) rfl rfl at_145_67).trans ?_
    refine (S_goto at_145_70).trans ?_
    rfl
  · refine (S_iconst at_145_65).trans ?_
    exact (S_iretz rfl at_145_66).trans (if_pos (by decide))
theorem T146_0 {C : Nat → List j_V → j_H → Option j_Z} {L : Nat} {m : j_M0} {y0 : Int} {y2 : Int} {x4 : Int} : j_fin C 146 0 [some (jL y0), none, some (jL y2), none, some (jI x4), none, none, none, none, none, none, none] [] (hH L m) = (C 267 [jL y0] (hH L m)).bind fun z => j_fin C 146 7 [some (jL y0), none, some (jL y2), none, some (jI x4), some (jL y2), none, none, none, none, none, none] (z.1.toList ++ []) z.2 := by
  refine (S_lload_n rfl at_146_0).trans ?_
  refine (S_lstore (l1 := [some (jL y0), none, some (jL y2), none, some (jI x4), some (jL y2), none, none, none, none, none, none]) rfl at_146_1).trans ?_
  refine (S_lload_n rfl at_146_3).trans ?_
  refine (S_invs (by decide) (Nat.le_of_ble_eq_true rfl) (Nat.le_of_ble_eq_true rfl) at_146_4).trans ?_
  rfl
theorem T146_7 {C : Nat → List j_V → j_H → Option j_Z} {L : Nat} {m : j_M0} {y0 : Int} {y2 : Int} {x4 : Int} {y5 : Int} {t0 : Int} : j_fin C 146 7 [some (jL y0), none, some (jL y2), none, some (jI x4), some (jL y5), none, none, none, none, none, none] [jL t0] (hH L m) = j_fin C 146 12 [some (jL y0), none, some (jL y2), none, some (jI x4), some (jL y5), none, some (jL t0), none, some (jI 0), none, none] [] (hH L m) := by
  refine (S_lstore (l1 := [some (jL y0), none, some (jL y2), none, some (jI x4), some (jL y5), none, some (jL t0), none, none, none, none]) rfl at_146_7).trans ?_
  refine (S_iconst at_146_9).trans ?_
  refine (S_istore (l1 := [some (jL y0), none, some (jL y2), none, some (jI x4), some (jL y5), none, some (jL t0), none, some (jI 0), none, none]) rfl at_146_10).trans ?_
  rfl
theorem T146_12 {C : Nat → List j_V → j_H → Option j_Z} {L : Nat} {m : j_M0} {y0 : Int} {y2 : Int} {x4 : Int} {y5 : Int} {y7 : Int} {x9 : Int} {o10 : Option j_V} : j_fin C 146 12 [some (jL y0), none, some (jL y2), none, some (jI x4), some (jL y5), none, some (jL y7), none, some (jI x9), o10, none] [] (hH L m) = if x9 < 200 then if (j_cmp y7 0) = 0 then if 0 < (j_cmp y5 0) then if x4 = 0 then if y5 = 0 then none else some (some (jL (w64 (Int.tdiv y0 y5))), hH L m) else if y5 = 0 then none else some (some (jL (w64 (Int.tdiv y2 y5))), hH L m) else some (some (jL (-9223372036854775808)), hH L m) else if y7 = 0 then none else j_fin C 146 12 [some (jL y0), none, some (jL y2), none, some (jI x4), some (jL y7), none, some (jL (Int.tmod y5 y7)), none, some (jI (w32 (x9 + 1))), some (jL (Int.tmod y5 y7)), none] [] (hH L m) else if 0 < (j_cmp y5 0) then if x4 = 0 then if y5 = 0 then none else some (some (jL (w64 (Int.tdiv y0 y5))), hH L m) else if y5 = 0 then none else some (some (jL (w64 (Int.tdiv y2 y5))), hH L m) else some (some (jL (-9223372036854775808)), hH L m) := by
  refine (S_iload rfl at_146_12).trans ?_
  refine (S_sipush at_146_14).trans ?_
  refine (S_icmp_ge at_146_17).trans ?_
  refine ite_congr rfl (fun _ => ?_) (fun _ => ?_)
  · refine (S_lload rfl at_146_20).trans ?_
    refine (S_lconst at_146_22).trans ?_
    refine (S_lcmp at_146_23).trans ?_
    refine (S_if_eq at_146_24).trans ?_
    refine ite_congr rfl (fun _ => ?_) (fun _ => ?_)
    · refine (S_lload rfl at_146_48).trans ?_
      refine (S_lconst at_146_50).trans ?_
      refine (S_lcmp at_146_51).trans ?_
      refine (S_if_gt at_146_52).trans ?_
      refine ite_congr rfl (fun _ => ?_) (fun _ => ?_)
      · refine (S_iload rfl at_146_59).trans ?_
        refine (S_if_ne at_146_61).trans ?_
        refine ite_congr rfl (fun _ => ?_) (fun _ => ?_)
        · refine (S_lload_n rfl at_146_64).trans ?_
          refine (S_goto at_146_65).trans ?_
          refine (S_lload rfl at_146_69).trans ?_
          refine (S_ldiv at_146_71).trans ?_
          refine ite_congr rfl (fun _ => rfl) (fun hz => ?_)
          exact S_lret rfl at_146_72
        · refine (S_lload_n rfl at_146_68).trans ?_
          refine (S_lload rfl at_146_69).trans ?_
          refine (S_ldiv at_146_71).trans ?_
          refine ite_congr rfl (fun _ => rfl) (fun hz => ?_)
          exact S_lret rfl at_146_72
      · refine (S_ldc2_w at_146_55).trans ?_
        exact S_lret rfl at_146_58
    · refine (S_lload rfl at_146_27).trans ?_
      refine (S_lload rfl at_146_29).trans ?_
      refine (S_lrem at_146_31).trans ?_
      refine ite_congr rfl (fun _ => rfl) (fun hz => ?_)
      refine (S_lstore (l1 := [some (jL y0), none, some (jL y2), none, some (jI x4), some (jL y5), none, some (jL y7), none, some (jI x9), some (jL (Int.tmod y5 y7)), none]) rfl at_146_32).trans ?_
      refine (S_lload rfl at_146_34).trans ?_
      refine (S_lstore (l1 := [some (jL y0), none, some (jL y2), none, some (jI x4), some (jL y7), none, some (jL y7), none, some (jI x9), some (jL (Int.tmod y5 y7)), none]) rfl at_146_36).trans ?_
      refine (S_lload rfl at_146_38).trans ?_
      refine (S_lstore (l1 := [some (jL y0), none, some (jL y2), none, some (jI x4), some (jL y7), none, some (jL (Int.tmod y5 y7)), none, some (jI x9), some (jL (Int.tmod y5 y7)), none]) rfl at_146_40).trans ?_
      refine (S_iinc (l1 := [some (jL y0), none, some (jL y2), none, some (jI x4), some (jL y7), none, some (jL (Int.tmod y5 y7)), none, some (jI (w32 (x9 + 1))), some (jL (Int.tmod y5 y7)), none]) rfl rfl at_146_42).trans ?_
      refine (S_goto at_146_45).trans ?_
      rfl
  · refine (S_lload rfl at_146_48).trans ?_
    refine (S_lconst at_146_50).trans ?_
    refine (S_lcmp at_146_51).trans ?_
    refine (S_if_gt at_146_52).trans ?_
    refine ite_congr rfl (fun _ => ?_) (fun _ => ?_)
    · refine (S_iload rfl at_146_59).trans ?_
      refine (S_if_ne at_146_61).trans ?_
      refine ite_congr rfl (fun _ => ?_) (fun _ => ?_)
      · refine (S_lload_n rfl at_146_64).trans ?_
        refine (S_goto at_146_65).trans ?_
        refine (S_lload rfl at_146_69).trans ?_
        refine (S_ldiv at_146_71).trans ?_
        refine ite_congr rfl (fun _ => rfl) (fun hz => ?_)
        exact S_lret rfl at_146_72
      · refine (S_lload_n rfl at_146_68).trans ?_
        refine (S_lload rfl at_146_69).trans ?_
        refine (S_ldiv at_146_71).trans ?_
        refine ite_congr rfl (fun _ => rfl) (fun hz => ?_)
        exact S_lret rfl at_146_72
    · refine (S_ldc2_w at_146_55).trans ?_
      exact S_lret rfl at_146_58
theorem T149_0 {C : Nat → List j_V → j_H → Option j_Z} {L : Nat} {m : j_M0} {x1 : Int} : j_fin C 149 0 [some (jR 109), some (jI x1), none, none] [] (hH L m) = j_fin C 149 9 [some (jR 109), some (jI x1), some (jI (m 110 3)), some (jI 0)] [] (hH L m) := by
  refine (S_aload_n rfl at_149_0).trans ?_
  refine (S_getR (ka_109 L _) rfl (f_109_0 L _) at_149_1).trans ?_
  refine (S_iconst at_149_4).trans ?_
  refine (H_iaload (ka_110 L _) at_149_5).trans ?_
  refine (if_pos (by decide)).trans ?_
  refine (S_istore_n (l1 := [some (jR 109), some (jI x1), some (jI (m 110 3)), none]) rfl at_149_6).trans ?_
  refine (S_iconst at_149_7).trans ?_
  refine (S_istore_n (l1 := [some (jR 109), some (jI x1), some (jI (m 110 3)), some (jI 0)]) rfl at_149_8).trans ?_
  rfl
theorem T149_9 {C : Nat → List j_V → j_H → Option j_Z} {L : Nat} {m : j_M0} {x1 : Int} {x2 : Int} {x3 : Int} : j_fin C 149 9 [some (jR 109), some (jI x1), some (jI x2), some (jI x3)] [] (hH L m) = if x3 < 150 then if 0 ≤ x3 ∧ x3 < 150 then j_fin C 149 9 [some (jR 109), some (jI x1), some (jI x2), some (jI (w32 (x3 + 1)))] [] (hH L (j_up m 110 x3.toNat 0)) else none else j_fin C 149 52 [some (jR 109), some (jI x1), some (jI x2), some (jI 0)] [] (hH L (j_up (j_up (j_up m 110 0 x1) 110 2 1) 110 3 x2)) := by
  refine (S_iload_n rfl at_149_9).trans ?_
  refine (S_sipush at_149_10).trans ?_
  refine (S_icmp_ge at_149_13).trans ?_
  refine ite_congr rfl (fun _ => ?_) (fun _ => ?_)
  · refine (S_aload_n rfl at_149_16).trans ?_
    refine (S_getR (ka_109 L _) rfl (f_109_0 L _) at_149_17).trans ?_
    refine (S_iload_n rfl at_149_20).trans ?_
    refine (S_iconst at_149_21).trans ?_
    refine (H_iastore (by omega) (ka_110 L _) at_149_22).trans ?_
    refine ite_congr rfl (fun hi => ?_) (fun _ => rfl)
    refine (S_iinc (l1 := [some (jR 109), some (jI x1), some (jI x2), some (jI (w32 (x3 + 1)))]) rfl rfl at_149_23).trans ?_
    refine (S_goto at_149_26).trans ?_
    rfl
  · refine (S_aload_n rfl at_149_29).trans ?_
    refine (S_getR (ka_109 L _) rfl (f_109_0 L _) at_149_30).trans ?_
    refine (S_iconst at_149_33).trans ?_
    refine (S_iload_n rfl at_149_34).trans ?_
    refine (H_iastore (by omega) (ka_110 L _) at_149_35).trans ?_
    refine (if_pos (by decide)).trans ?_
    refine (S_aload_n rfl at_149_36).trans ?_
    refine (S_getR (ka_109 L _) rfl (f_109_0 L _) at_149_37).trans ?_
    refine (S_iconst at_149_40).trans ?_
    refine (S_iconst at_149_41).trans ?_
    refine (H_iastore (by omega) (ka_110 L _) at_149_42).trans ?_
    refine (if_pos (by decide)).trans ?_
    refine (S_aload_n rfl at_149_43).trans ?_
    refine (S_getR (ka_109 L _) rfl (f_109_0 L _) at_149_44).trans ?_
    refine (S_iconst at_149_47).trans ?_
    refine (S_iload_n rfl at_149_48).trans ?_
    refine (H_iastore (by omega) (ka_110 L _) at_149_49).trans ?_
    refine (if_pos (by decide)).trans ?_
    refine (S_iconst at_149_50).trans ?_
    refine (S_istore_n (l1 := [some (jR 109), some (jI x1), some (jI x2), some (jI 0)]) rfl at_149_51).trans ?_
    rfl
theorem T149_52 {C : Nat → List j_V → j_H → Option j_Z} {L : Nat} {m : j_M0} {x1 : Int} {x2 : Int} {x3 : Int} : j_fin C 149 52 [some (jR 109), some (jI x1), some (jI x2), some (jI x3)] [] (hH L m) = if x3 < 5 then if 0 ≤ (w32 (7 + x3)) ∧ (w32 (7 + x3)) < 150 then j_fin C 149 52 [some (jR 109), some (jI x1), some (jI x2), some (jI (w32 (x3 + 1)))] [] (hH L (j_up m 110 (w32 (7 + x3)).toNat 1)) else none else some (none, hH L (j_up m 115 18 0)) := by
  refine (S_iload_n rfl at_149_52).trans ?_
  refine (S_iconst at_149_53).trans ?_
  refine (S_icmp_ge at_149_54).trans ?_
  refine ite_congr rfl (fun _ => ?_) (fun _ => ?_)
  · refine (S_aload_n rfl at_149_57).trans ?_
    refine (S_getR (ka_109 L _) rfl (f_109_0 L _) at_149_58).trans ?_
    refine (S_bipush at_149_61).trans ?_
    refine (S_iload_n rfl at_149_63).trans ?_
    refine (S_iadd at_149_64).trans ?_
    refine (S_iconst at_149_65).trans ?_
    refine (H_iastore (by omega) (ka_110 L _) at_149_66).trans ?_
    refine ite_congr rfl (fun hi => ?_) (fun _ => rfl)
    refine (S_iinc (l1 := [some (jR 109), some (jI x1), some (jI x2), some (jI (w32 (x3 + 1)))]) rfl rfl at_149_67).trans ?_
    refine (S_goto at_149_70).trans ?_
    rfl
  · refine (S_aload_n rfl at_149_73).trans ?_
    refine (S_getR (ka_109 L _) rfl (f_109_9 L _) at_149_74).trans ?_
    refine (S_iconst at_149_77).trans ?_
    refine (H_put2 (ka_115 L _) rfl at_149_78).trans ?_
    refine (if_pos (by decide)).trans ?_
    exact S_ret rfl at_149_81
theorem T150_0 {C : Nat → List j_V → j_H → Option j_Z} {L : Nat} {m : j_M0} {y0 : Int} {y2 : Int} {y4 : Int} : j_fin C 150 0 [some (jL y0), none, some (jL y2), none, some (jL y4), none] [] (hH L m) = if (j_cmp y0 y2) < 0 then some (some (jI 0), hH L m) else if 0 < (j_cmp y0 y4) then some (some (jI 0), hH L m) else some (some (jI 1), hH L m) := by
  refine (S_lload_n rfl at_150_0).trans ?_
  refine (S_lload_n rfl at_150_1).trans ?_
  refine (S_lcmp at_150_2).trans ?_
  refine (S_if_lt at_150_3).trans ?_
  refine ite_congr rfl (fun _ => ?_) (fun _ => ?_)
  · refine (S_iconst at_150_17).trans ?_
    exact (S_iretz rfl at_150_18).trans (if_pos (by decide))
  · refine (S_lload_n rfl at_150_6).trans ?_
    refine (S_lload rfl at_150_7).trans ?_
    refine (S_lcmp at_150_9).trans ?_
    refine (S_if_gt at_150_10).trans ?_
    refine ite_congr rfl (fun _ => ?_) (fun _ => ?_)
    · refine (S_iconst at_150_17).trans ?_
      exact (S_iretz rfl at_150_18).trans (if_pos (by decide))
    · refine (S_iconst at_150_13).trans ?_
      refine (S_goto at_150_14).trans ?_
      exact (S_iretz rfl at_150_18).trans (if_pos (by decide))
theorem T151_0 {C : Nat → List j_V → j_H → Option j_Z} {L : Nat} {m : j_M0} : j_fin C 151 0 [some (jR 109)] [] (hH L m) = some (some (jI (m 110 0)), hH L m) := by
  refine (S_aload_n rfl at_151_0).trans ?_
  refine (S_getR (ka_109 L _) rfl (f_109_0 L _) at_151_1).trans ?_
  refine (S_iconst at_151_4).trans ?_
  refine (H_iaload (ka_110 L _) at_151_5).trans ?_
  refine (if_pos (by decide)).trans ?_
  exact S_ireti rfl at_151_6
theorem T152_0 {C : Nat → List j_V → j_H → Option j_Z} {L : Nat} {m : j_M0} {x1 : Int} : j_fin C 152 0 [some (jR 109), some (jI x1)] [] (hH L m) = (C 151 [jR 109] (hH L m)).bind fun z => j_fin C 152 7 [some (jR 109), some (jI x1)] (z.1.toList ++ [jL 0, jL x1]) z.2 := by
  refine (S_iload_n rfl at_152_0).trans ?_
  refine (S_i2l at_152_1).trans ?_
  refine (S_lconst at_152_2).trans ?_
  refine (S_aload_n rfl at_152_3).trans ?_
  refine (S_invv (b := 0) kn_151 rfl (ka_109 L _) (Nat.le_of_ble_eq_true rfl) at_152_4).trans ?_
  rfl
theorem T152_7 {C : Nat → List j_V → j_H → Option j_Z} {L : Nat} {m : j_M0} {x1 : Int} {t0 : Int} {t1 : Int} {s2 : Int} : j_fin C 152 7 [some (jR 109), some (jI x1)] [jI s2, jL t1, jL t0] (hH L m) = (C 150 [jL t0, jL t1, jL (w32 (s2 - 1))] (hH L m)).bind fun z => j_fin C 152 13 [some (jR 109), some (jI x1)] (z.1.toList ++ []) z.2 := by
  refine (S_iconst at_152_7).trans ?_
  refine (S_isub at_152_8).trans ?_
  refine (S_i2l at_152_9).trans ?_
  refine (S_invs (by decide) (Nat.le_of_ble_eq_true rfl) (Nat.le_of_ble_eq_true rfl) at_152_10).trans ?_
  rfl
theorem T152_13 {C : Nat → List j_V → j_H → Option j_Z} {L : Nat} {m : j_M0} {x1 : Int} {s0 : Int} : j_fin C 152 13 [some (jR 109), some (jI x1)] [jI s0] (hH L m) = if s0 = 0 ∨ s0 = 1 then some (some (jI s0), hH L m) else none := by
  exact S_iretz rfl at_152_13
theorem T153_0 {C : Nat → List j_V → j_H → Option j_Z} {L : Nat} {m : j_M0} {x1 : Int} : j_fin C 153 0 [some (jR 109), some (jI x1)] [] (hH L m) = (C 150 [jL x1, jL 0, jL (w32 ((m 110 1) - 1))] (hH L m)).bind fun z => j_fin C 153 15 [some (jR 109), some (jI x1)] (z.1.toList ++ []) z.2 := by
  refine (S_iload_n rfl at_153_0).trans ?_
  refine (S_i2l at_153_1).trans ?_
  refine (S_lconst at_153_2).trans ?_
  refine (S_aload_n rfl at_153_3).trans ?_
  refine (S_getR (ka_109 L _) rfl (f_109_0 L _) at_153_4).trans ?_
  refine (S_iconst at_153_7).trans ?_
  refine (H_iaload (ka_110 L _) at_153_8).trans ?_
  refine (if_pos (by decide)).trans ?_
  refine (S_iconst at_153_9).trans ?_
  refine (S_isub at_153_10).trans ?_
  refine (S_i2l at_153_11).trans ?_
  refine (S_invs (by decide) (Nat.le_of_ble_eq_true rfl) (Nat.le_of_ble_eq_true rfl) at_153_12).trans ?_
  rfl
theorem T153_15 {C : Nat → List j_V → j_H → Option j_Z} {L : Nat} {m : j_M0} {x1 : Int} {s0 : Int} : j_fin C 153 15 [some (jR 109), some (jI x1)] [jI s0] (hH L m) = if s0 = 0 ∨ s0 = 1 then some (some (jI s0), hH L m) else none := by
  exact S_iretz rfl at_153_15
theorem T154_0 {C : Nat → List j_V → j_H → Option j_Z} {L : Nat} {m : j_M0} {x1 : Int} : j_fin C 154 0 [some (jR 109), some (jI x1)] [] (hH L m) = if 0 ≤ (w32 (12 + (w32 (7 * x1)))) ∧ (w32 (12 + (w32 (7 * x1)))) < 150 then some (some (jI (m 110 (w32 (12 + (w32 (7 * x1)))).toNat)), hH L m) else none := by
  refine (S_aload_n rfl at_154_0).trans ?_
  refine (S_getR (ka_109 L _) rfl (f_109_0 L _) at_154_1).trans ?_
  refine (S_bipush at_154_4).trans ?_
  refine (S_bipush at_154_6).trans ?_
  refine (S_iload_n rfl at_154_8).trans ?_
  refine (S_imul at_154_9).trans ?_
  refine (S_iadd at_154_10).trans ?_
  refine (H_iaload (ka_110 L _) at_154_11).trans ?_
  refine ite_congr rfl (fun hi => ?_) (fun _ => rfl)
  exact S_ireti rfl at_154_12
theorem T155_0 {C : Nat → List j_V → j_H → Option j_Z} {L : Nat} {m : j_M0} {x1 : Int} : j_fin C 155 0 [some (jR 109), some (jI x1)] [] (hH L m) = if 0 ≤ (w32 ((w32 (12 + (w32 (7 * x1)))) + 1)) ∧ (w32 ((w32 (12 + (w32 (7 * x1)))) + 1)) < 150 then some (some (jI (m 110 (w32 ((w32 (12 + (w32 (7 * x1)))) + 1)).toNat)), hH L m) else none := by
  refine (S_aload_n rfl at_155_0).trans ?_
  refine (S_getR (ka_109 L _) rfl (f_109_0 L _) at_155_1).trans ?_
  refine (S_bipush at_155_4).trans ?_
  refine (S_bipush at_155_6).trans ?_
  refine (S_iload_n rfl at_155_8).trans ?_
  refine (S_imul at_155_9).trans ?_
  refine (S_iadd at_155_10).trans ?_
  refine (S_iconst at_155_11).trans ?_
  refine (S_iadd at_155_12).trans ?_
  refine (H_iaload (ka_110 L _) at_155_13).trans ?_
  refine ite_congr rfl (fun hi => ?_) (fun _ => rfl)
  exact S_ireti rfl at_155_14
theorem T156_0 {C : Nat → List j_V → j_H → Option j_Z} {L : Nat} {m : j_M0} {x1 : Int} {x2 : Int} : j_fin C 156 0 [some (jR 109), some (jI x1), some (jI x2)] [] (hH L m) = if 0 ≤ (w32 ((w32 ((w32 (12 + (w32 (7 * x1)))) + 2)) + x2)) ∧ (w32 ((w32 ((w32 (12 + (w32 (7 * x1)))) + 2)) + x2)) < 150 then some (some (jI (m 110 (w32 ((w32 ((w32 (12 + (w32 (7 * x1)))) + 2)) + x2)).toNat)), hH L m) else none := by
  refine (S_aload_n rfl at_156_0).trans ?_
  refine (S_getR (ka_109 L _) rfl (f_109_0 L _) at_156_1).trans ?_
  refine (S_bipush at_156_4).trans ?_
  refine (S_bipush at_156_6).trans ?_
  refine (S_iload_n rfl at_156_8).trans ?_
  refine (S_imul at_156_9).trans ?_
  refine (S_iadd at_156_10).trans ?_
  refine (S_iconst at_156_11).trans ?_
  refine (S_iadd at_156_12).trans ?_
  refine (S_iload_n rfl at_156_13).trans ?_
  refine (S_iadd at_156_14).trans ?_
  refine (H_iaload (ka_110 L _) at_156_15).trans ?_
  refine ite_congr rfl (fun hi => ?_) (fun _ => rfl)
  exact S_ireti rfl at_156_16
theorem T157_0 {C : Nat → List j_V → j_H → Option j_Z} {L : Nat} {m : j_M0} {x1 : Int} {x2 : Int} : j_fin C 157 0 [some (jR 109), some (jI x1), some (jI x2)] [] (hH L m) = (C 154 [jR 109, jI x1] (hH L m)).bind fun z => j_fin C 157 5 [some (jR 109), some (jI x1), some (jI x2)] (z.1.toList ++ []) z.2 := by
  refine (S_aload_n rfl at_157_0).trans ?_
  refine (S_iload_n rfl at_157_1).trans ?_
  refine (S_invv (b := 1) kn_154 rfl (ka_109 L _) (Nat.le_of_ble_eq_true rfl) at_157_2).trans ?_
  rfl
theorem T157_5 {C : Nat → List j_V → j_H → Option j_Z} {L : Nat} {m : j_M0} {x1 : Int} {x2 : Int} {s0 : Int} : j_fin C 157 5 [some (jR 109), some (jI x1), some (jI x2)] [jI s0] (hH L m) = if s0 = 0 then (C 156 [jR 109, jI x1, jI x2] (hH L m)).bind fun z => j_fin C 157 14 [some (jR 109), some (jI x1), some (jI x2)] (z.1.toList ++ []) z.2 else (C 156 [jR 109, jI x1, jI x2] (hH L m)).bind fun z => j_fin C 157 25 [some (jR 109), some (jI x1), some (jI x2)] (z.1.toList ++ []) z.2 := by
  refine (S_if_ne at_157_5).trans ?_
  refine ite_congr rfl (fun _ => ?_) (fun _ => ?_)
  · refine (S_aload_n rfl at_157_8).trans ?_
    refine (S_iload_n rfl at_157_9).trans ?_
    refine (S_iload_n rfl at_157_10).trans ?_
    refine (S_invv (b := 2) kn_156 rfl (ka_109 L _) (Nat.le_of_ble_eq_true rfl) at_157_11).trans ?_
    rfl
  · refine (S_aload_n rfl at_157_19).trans ?_
    refine (S_iload_n rfl at_157_20).trans ?_
    refine (S_iload_n rfl at_157_21).trans ?_
    refine (S_invv (b := 2) kn_156 rfl (ka_109 L _) (Nat.le_of_ble_eq_true rfl) at_157_22).trans ?_
    rfl
theorem T157_14 {C : Nat → List j_V → j_H → Option j_Z} {L : Nat} {m : j_M0} {x1 : Int} {x2 : Int} {s0 : Int} : j_fin C 157 14 [some (jR 109), some (jI x1), some (jI x2)] [jI s0] (hH L m) = some (some (jL (w32 (-s0))), hH L m) := by
  refine (S_ineg at_157_14).trans ?_
  refine (S_i2l at_157_15).trans ?_
  refine (S_goto at_157_16).trans ?_
  exact S_lret rfl at_157_26
theorem T157_25 {C : Nat → List j_V → j_H → Option j_Z} {L : Nat} {m : j_M0} {x1 : Int} {x2 : Int} {s0 : Int} : j_fin C 157 25 [some (jR 109), some (jI x1), some (jI x2)] [jI s0] (hH L m) = some (some (jL s0), hH L m) := by
  refine (S_i2l at_157_25).trans ?_
  exact S_lret rfl at_157_26
theorem T158_0 {C : Nat → List j_V → j_H → Option j_Z} {L : Nat} {m : j_M0} {x1 : Int} : j_fin C 158 0 [some (jR 109), some (jI x1)] [] (hH L m) = (C 154 [jR 109, jI x1] (hH L m)).bind fun z => j_fin C 158 5 [some (jR 109), some (jI x1)] (z.1.toList ++ []) z.2 := by
  refine (S_aload_n rfl at_158_0).trans ?_
  refine (S_iload_n rfl at_158_1).trans ?_
  refine (S_invv (b := 1) kn_154 rfl (ka_109 L _) (Nat.le_of_ble_eq_true rfl) at_158_2).trans ?_
  rfl
theorem T158_5 {C : Nat → List j_V → j_H → Option j_Z} {L : Nat} {m : j_M0} {x1 : Int} {s0 : Int} : j_fin C 158 5 [some (jR 109), some (jI x1)] [jI s0] (hH L m) = if s0 = 0 then (C 155 [jR 109, jI x1] (hH L m)).bind fun z => j_fin C 158 13 [some (jR 109), some (jI x1)] (z.1.toList ++ []) z.2 else (C 155 [jR 109, jI x1] (hH L m)).bind fun z => j_fin C 158 23 [some (jR 109), some (jI x1)] (z.1.toList ++ []) z.2 := by
  refine (S_if_ne at_158_5).trans ?_
  refine ite_congr rfl (fun _ => ?_) (fun _ => ?_)
  · refine (S_aload_n rfl at_158_8).trans ?_
    refine (S_iload_n rfl at_158_9).trans ?_
    refine (S_invv (b := 1) kn_155 rfl (ka_109 L _) (Nat.le_of_ble_eq_true rfl) at_158_10).trans ?_
    rfl
  · refine (S_aload_n rfl at_158_18).trans ?_
    refine (S_iload_n rfl at_158_19).trans ?_
    refine (S_invv (b := 1) kn_155 rfl (ka_109 L _) (Nat.le_of_ble_eq_true rfl) at_158_20).trans ?_
    rfl
theorem T158_13 {C : Nat → List j_V → j_H → Option j_Z} {L : Nat} {m : j_M0} {x1 : Int} {s0 : Int} : j_fin C 158 13 [some (jR 109), some (jI x1)] [jI s0] (hH L m) = some (some (jL (w32 (-s0))), hH L m) := by
  refine (S_ineg at_158_13).trans ?_
  refine (S_i2l at_158_14).trans ?_
  refine (S_goto at_158_15).trans ?_
  exact S_lret rfl at_158_24
theorem T158_23 {C : Nat → List j_V → j_H → Option j_Z} {L : Nat} {m : j_M0} {x1 : Int} {s0 : Int} : j_fin C 158 23 [some (jR 109), some (jI x1)] [jI s0] (hH L m) = some (some (jL s0), hH L m) := by
  refine (S_i2l at_158_23).trans ?_
  exact S_lret rfl at_158_24
theorem T159_0 {C : Nat → List j_V → j_H → Option j_Z} {L : Nat} {m : j_M0} {x1 : Int} : j_fin C 159 0 [some (jR 109), some (jI x1), none] [] (hH L m) = (C 150 [jL x1, jL 1, jL 5] (hH L m)).bind fun z => j_fin C 159 9 [some (jR 109), some (jI x1), none] (z.1.toList ++ []) z.2 := by
  refine (S_iload_n rfl at_159_0).trans ?_
  refine (S_i2l at_159_1).trans ?_
  refine (S_lconst at_159_2).trans ?_
  refine (S_ldc2_w at_159_3).trans ?_
  refine (S_invs (by decide) (Nat.le_of_ble_eq_true rfl) (Nat.le_of_ble_eq_true rfl) at_159_6).trans ?_
  rfl
theorem T159_9 {C : Nat → List j_V → j_H → Option j_Z} {L : Nat} {m : j_M0} {x1 : Int} {s0 : Int} : j_fin C 159 9 [some (jR 109), some (jI x1), none] [jI s0] (hH L m) = if s0 = 0 then some (some (jI (-2)), hH L m) else (C 151 [jR 109] (hH L m)).bind fun z => j_fin C 159 19 [some (jR 109), some (jI x1), none] (z.1.toList ++ []) z.2 := by
  refine (S_if_ne at_159_9).trans ?_
  refine ite_congr rfl (fun _ => ?_) (fun _ => ?_)
  · refine (S_bipush at_159_12).trans ?_
    exact S_ireti rfl at_159_14
  · refine (S_aload_n rfl at_159_15).trans ?_
    refine (S_invv (b := 0) kn_151 rfl (ka_109 L _) (Nat.le_of_ble_eq_true rfl) at_159_16).trans ?_
    rfl
theorem T159_19 {C : Nat → List j_V → j_H → Option j_Z} {L : Nat} {m : j_M0} {x1 : Int} {s0 : Int} : j_fin C 159 19 [some (jR 109), some (jI x1), none] [jI s0] (hH L m) = (C 149 [jR 109, jI x1] (hH L m)).bind fun z => j_fin C 159 25 [some (jR 109), some (jI x1), some (jI s0)] (z.1.toList ++ []) z.2 := by
  refine (S_istore_n (l1 := [some (jR 109), some (jI x1), some (jI s0)]) rfl at_159_19).trans ?_
  refine (S_aload_n rfl at_159_20).trans ?_
  refine (S_iload_n rfl at_159_21).trans ?_
  refine (S_invv (b := 1) kn_149 rfl (ka_109 L _) (Nat.le_of_ble_eq_true rfl) at_159_22).trans ?_
  rfl
theorem T159_25 {C : Nat → List j_V → j_H → Option j_Z} {L : Nat} {m : j_M0} {x1 : Int} {x2 : Int} : j_fin C 159 25 [some (jR 109), some (jI x1), some (jI x2)] [] (hH L m) = some (some (jI x2), hH L m) := by
  refine (S_iload_n rfl at_159_25).trans ?_
  exact S_ireti rfl at_159_26
