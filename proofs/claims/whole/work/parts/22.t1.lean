theorem T47_0_41 {C : Nat → List j_V → j_H → Option j_Z} {L : Nat} {m : j_M0} {x1 : Int} : j_fin C 47 0 [some (jR 41), some (jI x1), none, none] [] (hH L m) = j_fin C 47 4 [some (jR 41), some (jI x1), some (jI (-1)), some (jI 0)] [] (hH L m) := by
  refine (S_iconst at_47_0).trans ?_
  refine (S_istore_n (l1 := [some (jR 41), some (jI x1), some (jI (-1)), none]) rfl at_47_1).trans ?_
  refine (S_iconst at_47_2).trans ?_
  refine (S_istore_n (l1 := [some (jR 41), some (jI x1), some (jI (-1)), some (jI 0)]) rfl at_47_3).trans ?_
  rfl
theorem T47_4_41 {C : Nat → List j_V → j_H → Option j_Z} {L : Nat} {m : j_M0} {x1 : Int} {x2 : Int} {x3 : Int} : j_fin C 47 4 [some (jR 41), some (jI x1), some (jI x2), some (jI x3)] [] (hH L m) = if x3 < (m 41 1) then if 0 ≤ (w32 ((w32 (x1 * 5)) + x3)) ∧ (w32 ((w32 (x1 * 5)) + x3)) < 100 then if (j_cmp (m 44 (w32 ((w32 (x1 * 5)) + x3)).toNat) 0) < 0 then if x2 < 0 then j_fin C 47 4 [some (jR 41), some (jI x1), some (jI x3), some (jI (w32 (x3 + 1)))] [] (hH L m) else (C 48 [jR 41, jI x1, jI x3, jI x2] (hH L m)).bind fun z => j_fin C 47 41 [some (jR 41), some (jI x1), some (jI x2), some (jI x3)] (z.1.toList ++ []) z.2 else j_fin C 47 4 [some (jR 41), some (jI x1), some (jI x2), some (jI (w32 (x3 + 1)))] [] (hH L m) else none else some (some (jI x2), hH L m) := by
  refine (S_iload_n rfl at_47_4).trans ?_
  refine (S_aload_n rfl at_47_5).trans ?_
  refine (H_get0 (ka_41 L _) rfl at_47_6).trans ?_
  refine (S_icmp_ge at_47_9).trans ?_
  refine ite_congr rfl (fun _ => ?_) (fun _ => ?_)
  · refine (S_aload_n rfl at_47_12).trans ?_
    refine (S_getR (ka_41 L _) rfl (f_41_7 L _) at_47_13).trans ?_
    refine (S_iload_n rfl at_47_16).trans ?_
    refine (S_iconst at_47_17).trans ?_
    refine (S_imul at_47_18).trans ?_
    refine (S_iload_n rfl at_47_19).trans ?_
    refine (S_iadd at_47_20).trans ?_
    refine (H_laload (ka_44 L _) at_47_21).trans ?_
    refine ite_congr rfl (fun hi => ?_) (fun _ => rfl)
    refine (S_lconst at_47_22).trans ?_
    refine (S_lcmp at_47_23).trans ?_
    refine (S_if_lt at_47_24).trans ?_
    refine ite_congr rfl (fun _ => ?_) (fun _ => ?_)
    · refine (S_iload_n rfl at_47_30).trans ?_
      refine (S_if_lt at_47_31).trans ?_
      refine ite_congr rfl (fun _ => ?_) (fun _ => ?_)
      · refine (S_iload_n rfl at_47_44).trans ?_
        refine (S_istore_n (l1 := [some (jR 41), some (jI x1), some (jI x3), some (jI x3)]) rfl at_47_45).trans ?_
        refine (S_iinc (l1 := [some (jR 41), some (jI x1), some (jI x3), some (jI (w32 (x3 + 1)))]) rfl rfl at_47_46).trans ?_
        refine (S_goto at_47_49).trans ?_
        rfl
      · refine (S_aload_n rfl at_47_34).trans ?_
        refine (S_iload_n rfl at_47_35).trans ?_
        refine (S_iload_n rfl at_47_36).trans ?_
        refine (S_iload_n rfl at_47_37).trans ?_
        refine (S_invv (b := 3) kn_48 rfl (ka_41 L _) (Nat.le_of_ble_eq_true rfl) at_47_38).trans ?_
        rfl
    · refine (S_goto at_47_27).trans ?_
      refine (S_iinc (l1 := [some (jR 41), some (jI x1), some (jI x2), some (jI (w32 (x3 + 1)))]) rfl rfl at_47_46).trans ?_
      refine (S_goto at_47_49).trans ?_
      rfl
  · refine (S_iload_n rfl at_47_52).trans ?_
    exact S_ireti rfl at_47_53
theorem T47_41_41 {C : Nat → List j_V → j_H → Option j_Z} {L : Nat} {m : j_M0} {x1 : Int} {x2 : Int} {x3 : Int} {s0 : Int} : j_fin C 47 41 [some (jR 41), some (jI x1), some (jI x2), some (jI x3)] [jI s0] (hH L m) = if s0 = 0 then j_fin C 47 4 [some (jR 41), some (jI x1), some (jI x2), some (jI (w32 (x3 + 1)))] [] (hH L m) else j_fin C 47 4 [some (jR 41), some (jI x1), some (jI x3), some (jI (w32 (x3 + 1)))] [] (hH L m) := by
  refine (S_if_eq at_47_41).trans ?_
  refine ite_congr rfl (fun _ => ?_) (fun _ => ?_)
  · refine (S_iinc (l1 := [some (jR 41), some (jI x1), some (jI x2), some (jI (w32 (x3 + 1)))]) rfl rfl at_47_46).trans ?_
    refine (S_goto at_47_49).trans ?_
    rfl
  · refine (S_iload_n rfl at_47_44).trans ?_
    refine (S_istore_n (l1 := [some (jR 41), some (jI x1), some (jI x3), some (jI x3)]) rfl at_47_45).trans ?_
    refine (S_iinc (l1 := [some (jR 41), some (jI x1), some (jI x3), some (jI (w32 (x3 + 1)))]) rfl rfl at_47_46).trans ?_
    refine (S_goto at_47_49).trans ?_
    rfl
theorem T47_0_55 {C : Nat → List j_V → j_H → Option j_Z} {L : Nat} {m : j_M0} {x1 : Int} : j_fin C 47 0 [some (jR 55), some (jI x1), none, none] [] (hH L m) = j_fin C 47 4 [some (jR 55), some (jI x1), some (jI (-1)), some (jI 0)] [] (hH L m) := by
  refine (S_iconst at_47_0).trans ?_
  refine (S_istore_n (l1 := [some (jR 55), some (jI x1), some (jI (-1)), none]) rfl at_47_1).trans ?_
  refine (S_iconst at_47_2).trans ?_
  refine (S_istore_n (l1 := [some (jR 55), some (jI x1), some (jI (-1)), some (jI 0)]) rfl at_47_3).trans ?_
  rfl
theorem T47_4_55 {C : Nat → List j_V → j_H → Option j_Z} {L : Nat} {m : j_M0} {x1 : Int} {x2 : Int} {x3 : Int} : j_fin C 47 4 [some (jR 55), some (jI x1), some (jI x2), some (jI x3)] [] (hH L m) = if x3 < (m 55 1) then if 0 ≤ (w32 ((w32 (x1 * 5)) + x3)) ∧ (w32 ((w32 (x1 * 5)) + x3)) < 100 then if (j_cmp (m 58 (w32 ((w32 (x1 * 5)) + x3)).toNat) 0) < 0 then if x2 < 0 then j_fin C 47 4 [some (jR 55), some (jI x1), some (jI x3), some (jI (w32 (x3 + 1)))] [] (hH L m) else (C 48 [jR 55, jI x1, jI x3, jI x2] (hH L m)).bind fun z => j_fin C 47 41 [some (jR 55), some (jI x1), some (jI x2), some (jI x3)] (z.1.toList ++ []) z.2 else j_fin C 47 4 [some (jR 55), some (jI x1), some (jI x2), some (jI (w32 (x3 + 1)))] [] (hH L m) else none else some (some (jI x2), hH L m) := by
  refine (S_iload_n rfl at_47_4).trans ?_
  refine (S_aload_n rfl at_47_5).trans ?_
  refine (H_get0 (ka_55 L _) rfl at_47_6).trans ?_
  refine (S_icmp_ge at_47_9).trans ?_
  refine ite_congr rfl (fun _ => ?_) (fun _ => ?_)
  · refine (S_aload_n rfl at_47_12).trans ?_
    refine (S_getR (ka_55 L _) rfl (f_55_7 L _) at_47_13).trans ?_
    refine (S_iload_n rfl at_47_16).trans ?_
    refine (S_iconst at_47_17).trans ?_
    refine (S_imul at_47_18).trans ?_
    refine (S_iload_n rfl at_47_19).trans ?_
    refine (S_iadd at_47_20).trans ?_
    refine (H_laload (ka_58 L _) at_47_21).trans ?_
    refine ite_congr rfl (fun hi => ?_) (fun _ => rfl)
    refine (S_lconst at_47_22).trans ?_
    refine (S_lcmp at_47_23).trans ?_
    refine (S_if_lt at_47_24).trans ?_
    refine ite_congr rfl (fun _ => ?_) (fun _ => ?_)
    · refine (S_iload_n rfl at_47_30).trans ?_
      refine (S_if_lt at_47_31).trans ?_
      refine ite_congr rfl (fun _ => ?_) (fun _ => ?_)
      · refine (S_iload_n rfl at_47_44).trans ?_
        refine (S_istore_n (l1 := [some (jR 55), some (jI x1), some (jI x3), some (jI x3)]) rfl at_47_45).trans ?_
        refine (S_iinc (l1 := [some (jR 55), some (jI x1), some (jI x3), some (jI (w32 (x3 + 1)))]) rfl rfl at_47_46).trans ?_
        refine (S_goto at_47_49).trans ?_
        rfl
      · refine (S_aload_n rfl at_47_34).trans ?_
        refine (S_iload_n rfl at_47_35).trans ?_
        refine (S_iload_n rfl at_47_36).trans ?_
        refine (S_iload_n rfl at_47_37).trans ?_
        refine (S_invv (b := 3) kn_48 rfl (ka_55 L _) (Nat.le_of_ble_eq_true rfl) at_47_38).trans ?_
        rfl
    · refine (S_goto at_47_27).trans ?_
      refine (S_iinc (l1 := [some (jR 55), some (jI x1), some (jI x2), some (jI (w32 (x3 + 1)))]) rfl rfl at_47_46).trans ?_
      refine (S_goto at_47_49).trans ?_
      rfl
  · refine (S_iload_n rfl at_47_52).trans ?_
    exact S_ireti rfl at_47_53
theorem T47_41_55 {C : Nat → List j_V → j_H → Option j_Z} {L : Nat} {m : j_M0} {x1 : Int} {x2 : Int} {x3 : Int} {s0 : Int} : j_fin C 47 41 [some (jR 55), some (jI x1), some (jI x2), some (jI x3)] [jI s0] (hH L m) = if s0 = 0 then j_fin C 47 4 [some (jR 55), some (jI x1), some (jI x2), some (jI (w32 (x3 + 1)))] [] (hH L m) else j_fin C 47 4 [some (jR 55), some (jI x1), some (jI x3), some (jI (w32 (x3 + 1)))] [] (hH L m) := by
  refine (S_if_eq at_47_41).trans ?_
  refine ite_congr rfl (fun _ => ?_) (fun _ => ?_)
  · refine (S_iinc (l1 := [some (jR 55), some (jI x1), some (jI x2), some (jI (w32 (x3 + 1)))]) rfl rfl at_47_46).trans ?_
    refine (S_goto at_47_49).trans ?_
    rfl
  · refine (S_iload_n rfl at_47_44).trans ?_
    refine (S_istore_n (l1 := [some (jR 55), some (jI x1), some (jI x3), some (jI x3)]) rfl at_47_45).trans ?_
    refine (S_iinc (l1 := [some (jR 55), some (jI x1), some (jI x3), some (jI (w32 (x3 + 1)))]) rfl rfl at_47_46).trans ?_
    refine (S_goto at_47_49).trans ?_
    rfl
theorem T47_0_71 {C : Nat → List j_V → j_H → Option j_Z} {L : Nat} {m : j_M0} {x1 : Int} : j_fin C 47 0 [some (jR 71), some (jI x1), none, none] [] (hH L m) = j_fin C 47 4 [some (jR 71), some (jI x1), some (jI (-1)), some (jI 0)] [] (hH L m) := by
  refine (S_iconst at_47_0).trans ?_
  refine (S_istore_n (l1 := [some (jR 71), some (jI x1), some (jI (-1)), none]) rfl at_47_1).trans ?_
  refine (S_iconst at_47_2).trans ?_
  refine (S_istore_n (l1 := [some (jR 71), some (jI x1), some (jI (-1)), some (jI 0)]) rfl at_47_3).trans ?_
  rfl
theorem T47_4_71 {C : Nat → List j_V → j_H → Option j_Z} {L : Nat} {m : j_M0} {x1 : Int} {x2 : Int} {x3 : Int} : j_fin C 47 4 [some (jR 71), some (jI x1), some (jI x2), some (jI x3)] [] (hH L m) = if x3 < (m 71 1) then if 0 ≤ (w32 ((w32 (x1 * 5)) + x3)) ∧ (w32 ((w32 (x1 * 5)) + x3)) < 100 then if (j_cmp (m 74 (w32 ((w32 (x1 * 5)) + x3)).toNat) 0) < 0 then if x2 < 0 then j_fin C 47 4 [some (jR 71), some (jI x1), some (jI x3), some (jI (w32 (x3 + 1)))] [] (hH L m) else (C 48 [jR 71, jI x1, jI x3, jI x2] (hH L m)).bind fun z => j_fin C 47 41 [some (jR 71), some (jI x1), some (jI x2), some (jI x3)] (z.1.toList ++ []) z.2 else j_fin C 47 4 [some (jR 71), some (jI x1), some (jI x2), some (jI (w32 (x3 + 1)))] [] (hH L m) else none else some (some (jI x2), hH L m) := by
  refine (S_iload_n rfl at_47_4).trans ?_
  refine (S_aload_n rfl at_47_5).trans ?_
  refine (H_get0 (ka_71 L _) rfl at_47_6).trans ?_
  refine (S_icmp_ge at_47_9).trans ?_
  refine ite_congr rfl (fun _ => ?_) (fun _ => ?_)
  · refine (S_aload_n rfl at_47_12).trans ?_
    refine (S_getR (ka_71 L _) rfl (f_71_7 L _) at_47_13).trans ?_
    refine (S_iload_n rfl at_47_16).trans ?_
    refine (S_iconst at_47_17).trans ?_
    refine (S_imul at_47_18).trans ?_
    refine (S_iload_n rfl at_47_19).trans ?_
    refine (S_iadd at_47_20).trans ?_
    refine (H_laload (ka_74 L _) at_47_21).trans ?_
    refine ite_congr rfl (fun hi => ?_) (fun _ => rfl)
    refine (S_lconst at_47_22).trans ?_
    refine (S_lcmp at_47_23).trans ?_
    refine (S_if_lt at_47_24).trans ?_
    refine ite_congr rfl (fun _ => ?_) (fun _ => ?_)
    · refine (S_iload_n rfl at_47_30).trans ?_
      refine (S_if_lt at_47_31).trans ?_
      refine ite_congr rfl (fun _ => ?_) (fun _ => ?_)
      · refine (S_iload_n rfl at_47_44).trans ?_
        refine (S_istore_n (l1 := [some (jR 71), some (jI x1), some (jI x3), some (jI x3)]) rfl at_47_45).trans ?_
        refine (S_iinc (l1 := [some (jR 71), some (jI x1), some (jI x3), some (jI (w32 (x3 + 1)))]) rfl rfl at_47_46).trans ?_
        refine (S_goto at_47_49).trans ?_
        rfl
      · refine (S_aload_n rfl at_47_34).trans ?_
        refine (S_iload_n rfl at_47_35).trans ?_
        refine (S_iload_n rfl at_47_36).trans ?_
        refine (S_iload_n rfl at_47_37).trans ?_
        refine (S_invv (b := 3) kn_48 rfl (ka_71 L _) (Nat.le_of_ble_eq_true rfl) at_47_38).trans ?_
        rfl
    · refine (S_goto at_47_27).trans ?_
      refine (S_iinc (l1 := [some (jR 71), some (jI x1), some (jI x2), some (jI (w32 (x3 + 1)))]) rfl rfl at_47_46).trans ?_
      refine (S_goto at_47_49).trans ?_
      rfl
  · refine (S_iload_n rfl at_47_52).trans ?_
    exact S_ireti rfl at_47_53
theorem T47_41_71 {C : Nat → List j_V → j_H → Option j_Z} {L : Nat} {m : j_M0} {x1 : Int} {x2 : Int} {x3 : Int} {s0 : Int} : j_fin C 47 41 [some (jR 71), some (jI x1), some (jI x2), some (jI x3)] [jI s0] (hH L m) = if s0 = 0 then j_fin C 47 4 [some (jR 71), some (jI x1), some (jI x2), some (jI (w32 (x3 + 1)))] [] (hH L m) else j_fin C 47 4 [some (jR 71), some (jI x1), some (jI x3), some (jI (w32 (x3 + 1)))] [] (hH L m) := by
  refine (S_if_eq at_47_41).trans ?_
  refine ite_congr rfl (fun _ => ?_) (fun _ => ?_)
  · refine (S_iinc (l1 := [some (jR 71), some (jI x1), some (jI x2), some (jI (w32 (x3 + 1)))]) rfl rfl at_47_46).trans ?_
    refine (S_goto at_47_49).trans ?_
    rfl
  · refine (S_iload_n rfl at_47_44).trans ?_
    refine (S_istore_n (l1 := [some (jR 71), some (jI x1), some (jI x3), some (jI x3)]) rfl at_47_45).trans ?_
    refine (S_iinc (l1 := [some (jR 71), some (jI x1), some (jI x3), some (jI (w32 (x3 + 1)))]) rfl rfl at_47_46).trans ?_
    refine (S_goto at_47_49).trans ?_
    rfl
theorem T48_0_41 {C : Nat → List j_V → j_H → Option j_Z} {L : Nat} {m : j_M0} {x1 : Int} {x2 : Int} {x3 : Int} : j_fin C 48 0 [some (jR 41), some (jI x1), some (jI x2), some (jI x3), none, none, none, none] [] (hH L m) = if 0 ≤ x2 ∧ x2 < 5 then if 0 ≤ (w32 ((w32 (x1 * 5)) + x3)) ∧ (w32 ((w32 (x1 * 5)) + x3)) < 100 then if 0 ≤ x3 ∧ x3 < 5 then if 0 ≤ (w32 ((w32 (x1 * 5)) + x2)) ∧ (w32 ((w32 (x1 * 5)) + x2)) < 100 then if (j_cmp (w64 ((m 46 x2.toNat) * (w64 (-(m 44 (w32 ((w32 (x1 * 5)) + x3)).toNat))))) (w64 ((m 46 x3.toNat) * (w64 (-(m 44 (w32 ((w32 (x1 * 5)) + x2)).toNat)))))) < 0 then some (some (jI 1), hH L m) else if (j_cmp (w64 ((m 46 x2.toNat) * (w64 (-(m 44 (w32 ((w32 (x1 * 5)) + x3)).toNat))))) (w64 ((m 46 x3.toNat) * (w64 (-(m 44 (w32 ((w32 (x1 * 5)) + x2)).toNat)))))) = 0 then if 0 ≤ x2 ∧ x2 < 5 then if 0 ≤ x3 ∧ x3 < 5 then if (m 43 x2.toNat) < (m 43 x3.toNat) then some (some (jI 1), hH L m) else some (some (jI 0), hH L m) else none else none else some (some (jI 0), hH L m) else none else none else none else none := by
  refine (S_aload_n rfl at_48_0).trans ?_
  refine (S_getR (ka_41 L _) rfl (f_41_9 L _) at_48_1).trans ?_
  refine (S_iload_n rfl at_48_4).trans ?_
  refine (H_laload (ka_46 L _) at_48_5).trans ?_
  refine ite_congr rfl (fun hi => ?_) (fun _ => rfl)
  refine (S_aload_n rfl at_48_6).trans ?_
  refine (S_getR (ka_41 L _) rfl (f_41_7 L _) at_48_7).trans ?_
  refine (S_iload_n rfl at_48_10).trans ?_
  refine (S_iconst at_48_11).trans ?_
  refine (S_imul at_48_12).trans ?_
  refine (S_iload_n rfl at_48_13).trans ?_
  refine (S_iadd at_48_14).trans ?_
  refine (H_laload (ka_44 L _) at_48_15).trans ?_
  refine ite_congr rfl (fun hi => ?_) (fun _ => rfl)
  refine (S_lneg at_48_16).trans ?_
  refine (S_lmul at_48_17).trans ?_
  refine (S_lstore (l1 := [some (jR 41), some (jI x1), some (jI x2), some (jI x3), some (jL (w64 ((m 46 x2.toNat) * (w64 (-(m 44 (w32 ((w32 (x1 * 5)) + x3)).toNat)))))), none, none, none]) rfl at_48_18).trans ?_
  refine (S_aload_n rfl at_48_20).trans ?_
  refine (S_getR (ka_41 L _) rfl (f_41_9 L _) at_48_21).trans ?_
  refine (S_iload_n rfl at_48_24).trans ?_
  refine (H_laload (ka_46 L _) at_48_25).trans ?_
  refine ite_congr rfl (fun hi => ?_) (fun _ => rfl)
  refine (S_aload_n rfl at_48_26).trans ?_
  refine (S_getR (ka_41 L _) rfl (f_41_7 L _) at_48_27).trans ?_
  refine (S_iload_n rfl at_48_30).trans ?_
  refine (S_iconst at_48_31).trans ?_
  refine (S_imul at_48_32).trans ?_
  refine (S_iload_n rfl at_48_33).trans ?_
  refine (S_iadd at_48_34).trans ?_
  refine (H_laload (ka_44 L _) at_48_35).trans ?_
  refine ite_congr rfl (fun hi => ?_) (fun _ => rfl)
  refine (S_lneg at_48_36).trans ?_
  refine (S_lmul at_48_37).trans ?_
  refine (S_lstore (l1 := [some (jR 41), some (jI x1), some (jI x2), some (jI x3), some (jL (w64 ((m 46 x2.toNat) * (w64 (-(m 44 (w32 ((w32 (x1 * 5)) + x3)).toNat)))))), none, some (jL (w64 ((m 46 x3.toNat) * (w64 (-(m 44 (w32 ((w32 (x1 * 5)) + x2)).toNat)))))), none]) rfl at_48_38).trans ?_
  refine (S_lload rfl at_48_40).trans ?_
  refine (S_lload rfl at_48_42).trans ?_
  refine (S_lcmp at_48_44).trans ?_
  refine (S_if_lt at_48_45).trans ?_
  refine ite_congr rfl (fun _ => ?_) (fun _ => ?_)
  · refine (S_iconst at_48_71).trans ?_
    refine (S_goto at_48_72).trans ?_
    exact (S_iretz rfl at_48_76).trans (if_pos (by decide))
  · refine (S_lload rfl at_48_48).trans ?_
    refine (S_lload rfl at_48_50).trans ?_
    refine (S_lcmp at_48_52).trans ?_
    refine (S_if_ne at_48_53).trans ?_
    refine ite_congr rfl (fun _ => ?_) (fun _ => ?_)
    · refine (S_aload_n rfl at_48_56).trans ?_
      refine (S_getR (ka_41 L _) rfl (f_41_6 L _) at_48_57).trans ?_
      refine (S_iload_n rfl at_48_60).trans ?_
      refine (H_iaload (ka_43 L _) at_48_61).trans ?_
      refine ite_congr rfl (fun hi => ?_) (fun _ => rfl)
      refine (S_aload_n rfl at_48_62).trans ?_
      refine (S_getR (ka_41 L _) rfl (f_41_6 L _) at_48_63).trans ?_
      refine (S_iload_n rfl at_48_66).trans ?_
      refine (H_iaload (ka_43 L _) at_48_67).trans ?_
      refine ite_congr rfl (fun hi => ?_) (fun _ => rfl)
      refine (S_icmp_ge at_48_68).trans ?_
      refine ite_congr rfl (fun _ => ?_) (fun _ => ?_)
      · refine (S_iconst at_48_71).trans ?_
        refine (S_goto at_48_72).trans ?_
        exact (S_iretz rfl at_48_76).trans (if_pos (by decide))
      · refine (S_iconst at_48_75).trans ?_
        exact (S_iretz rfl at_48_76).trans (if_pos (by decide))
    · refine (S_iconst at_48_75).trans ?_
      exact (S_iretz rfl at_48_76).trans (if_pos (by decide))
theorem T48_0_55 {C : Nat → List j_V → j_H → Option j_Z} {L : Nat} {m : j_M0} {x1 : Int} {x2 : Int} {x3 : Int} : j_fin C 48 0 [some (jR 55), some (jI x1), some (jI x2), some (jI x3), none, none, none, none] [] (hH L m) = if 0 ≤ x2 ∧ x2 < 5 then if 0 ≤ (w32 ((w32 (x1 * 5)) + x3)) ∧ (w32 ((w32 (x1 * 5)) + x3)) < 100 then if 0 ≤ x3 ∧ x3 < 5 then if 0 ≤ (w32 ((w32 (x1 * 5)) + x2)) ∧ (w32 ((w32 (x1 * 5)) + x2)) < 100 then if (j_cmp (w64 ((m 60 x2.toNat) * (w64 (-(m 58 (w32 ((w32 (x1 * 5)) + x3)).toNat))))) (w64 ((m 60 x3.toNat) * (w64 (-(m 58 (w32 ((w32 (x1 * 5)) + x2)).toNat)))))) < 0 then some (some (jI 1), hH L m) else if (j_cmp (w64 ((m 60 x2.toNat) * (w64 (-(m 58 (w32 ((w32 (x1 * 5)) + x3)).toNat))))) (w64 ((m 60 x3.toNat) * (w64 (-(m 58 (w32 ((w32 (x1 * 5)) + x2)).toNat)))))) = 0 then if 0 ≤ x2 ∧ x2 < 5 then if 0 ≤ x3 ∧ x3 < 5 then if (m 57 x2.toNat) < (m 57 x3.toNat) then some (some (jI 1), hH L m) else some (some (jI 0), hH L m) else none else none else some (some (jI 0), hH L m) else none else none else none else none := by
  refine (S_aload_n rfl at_48_0).trans ?_
  refine (S_getR (ka_55 L _) rfl (f_55_9 L _) at_48_1).trans ?_
  refine (S_iload_n rfl at_48_4).trans ?_
  refine (H_laload (ka_60 L _) at_48_5).trans ?_
  refine ite_congr rfl (fun hi => ?_) (fun _ => rfl)
  refine (S_aload_n rfl at_48_6).trans ?_
  refine (S_getR (ka_55 L _) rfl (f_55_7 L _) at_48_7).trans ?_
  refine (S_iload_n rfl at_48_10).trans ?_
  refine (S_iconst at_48_11).trans ?_
  refine (S_imul at_48_12).trans ?_
  refine (S_iload_n rfl at_48_13).trans ?_
  refine (S_iadd at_48_14).trans ?_
  refine (H_laload (ka_58 L _) at_48_15).trans ?_
  refine ite_congr rfl (fun hi => ?_) (fun _ => rfl)
  refine (S_lneg at_48_16).trans ?_
  refine (S_lmul at_48_17).trans ?_
  refine (S_lstore (l1 := [some (jR 55), some (jI x1), some (jI x2), some (jI x3), some (jL (w64 ((m 60 x2.toNat) * (w64 (-(m 58 (w32 ((w32 (x1 * 5)) + x3)).toNat)))))), none, none, none]) rfl at_48_18).trans ?_
  refine (S_aload_n rfl at_48_20).trans ?_
  refine (S_getR (ka_55 L _) rfl (f_55_9 L _) at_48_21).trans ?_
  refine (S_iload_n rfl at_48_24).trans ?_
  refine (H_laload (ka_60 L _) at_48_25).trans ?_
  refine ite_congr rfl (fun hi => ?_) (fun _ => rfl)
  refine (S_aload_n rfl at_48_26).trans ?_
  refine (S_getR (ka_55 L _) rfl (f_55_7 L _) at_48_27).trans ?_
  refine (S_iload_n rfl at_48_30).trans ?_
  refine (S_iconst at_48_31).trans ?_
  refine (S_imul at_48_32).trans ?_
  refine (S_iload_n rfl at_48_33).trans ?_
  refine (S_iadd at_48_34).trans ?_
  refine (H_laload (ka_58 L _) at_48_35).trans ?_
  refine ite_congr rfl (fun hi => ?_) (fun _ => rfl)
  refine (S_lneg at_48_36).trans ?_
  refine (S_lmul at_48_37).trans ?_
  refine (S_lstore (l1 := [some (jR 55), some (jI x1), some (jI x2), some (jI x3), some (jL (w64 ((m 60 x2.toNat) * (w64 (-(m 58 (w32 ((w32 (x1 * 5)) + x3)).toNat)))))), none, some (jL (w64 ((m 60 x3.toNat) * (w64 (-(m 58 (w32 ((w32 (x1 * 5)) + x2)).toNat)))))), none]) rfl at_48_38).trans ?_
  refine (S_lload rfl at_48_40).trans ?_
  refine (S_lload rfl at_48_42).trans ?_
  refine (S_lcmp at_48_44).trans ?_
  refine (S_if_lt at_48_45).trans ?_
  refine ite_congr rfl (fun _ => ?_) (fun _ => ?_)
  · refine (S_iconst at_48_71).trans ?_
    refine (S_goto at_48_72).trans ?_
    exact (S_iretz rfl at_48_76).trans (if_pos (by decide))
  · refine (S_lload rfl at_48_48).trans ?_
    refine (S_lload rfl at_48_50).trans ?_
    refine (S_lcmp at_48_52).trans ?_
    refine (S_if_ne at_48_53).trans ?_
    refine ite_congr rfl (fun _ => ?_) (fun _ => ?_)
    · refine (S_aload_n rfl at_48_56).trans ?_
      refine (S_getR (ka_55 L _) rfl (f_55_6 L _) at_48_57).trans ?_
      refine (S_iload_n rfl at_48_60).trans ?_
      refine (H_iaload (ka_57 L _) at_48_61).trans ?_
      refine ite_congr rfl (fun hi => ?_) (fun _ => rfl)
      refine (S_aload_n rfl at_48_62).trans ?_
      refine (S_getR (ka_55 L _) rfl (f_55_6 L _) at_48_63).trans ?_
      refine (S_iload_n rfl at_48_66).trans ?_
      refine (H_iaload (ka_57 L _) at_48_67).trans ?_
      refine ite_congr rfl (fun hi => ?_) (fun _ => rfl)
      refine (S_icmp_ge at_48_68).trans ?_
      refine ite_congr rfl (fun _ => ?_) (fun _ => ?_)
      · refine (S_iconst at_48_71).trans ?_
        refine (S_goto at_48_72).trans ?_
        exact (S_iretz rfl at_48_76).trans (if_pos (by decide))
      · refine (S_iconst at_48_75).trans ?_
        exact (S_iretz rfl at_48_76).trans (if_pos (by decide))
    · refine (S_iconst at_48_75).trans ?_
      exact (S_iretz rfl at_48_76).trans (if_pos (by decide))
theorem T48_0_71 {C : Nat → List j_V → j_H → Option j_Z} {L : Nat} {m : j_M0} {x1 : Int} {x2 : Int} {x3 : Int} : j_fin C 48 0 [some (jR 71), some (jI x1), some (jI x2), some (jI x3), none, none, none, none] [] (hH L m) = if 0 ≤ x2 ∧ x2 < 5 then if 0 ≤ (w32 ((w32 (x1 * 5)) + x3)) ∧ (w32 ((w32 (x1 * 5)) + x3)) < 100 then if 0 ≤ x3 ∧ x3 < 5 then if 0 ≤ (w32 ((w32 (x1 * 5)) + x2)) ∧ (w32 ((w32 (x1 * 5)) + x2)) < 100 then if (j_cmp (w64 ((m 76 x2.toNat) * (w64 (-(m 74 (w32 ((w32 (x1 * 5)) + x3)).toNat))))) (w64 ((m 76 x3.toNat) * (w64 (-(m 74 (w32 ((w32 (x1 * 5)) + x2)).toNat)))))) < 0 then some (some (jI 1), hH L m) else if (j_cmp (w64 ((m 76 x2.toNat) * (w64 (-(m 74 (w32 ((w32 (x1 * 5)) + x3)).toNat))))) (w64 ((m 76 x3.toNat) * (w64 (-(m 74 (w32 ((w32 (x1 * 5)) + x2)).toNat)))))) = 0 then if 0 ≤ x2 ∧ x2 < 5 then if 0 ≤ x3 ∧ x3 < 5 then if (m 73 x2.toNat) < (m 73 x3.toNat) then some (some (jI 1), hH L m) else some (some (jI 0), hH L m) else none else none else some (some (jI 0), hH L m) else none else none else none else none := by
  refine (S_aload_n rfl at_48_0).trans ?_
  refine (S_getR (ka_71 L _) rfl (f_71_9 L _) at_48_1).trans ?_
  refine (S_iload_n rfl at_48_4).trans ?_
  refine (H_laload (ka_76 L _) at_48_5).trans ?_
  refine ite_congr rfl (fun hi => ?_) (fun _ => rfl)
  refine (S_aload_n rfl at_48_6).trans ?_
  refine (S_getR (ka_71 L _) rfl (f_71_7 L _) at_48_7).trans ?_
  refine (S_iload_n rfl at_48_10).trans ?_
  refine (S_iconst at_48_11).trans ?_
  refine (S_imul at_48_12).trans ?_
  refine (S_iload_n rfl at_48_13).trans ?_
  refine (S_iadd at_48_14).trans ?_
  refine (H_laload (ka_74 L _) at_48_15).trans ?_
  refine ite_congr rfl (fun hi => ?_) (fun _ => rfl)
  refine (S_lneg at_48_16).trans ?_
  refine (S_lmul at_48_17).trans ?_
  refine (S_lstore (l1 := [some (jR 71), some (jI x1), some (jI x2), some (jI x3), some (jL (w64 ((m 76 x2.toNat) * (w64 (-(m 74 (w32 ((w32 (x1 * 5)) + x3)).toNat)))))), none, none, none]) rfl at_48_18).trans ?_
  refine (S_aload_n rfl at_48_20).trans ?_
  refine (S_getR (ka_71 L _) rfl (f_71_9 L _) at_48_21).trans ?_
  refine (S_iload_n rfl at_48_24).trans ?_
  refine (H_laload (ka_76 L _) at_48_25).trans ?_
  refine ite_congr rfl (fun hi => ?_) (fun _ => rfl)
  refine (S_aload_n rfl at_48_26).trans ?_
  refine (S_getR (ka_71 L _) rfl (f_71_7 L _) at_48_27).trans ?_
  refine (S_iload_n rfl at_48_30).trans ?_
  refine (S_iconst at_48_31).trans ?_
  refine (S_imul at_48_32).trans ?_
  refine (S_iload_n rfl at_48_33).trans ?_
  refine (S_iadd at_48_34).trans ?_
  refine (H_laload (ka_74 L _) at_48_35).trans ?_
  refine ite_congr rfl (fun hi => ?_) (fun _ => rfl)
  refine (S_lneg at_48_36).trans ?_
  refine (S_lmul at_48_37).trans ?_
  refine (S_lstore (l1 := [some (jR 71), some (jI x1), some (jI x2), some (jI x3), some (jL (w64 ((m 76 x2.toNat) * (w64 (-(m 74 (w32 ((w32 (x1 * 5)) + x3)).toNat)))))), none, some (jL (w64 ((m 76 x3.toNat) * (w64 (-(m 74 (w32 ((w32 (x1 * 5)) + x2)).toNat)))))), none]) rfl at_48_38).trans ?_
  refine (S_lload rfl at_48_40).trans ?_
  refine (S_lload rfl at_48_42).trans ?_
  refine (S_lcmp at_48_44).trans ?_
  refine (S_if_lt at_48_45).trans ?_
  refine ite_congr rfl (fun _ => ?_) (fun _ => ?_)
  · refine (S_iconst at_48_71).trans ?_
    refine (S_goto at_48_72).trans ?_
    exact (S_iretz rfl at_48_76).trans (if_pos (by decide))
  · refine (S_lload rfl at_48_48).trans ?_
    refine (S_lload rfl at_48_50).trans ?_
    refine (S_lcmp at_48_52).trans ?_
    refine (S_if_ne at_48_53).trans ?_
    refine ite_congr rfl (fun _ => ?_) (fun _ => ?_)
    · refine (S_aload_n rfl at_48_56).trans ?_
      refine (S_getR (ka_71 L _) rfl (f_71_6 L _) at_48_57).trans ?_
      refine (S_iload_n rfl at_48_60).trans ?_
      refine (H_iaload (ka_73 L _) at_48_61).trans ?_
      refine ite_congr rfl (fun hi => ?_) (fun _ => rfl)
      refine (S_aload_n rfl at_48_62).trans ?_
      refine (S_getR (ka_71 L _) rfl (f_71_6 L _) at_48_63).trans ?_
      refine (S_iload_n rfl at_48_66).trans ?_
      refine (H_iaload (ka_73 L _) at_48_67).trans ?_
      refine ite_congr rfl (fun hi => ?_) (fun _ => rfl)
      refine (S_icmp_ge at_48_68).trans ?_
      refine ite_congr rfl (fun _ => ?_) (fun _ => ?_)
      · refine (S_iconst at_48_71).trans ?_
        refine (S_goto at_48_72).trans ?_
        exact (S_iretz rfl at_48_76).trans (if_pos (by decide))
      · refine (S_iconst at_48_75).trans ?_
        exact (S_iretz rfl at_48_76).trans (if_pos (by decide))
    · refine (S_iconst at_48_75).trans ?_
      exact (S_iretz rfl at_48_76).trans (if_pos (by decide))
theorem T49_0_41 {C : Nat → List j_V → j_H → Option j_Z} {L : Nat} {m : j_M0} {x1 : Int} {x2 : Int} : j_fin C 49 0 [some (jR 41), some (jI x1), some (jI x2), none, none, none] [] (hH L m) = j_fin C 49 2 [some (jR 41), some (jI x1), some (jI x2), some (jI 0), none, none] [] (hH L m) := by
  refine (S_iconst at_49_0).trans ?_
  refine (S_istore_n (l1 := [some (jR 41), some (jI x1), some (jI x2), some (jI 0), none, none]) rfl at_49_1).trans ?_
  rfl
theorem T49_2_41 {C : Nat → List j_V → j_H → Option j_Z} {L : Nat} {m : j_M0} {x1 : Int} {x2 : Int} {x3 : Int} : j_fin C 49 2 [some (jR 41), some (jI x1), some (jI x2), some (jI x3), none, none] [] (hH L m) = if x3 < (m 41 0) then (C 50 [jR 41, jI x3, jI x1, jI x2] (hH L m)).bind fun z => j_fin C 49 17 [some (jR 41), some (jI x1), some (jI x2), some (jI x3), none, none] (z.1.toList ++ []) z.2 else j_fin C 49 30 [some (jR 41), some (jI x1), some (jI x2), some (jI 0), none, none] [] (hH L m) := by
  refine (S_iload_n rfl at_49_2).trans ?_
  refine (S_aload_n rfl at_49_3).trans ?_
  refine (H_get0 (ka_41 L _) rfl at_49_4).trans ?_
  refine (S_icmp_ge at_49_7).trans ?_
  refine ite_congr rfl (fun _ => ?_) (fun _ => ?_)
  · refine (S_aload_n rfl at_49_10).trans ?_
    refine (S_iload_n rfl at_49_11).trans ?_
    refine (S_iload_n rfl at_49_12).trans ?_
    refine (S_iload_n rfl at_49_13).trans ?_
    refine (S_invv (b := 3) kn_50 rfl (ka_41 L _) (Nat.le_of_ble_eq_true rfl) at_49_14).trans ?_
    rfl
  · refine (S_iconst at_49_28).trans ?_
    refine (S_istore_n (l1 := [some (jR 41), some (jI x1), some (jI x2), some (jI 0), none, none]) rfl at_49_29).trans ?_
    rfl
theorem T49_17_41 {C : Nat → List j_V → j_H → Option j_Z} {L : Nat} {m : j_M0} {x1 : Int} {x2 : Int} {x3 : Int} {s0 : Int} : j_fin C 49 17 [some (jR 41), some (jI x1), some (jI x2), some (jI x3), none, none] [jI s0] (hH L m) = if s0 = 0 then some (some (jI 0), hH L m) else j_fin C 49 2 [some (jR 41), some (jI x1), some (jI x2), some (jI (w32 (x3 + 1))), none, none] [] (hH L m) := by
  refine (S_if_ne at_49_17).trans ?_
  refine ite_congr rfl (fun _ => ?_) (fun _ => ?_)
  · refine (S_iconst at_49_20).trans ?_
    exact (S_iretz rfl at_49_21).trans (if_pos (by decide))
  · refine (S_iinc (l1 := [some (jR 41), some (jI x1), some (jI x2), some (jI (w32 (x3 + 1))), none, none]) rfl rfl at_49_22).trans ?_
    refine (S_goto at_49_25).trans ?_
    rfl
theorem T49_30_41 {C : Nat → List j_V → j_H → Option j_Z} {L : Nat} {m : j_M0} {x1 : Int} {x2 : Int} {x3 : Int} : j_fin C 49 30 [some (jR 41), some (jI x1), some (jI x2), some (jI x3), none, none] [] (hH L m) = if x3 < (m 41 1) then if x3 = x2 then if 0 ≤ x2 ∧ x2 < 5 then j_fin C 49 85 [some (jR 41), some (jI x1), some (jI x2), some (jI x3), none, none] [jL (m 46 x2.toNat), jI x3, jR 49] (hH L m) else none else if 0 ≤ x3 ∧ x3 < 5 then if 0 ≤ x2 ∧ x2 < 5 then if 0 ≤ (w32 ((w32 (x1 * 5)) + x3)) ∧ (w32 ((w32 (x1 * 5)) + x3)) < 100 then (C 51 [jR 41, jL (m 46 x3.toNat), jL (m 46 x2.toNat), jL (m 44 (w32 ((w32 (x1 * 5)) + x3)).toNat), jI x1, jI x2] (hH L m)).bind fun z => j_fin C 49 85 [some (jR 41), some (jI x1), some (jI x2), some (jI x3), none, none] (z.1.toList ++ [jI x3, jR 49]) z.2 else none else none else none else if 0 ≤ x2 ∧ x2 < 5 then if 0 ≤ x1 ∧ x1 < 20 then (C 51 [jR 41, jL (m 41 3), jL (w64 (-(m 46 x2.toNat))), jL (m 45 x1.toNat), jI x1, jI x2] (hH L m)).bind fun z => j_fin C 49 129 [some (jR 41), some (jI x1), some (jI x2), some (jI x3), none, none] (z.1.toList ++ []) z.2 else none else none := by
  refine (S_iload_n rfl at_49_30).trans ?_
  refine (S_aload_n rfl at_49_31).trans ?_
  refine (H_get0 (ka_41 L _) rfl at_49_32).trans ?_
  refine (S_icmp_ge at_49_35).trans ?_
  refine ite_congr rfl (fun _ => ?_) (fun _ => ?_)
  · refine (S_aload_n rfl at_49_38).trans ?_
    refine (S_getR (ka_41 L _) rfl (f_41_12 L _) at_49_39).trans ?_
    refine (S_iload_n rfl at_49_42).trans ?_
    refine (S_iload_n rfl at_49_43).trans ?_
    refine (S_iload_n rfl at_49_44).trans ?_
    refine (S_icmp_ne at_49_45).trans ?_
    refine ite_congr rfl (fun _ => ?_) (fun _ => ?_)
    · refine (S_aload_n rfl at_49_48).trans ?_
      refine (S_getR (ka_41 L _) rfl (f_41_9 L _) at_49_49).trans ?_
      refine (S_iload_n rfl at_49_52).trans ?_
      refine (H_laload (ka_46 L _) at_49_53).trans ?_
      refine ite_congr rfl (fun hi => ?_) (fun _ => rfl)
      refine (S_goto at_49_54).trans ?_
      rfl
    · refine (S_aload_n rfl at_49_57).trans ?_
      refine (S_aload_n rfl at_49_58).trans ?_
      refine (S_getR (ka_41 L _) rfl (f_41_9 L _) at_49_59).trans ?_
      refine (S_iload_n rfl at_49_62).trans ?_
      refine (H_laload (ka_46 L _) at_49_63).trans ?_
      refine ite_congr rfl (fun hi => ?_) (fun _ => rfl)
      refine (S_aload_n rfl at_49_64).trans ?_
      refine (S_getR (ka_41 L _) rfl (f_41_9 L _) at_49_65).trans ?_
      refine (S_iload_n rfl at_49_68).trans ?_
      refine (H_laload (ka_46 L _) at_49_69).trans ?_
      refine ite_congr rfl (fun hi => ?_) (fun _ => rfl)
      refine (S_aload_n rfl at_49_70).trans ?_
      refine (S_getR (ka_41 L _) rfl (f_41_7 L _) at_49_71).trans ?_
      refine (S_iload_n rfl at_49_74).trans ?_
      refine (S_iconst at_49_75).trans ?_
      refine (S_imul at_49_76).trans ?_
      refine (S_iload_n rfl at_49_77).trans ?_
      refine (S_iadd at_49_78).trans ?_
      refine (H_laload (ka_44 L _) at_49_79).trans ?_
      refine ite_congr rfl (fun hi => ?_) (fun _ => rfl)
      refine (S_iload_n rfl at_49_80).trans ?_
      refine (S_iload_n rfl at_49_81).trans ?_
      refine (S_invv (b := 5) kn_51 rfl (ka_41 L _) (Nat.le_of_ble_eq_true rfl) at_49_82).trans ?_
      rfl
  · refine (S_aload_n rfl at_49_106).trans ?_
    refine (S_aload_n rfl at_49_107).trans ?_
    refine (H_get1 (ka_41 L _) rfl at_49_108).trans ?_
    refine (S_aload_n rfl at_49_111).trans ?_
    refine (S_getR (ka_41 L _) rfl (f_41_9 L _) at_49_112).trans ?_
    refine (S_iload_n rfl at_49_115).trans ?_
    refine (H_laload (ka_46 L _) at_49_116).trans ?_
    refine ite_congr rfl (fun hi => ?_) (fun _ => rfl)
    refine (S_lneg at_49_117).trans ?_
    refine (S_aload_n rfl at_49_118).trans ?_
    refine (S_getR (ka_41 L _) rfl (f_41_8 L _) at_49_119).trans ?_
    refine (S_iload_n rfl at_49_122).trans ?_
    refine (H_laload (ka_45 L _) at_49_123).trans ?_
    refine ite_congr rfl (fun hi => ?_) (fun _ => rfl)
    refine (S_iload_n rfl at_49_124).trans ?_
    refine (S_iload_n rfl at_49_125).trans ?_
    refine (S_invv (b := 5) kn_51 rfl (ka_41 L _) (Nat.le_of_ble_eq_true rfl) at_49_126).trans ?_
    rfl
theorem T49_85_41 {C : Nat → List j_V → j_H → Option j_Z} {L : Nat} {m : j_M0} {x1 : Int} {x2 : Int} {x3 : Int} {s1 : Int} {t2 : Int} : j_fin C 49 85 [some (jR 41), some (jI x1), some (jI x2), some (jI x3), none, none] [jL t2, jI s1, jR 49] (hH L m) = if 0 ≤ s1 ∧ s1 < 5 then if 0 ≤ x3 ∧ x3 < 5 then (C 144 [jL ((j_up m 49 s1.toNat t2) 49 x3.toNat)] (hH L (j_up m 49 s1.toNat t2))).bind fun z => j_fin C 49 95 [some (jR 41), some (jI x1), some (jI x2), some (jI x3), none, none] (z.1.toList ++ []) z.2 else none else none := by
  refine (H_lastore (by omega) (ka_49 L _) at_49_85).trans ?_
  refine ite_congr rfl (fun hi => ?_) (fun _ => rfl)
  refine (S_aload_n rfl at_49_86).trans ?_
  refine (S_getR (ka_41 L _) rfl (f_41_12 L _) at_49_87).trans ?_
  refine (S_iload_n rfl at_49_90).trans ?_
  refine (H_laload (ka_49 L _) at_49_91).trans ?_
  refine ite_congr rfl (fun hi => ?_) (fun _ => rfl)
  refine (S_invs (by decide) (Nat.le_of_ble_eq_true rfl) (Nat.le_of_ble_eq_true rfl) at_49_92).trans ?_
  rfl
theorem T49_95_41 {C : Nat → List j_V → j_H → Option j_Z} {L : Nat} {m : j_M0} {x1 : Int} {x2 : Int} {x3 : Int} {s0 : Int} : j_fin C 49 95 [some (jR 41), some (jI x1), some (jI x2), some (jI x3), none, none] [jI s0] (hH L m) = if s0 = 0 then some (some (jI 0), hH L m) else j_fin C 49 30 [some (jR 41), some (jI x1), some (jI x2), some (jI (w32 (x3 + 1))), none, none] [] (hH L m) := by
  refine (S_if_ne at_49_95).trans ?_
  refine ite_congr rfl (fun _ => ?_) (fun _ => ?_)
  · refine (S_iconst at_49_98).trans ?_
    exact (S_iretz rfl at_49_99).trans (if_pos (by decide))
  · refine (S_iinc (l1 := [some (jR 41), some (jI x1), some (jI x2), some (jI (w32 (x3 + 1))), none, none]) rfl rfl at_49_100).trans ?_
    refine (S_goto at_49_103).trans ?_
    rfl
theorem T49_129_41 {C : Nat → List j_V → j_H → Option j_Z} {L : Nat} {m : j_M0} {x1 : Int} {x2 : Int} {x3 : Int} {t0 : Int} : j_fin C 49 129 [some (jR 41), some (jI x1), some (jI x2), some (jI x3), none, none] [jL t0] (hH L m) = (C 144 [jL t0] (hH L m)).bind fun z => j_fin C 49 134 [some (jR 41), some (jI x1), some (jI x2), some (jL t0), none, none] (z.1.toList ++ []) z.2 := by
  refine (S_lstore_n (l1 := [some (jR 41), some (jI x1), some (jI x2), some (jL t0), none, none]) rfl at_49_129).trans ?_
  refine (S_lload_n rfl at_49_130).trans ?_
  refine (S_invs (by decide) (Nat.le_of_ble_eq_true rfl) (Nat.le_of_ble_eq_true rfl) at_49_131).trans ?_
  rfl
theorem T49_134_41 {C : Nat → List j_V → j_H → Option j_Z} {L : Nat} {m : j_M0} {x1 : Int} {x2 : Int} {y3 : Int} {s0 : Int} : j_fin C 49 134 [some (jR 41), some (jI x1), some (jI x2), some (jL y3), none, none] [jI s0] (hH L m) = if s0 = 0 then some (some (jI 0), hH L m) else if 0 ≤ (w32 ((w32 (x1 * 5)) + x2)) ∧ (w32 ((w32 (x1 * 5)) + x2)) < 100 then if 0 ≤ (w32 (((j_up (j_up m 41 3 y3) 41 4 (w64 (-((j_up m 41 3 y3) 44 (w32 ((w32 (x1 * 5)) + x2)).toNat)))) 41 0) * 5)) ∧ 0 ≤ (0 : Int) ∧ 0 ≤ (0 : Int) ∧ (0 : Int) + (w32 (((j_up (j_up m 41 3 y3) 41 4 (w64 (-((j_up m 41 3 y3) 44 (w32 ((w32 (x1 * 5)) + x2)).toNat)))) 41 0) * 5)) ≤ 100 ∧ (0 : Int) + (w32 (((j_up (j_up m 41 3 y3) 41 4 (w64 (-((j_up m 41 3 y3) 44 (w32 ((w32 (x1 * 5)) + x2)).toNat)))) 41 0) * 5)) ≤ 100 then if 0 ≤ ((j_cpy (j_up (j_up m 41 3 y3) 41 4 (w64 (-((j_up m 41 3 y3) 44 (w32 ((w32 (x1 * 5)) + x2)).toNat)))) 47 0 44 0 (w32 (((j_up (j_up m 41 3 y3) 41 4 (w64 (-((j_up m 41 3 y3) 44 (w32 ((w32 (x1 * 5)) + x2)).toNat)))) 41 0) * 5)).toNat) 41 0) ∧ 0 ≤ (0 : Int) ∧ 0 ≤ (0 : Int) ∧ (0 : Int) + ((j_cpy (j_up (j_up m 41 3 y3) 41 4 (w64 (-((j_up m 41 3 y3) 44 (w32 ((w32 (x1 * 5)) + x2)).toNat)))) 47 0 44 0 (w32 (((j_up (j_up m 41 3 y3) 41 4 (w64 (-((j_up m 41 3 y3) 44 (w32 ((w32 (x1 * 5)) + x2)).toNat)))) 41 0) * 5)).toNat) 41 0) ≤ 20 ∧ (0 : Int) + ((j_cpy (j_up (j_up m 41 3 y3) 41 4 (w64 (-((j_up m 41 3 y3) 44 (w32 ((w32 (x1 * 5)) + x2)).toNat)))) 47 0 44 0 (w32 (((j_up (j_up m 41 3 y3) 41 4 (w64 (-((j_up m 41 3 y3) 44 (w32 ((w32 (x1 * 5)) + x2)).toNat)))) 41 0) * 5)).toNat) 41 0) ≤ 20 then if 0 ≤ ((j_cpy (j_cpy (j_up (j_up m 41 3 y3) 41 4 (w64 (-((j_up m 41 3 y3) 44 (w32 ((w32 (x1 * 5)) + x2)).toNat)))) 47 0 44 0 (w32 (((j_up (j_up m 41 3 y3) 41 4 (w64 (-((j_up m 41 3 y3) 44 (w32 ((w32 (x1 * 5)) + x2)).toNat)))) 41 0) * 5)).toNat) 48 0 45 0 ((j_cpy (j_up (j_up m 41 3 y3) 41 4 (w64 (-((j_up m 41 3 y3) 44 (w32 ((w32 (x1 * 5)) + x2)).toNat)))) 47 0 44 0 (w32 (((j_up (j_up m 41 3 y3) 41 4 (w64 (-((j_up m 41 3 y3) 44 (w32 ((w32 (x1 * 5)) + x2)).toNat)))) 41 0) * 5)).toNat) 41 0).toNat) 41 1) ∧ 0 ≤ (0 : Int) ∧ 0 ≤ (0 : Int) ∧ (0 : Int) + ((j_cpy (j_cpy (j_up (j_up m 41 3 y3) 41 4 (w64 (-((j_up m 41 3 y3) 44 (w32 ((w32 (x1 * 5)) + x2)).toNat)))) 47 0 44 0 (w32 (((j_up (j_up m 41 3 y3) 41 4 (w64 (-((j_up m 41 3 y3) 44 (w32 ((w32 (x1 * 5)) + x2)).toNat)))) 41 0) * 5)).toNat) 48 0 45 0 ((j_cpy (j_up (j_up m 41 3 y3) 41 4 (w64 (-((j_up m 41 3 y3) 44 (w32 ((w32 (x1 * 5)) + x2)).toNat)))) 47 0 44 0 (w32 (((j_up (j_up m 41 3 y3) 41 4 (w64 (-((j_up m 41 3 y3) 44 (w32 ((w32 (x1 * 5)) + x2)).toNat)))) 41 0) * 5)).toNat) 41 0).toNat) 41 1) ≤ 5 ∧ (0 : Int) + ((j_cpy (j_cpy (j_up (j_up m 41 3 y3) 41 4 (w64 (-((j_up m 41 3 y3) 44 (w32 ((w32 (x1 * 5)) + x2)).toNat)))) 47 0 44 0 (w32 (((j_up (j_up m 41 3 y3) 41 4 (w64 (-((j_up m 41 3 y3) 44 (w32 ((w32 (x1 * 5)) + x2)).toNat)))) 41 0) * 5)).toNat) 48 0 45 0 ((j_cpy (j_up (j_up m 41 3 y3) 41 4 (w64 (-((j_up m 41 3 y3) 44 (w32 ((w32 (x1 * 5)) + x2)).toNat)))) 47 0 44 0 (w32 (((j_up (j_up m 41 3 y3) 41 4 (w64 (-((j_up m 41 3 y3) 44 (w32 ((w32 (x1 * 5)) + x2)).toNat)))) 41 0) * 5)).toNat) 41 0).toNat) 41 1) ≤ 5 then if 0 ≤ x1 ∧ x1 < 20 then if 0 ≤ x2 ∧ x2 < 5 then if 0 ≤ x1 ∧ x1 < 20 then if 0 ≤ x2 ∧ x2 < 5 then some (some (jI 1), hH L (j_up (j_up (j_up (j_cpy (j_cpy (j_cpy (j_up (j_up m 41 3 y3) 41 4 (w64 (-((j_up m 41 3 y3) 44 (w32 ((w32 (x1 * 5)) + x2)).toNat)))) 47 0 44 0 (w32 (((j_up (j_up m 41 3 y3) 41 4 (w64 (-((j_up m 41 3 y3) 44 (w32 ((w32 (x1 * 5)) + x2)).toNat)))) 41 0) * 5)).toNat) 48 0 45 0 ((j_cpy (j_up (j_up m 41 3 y3) 41 4 (w64 (-((j_up m 41 3 y3) 44 (w32 ((w32 (x1 * 5)) + x2)).toNat)))) 47 0 44 0 (w32 (((j_up (j_up m 41 3 y3) 41 4 (w64 (-((j_up m 41 3 y3) 44 (w32 ((w32 (x1 * 5)) + x2)).toNat)))) 41 0) * 5)).toNat) 41 0).toNat) 49 0 46 0 ((j_cpy (j_cpy (j_up (j_up m 41 3 y3) 41 4 (w64 (-((j_up m 41 3 y3) 44 (w32 ((w32 (x1 * 5)) + x2)).toNat)))) 47 0 44 0 (w32 (((j_up (j_up m 41 3 y3) 41 4 (w64 (-((j_up m 41 3 y3) 44 (w32 ((w32 (x1 * 5)) + x2)).toNat)))) 41 0) * 5)).toNat) 48 0 45 0 ((j_cpy (j_up (j_up m 41 3 y3) 41 4 (w64 (-((j_up m 41 3 y3) 44 (w32 ((w32 (x1 * 5)) + x2)).toNat)))) 47 0 44 0 (w32 (((j_up (j_up m 41 3 y3) 41 4 (w64 (-((j_up m 41 3 y3) 44 (w32 ((w32 (x1 * 5)) + x2)).toNat)))) 41 0) * 5)).toNat) 41 0).toNat) 41 1).toNat) 42 x1.toNat ((j_cpy (j_cpy (j_cpy (j_up (j_up m 41 3 y3) 41 4 (w64 (-((j_up m 41 3 y3) 44 (w32 ((w32 (x1 * 5)) + x2)).toNat)))) 47 0 44 0 (w32 (((j_up (j_up m 41 3 y3) 41 4 (w64 (-((j_up m 41 3 y3) 44 (w32 ((w32 (x1 * 5)) + x2)).toNat)))) 41 0) * 5)).toNat) 48 0 45 0 ((j_cpy (j_up (j_up m 41 3 y3) 41 4 (w64 (-((j_up m 41 3 y3) 44 (w32 ((w32 (x1 * 5)) + x2)).toNat)))) 47 0 44 0 (w32 (((j_up (j_up m 41 3 y3) 41 4 (w64 (-((j_up m 41 3 y3) 44 (w32 ((w32 (x1 * 5)) + x2)).toNat)))) 41 0) * 5)).toNat) 41 0).toNat) 49 0 46 0 ((j_cpy (j_cpy (j_up (j_up m 41 3 y3) 41 4 (w64 (-((j_up m 41 3 y3) 44 (w32 ((w32 (x1 * 5)) + x2)).toNat)))) 47 0 44 0 (w32 (((j_up (j_up m 41 3 y3) 41 4 (w64 (-((j_up m 41 3 y3) 44 (w32 ((w32 (x1 * 5)) + x2)).toNat)))) 41 0) * 5)).toNat) 48 0 45 0 ((j_cpy (j_up (j_up m 41 3 y3) 41 4 (w64 (-((j_up m 41 3 y3) 44 (w32 ((w32 (x1 * 5)) + x2)).toNat)))) 47 0 44 0 (w32 (((j_up (j_up m 41 3 y3) 41 4 (w64 (-((j_up m 41 3 y3) 44 (w32 ((w32 (x1 * 5)) + x2)).toNat)))) 41 0) * 5)).toNat) 41 0).toNat) 41 1).toNat) 43 x2.toNat)) 43 x2.toNat ((j_cpy (j_cpy (j_cpy (j_up (j_up m 41 3 y3) 41 4 (w64 (-((j_up m 41 3 y3) 44 (w32 ((w32 (x1 * 5)) + x2)).toNat)))) 47 0 44 0 (w32 (((j_up (j_up m 41 3 y3) 41 4 (w64 (-((j_up m 41 3 y3) 44 (w32 ((w32 (x1 * 5)) + x2)).toNat)))) 41 0) * 5)).toNat) 48 0 45 0 ((j_cpy (j_up (j_up m 41 3 y3) 41 4 (w64 (-((j_up m 41 3 y3) 44 (w32 ((w32 (x1 * 5)) + x2)).toNat)))) 47 0 44 0 (w32 (((j_up (j_up m 41 3 y3) 41 4 (w64 (-((j_up m 41 3 y3) 44 (w32 ((w32 (x1 * 5)) + x2)).toNat)))) 41 0) * 5)).toNat) 41 0).toNat) 49 0 46 0 ((j_cpy (j_cpy (j_up (j_up m 41 3 y3) 41 4 (w64 (-((j_up m 41 3 y3) 44 (w32 ((w32 (x1 * 5)) + x2)).toNat)))) 47 0 44 0 (w32 (((j_up (j_up m 41 3 y3) 41 4 (w64 (-((j_up m 41 3 y3) 44 (w32 ((w32 (x1 * 5)) + x2)).toNat)))) 41 0) * 5)).toNat) 48 0 45 0 ((j_cpy (j_up (j_up m 41 3 y3) 41 4 (w64 (-((j_up m 41 3 y3) 44 (w32 ((w32 (x1 * 5)) + x2)).toNat)))) 47 0 44 0 (w32 (((j_up (j_up m 41 3 y3) 41 4 (w64 (-((j_up m 41 3 y3) 44 (w32 ((w32 (x1 * 5)) + x2)).toNat)))) 41 0) * 5)).toNat) 41 0).toNat) 41 1).toNat) 42 x1.toNat)) 41 2 (w32 (((j_up (j_up (j_cpy (j_cpy (j_cpy (j_up (j_up m 41 3 y3) 41 4 (w64 (-((j_up m 41 3 y3) 44 (w32 ((w32 (x1 * 5)) + x2)).toNat)))) 47 0 44 0 (w32 (((j_up (j_up m 41 3 y3) 41 4 (w64 (-((j_up m 41 3 y3) 44 (w32 ((w32 (x1 * 5)) + x2)).toNat)))) 41 0) * 5)).toNat) 48 0 45 0 ((j_cpy (j_up (j_up m 41 3 y3) 41 4 (w64 (-((j_up m 41 3 y3) 44 (w32 ((w32 (x1 * 5)) + x2)).toNat)))) 47 0 44 0 (w32 (((j_up (j_up m 41 3 y3) 41 4 (w64 (-((j_up m 41 3 y3) 44 (w32 ((w32 (x1 * 5)) + x2)).toNat)))) 41 0) * 5)).toNat) 41 0).toNat) 49 0 46 0 ((j_cpy (j_cpy (j_up (j_up m 41 3 y3) 41 4 (w64 (-((j_up m 41 3 y3) 44 (w32 ((w32 (x1 * 5)) + x2)).toNat)))) 47 0 44 0 (w32 (((j_up (j_up m 41 3 y3) 41 4 (w64 (-((j_up m 41 3 y3) 44 (w32 ((w32 (x1 * 5)) + x2)).toNat)))) 41 0) * 5)).toNat) 48 0 45 0 ((j_cpy (j_up (j_up m 41 3 y3) 41 4 (w64 (-((j_up m 41 3 y3) 44 (w32 ((w32 (x1 * 5)) + x2)).toNat)))) 47 0 44 0 (w32 (((j_up (j_up m 41 3 y3) 41 4 (w64 (-((j_up m 41 3 y3) 44 (w32 ((w32 (x1 * 5)) + x2)).toNat)))) 41 0) * 5)).toNat) 41 0).toNat) 41 1).toNat) 42 x1.toNat ((j_cpy (j_cpy (j_cpy (j_up (j_up m 41 3 y3) 41 4 (w64 (-((j_up m 41 3 y3) 44 (w32 ((w32 (x1 * 5)) + x2)).toNat)))) 47 0 44 0 (w32 (((j_up (j_up m 41 3 y3) 41 4 (w64 (-((j_up m 41 3 y3) 44 (w32 ((w32 (x1 * 5)) + x2)).toNat)))) 41 0) * 5)).toNat) 48 0 45 0 ((j_cpy (j_up (j_up m 41 3 y3) 41 4 (w64 (-((j_up m 41 3 y3) 44 (w32 ((w32 (x1 * 5)) + x2)).toNat)))) 47 0 44 0 (w32 (((j_up (j_up m 41 3 y3) 41 4 (w64 (-((j_up m 41 3 y3) 44 (w32 ((w32 (x1 * 5)) + x2)).toNat)))) 41 0) * 5)).toNat) 41 0).toNat) 49 0 46 0 ((j_cpy (j_cpy (j_up (j_up m 41 3 y3) 41 4 (w64 (-((j_up m 41 3 y3) 44 (w32 ((w32 (x1 * 5)) + x2)).toNat)))) 47 0 44 0 (w32 (((j_up (j_up m 41 3 y3) 41 4 (w64 (-((j_up m 41 3 y3) 44 (w32 ((w32 (x1 * 5)) + x2)).toNat)))) 41 0) * 5)).toNat) 48 0 45 0 ((j_cpy (j_up (j_up m 41 3 y3) 41 4 (w64 (-((j_up m 41 3 y3) 44 (w32 ((w32 (x1 * 5)) + x2)).toNat)))) 47 0 44 0 (w32 (((j_up (j_up m 41 3 y3) 41 4 (w64 (-((j_up m 41 3 y3) 44 (w32 ((w32 (x1 * 5)) + x2)).toNat)))) 41 0) * 5)).toNat) 41 0).toNat) 41 1).toNat) 43 x2.toNat)) 43 x2.toNat ((j_cpy (j_cpy (j_cpy (j_up (j_up m 41 3 y3) 41 4 (w64 (-((j_up m 41 3 y3) 44 (w32 ((w32 (x1 * 5)) + x2)).toNat)))) 47 0 44 0 (w32 (((j_up (j_up m 41 3 y3) 41 4 (w64 (-((j_up m 41 3 y3) 44 (w32 ((w32 (x1 * 5)) + x2)).toNat)))) 41 0) * 5)).toNat) 48 0 45 0 ((j_cpy (j_up (j_up m 41 3 y3) 41 4 (w64 (-((j_up m 41 3 y3) 44 (w32 ((w32 (x1 * 5)) + x2)).toNat)))) 47 0 44 0 (w32 (((j_up (j_up m 41 3 y3) 41 4 (w64 (-((j_up m 41 3 y3) 44 (w32 ((w32 (x1 * 5)) + x2)).toNat)))) 41 0) * 5)).toNat) 41 0).toNat) 49 0 46 0 ((j_cpy (j_cpy (j_up (j_up m 41 3 y3) 41 4 (w64 (-((j_up m 41 3 y3) 44 (w32 ((w32 (x1 * 5)) + x2)).toNat)))) 47 0 44 0 (w32 (((j_up (j_up m 41 3 y3) 41 4 (w64 (-((j_up m 41 3 y3) 44 (w32 ((w32 (x1 * 5)) + x2)).toNat)))) 41 0) * 5)).toNat) 48 0 45 0 ((j_cpy (j_up (j_up m 41 3 y3) 41 4 (w64 (-((j_up m 41 3 y3) 44 (w32 ((w32 (x1 * 5)) + x2)).toNat)))) 47 0 44 0 (w32 (((j_up (j_up m 41 3 y3) 41 4 (w64 (-((j_up m 41 3 y3) 44 (w32 ((w32 (x1 * 5)) + x2)).toNat)))) 41 0) * 5)).toNat) 41 0).toNat) 41 1).toNat) 42 x1.toNat)) 41 2) + 1)))) else none else none else none else none else none else none else none else none := by
  refine (S_if_ne at_49_134).trans ?_
  refine ite_congr rfl (fun _ => ?_) (fun _ => ?_)
  · refine (S_iconst at_49_137).trans ?_
    exact (S_iretz rfl at_49_138).trans (if_pos (by decide))
  · refine (S_aload_n rfl at_49_139).trans ?_
    refine (S_lload_n rfl at_49_140).trans ?_
    refine (H_put1 (ka_41 L _) rfl at_49_141).trans ?_
    refine (S_aload_n rfl at_49_144).trans ?_
    refine (S_aload_n rfl at_49_145).trans ?_
    refine (S_getR (ka_41 L _) rfl (f_41_7 L _) at_49_146).trans ?_
    refine (S_iload_n rfl at_49_149).trans ?_
    refine (S_iconst at_49_150).trans ?_
    refine (S_imul at_49_151).trans ?_
    refine (S_iload_n rfl at_49_152).trans ?_
    refine (S_iadd at_49_153).trans ?_
    refine (H_laload (ka_44 L _) at_49_154).trans ?_
    refine ite_congr rfl (fun hi => ?_) (fun _ => rfl)
    refine (S_lneg at_49_155).trans ?_
    refine (H_put1 (ka_41 L _) rfl at_49_156).trans ?_
    refine (S_aload_n rfl at_49_159).trans ?_
    refine (S_getR (ka_41 L _) rfl (f_41_10 L _) at_49_160).trans ?_
    refine (S_iconst at_49_163).trans ?_
    refine (S_aload_n rfl at_49_164).trans ?_
    refine (S_getR (ka_41 L _) rfl (f_41_7 L _) at_49_165).trans ?_
    refine (S_iconst at_49_168).trans ?_
    refine (S_aload_n rfl at_49_169).trans ?_
    refine (H_get0 (ka_41 L _) rfl at_49_170).trans ?_
    refine (S_iconst at_49_173).trans ?_
    refine (S_imul at_49_174).trans ?_
    refine (H_cpy rfl (by decide) (ka_47 L _) (ka_44 L _) (by omega) (Nat.le_of_ble_eq_true rfl) at_49_175).trans ?_
    refine ite_congr rfl (fun hi => ?_) (fun _ => rfl)
    refine (S_aload_n rfl at_49_178).trans ?_
    refine (S_getR (ka_41 L _) rfl (f_41_11 L _) at_49_179).trans ?_
    refine (S_iconst at_49_182).trans ?_
    refine (S_aload_n rfl at_49_183).trans ?_
    refine (S_getR (ka_41 L _) rfl (f_41_8 L _) at_49_184).trans ?_
    refine (S_iconst at_49_187).trans ?_
    refine (S_aload_n rfl at_49_188).trans ?_
    refine (H_get0 (ka_41 L _) rfl at_49_189).trans ?_
    refine (H_cpy rfl (by decide) (ka_48 L _) (ka_45 L _) (by omega) (Nat.le_of_ble_eq_true rfl) at_49_192).trans ?_
    refine ite_congr rfl (fun hi => ?_) (fun _ => rfl)
    refine (S_aload_n rfl at_49_195).trans ?_
    refine (S_getR (ka_41 L _) rfl (f_41_12 L _) at_49_196).trans ?_
    refine (S_iconst at_49_199).trans ?_
    refine (S_aload_n rfl at_49_200).trans ?_
    refine (S_getR (ka_41 L _) rfl (f_41_9 L _) at_49_201).trans ?_
    refine (S_iconst at_49_204).trans ?_
    refine (S_aload_n rfl at_49_205).trans ?_
    refine (H_get0 (ka_41 L _) rfl at_49_206).trans ?_
    refine (H_cpy rfl (by decide) (ka_49 L _) (ka_46 L _) (by omega) (Nat.le_of_ble_eq_true rfl) at_49_209).trans ?_
    refine ite_congr rfl (fun hi => ?_) (fun _ => rfl)
    refine (S_aload_n rfl at_49_212).trans ?_
    refine (S_getR (ka_41 L _) rfl (f_41_5 L _) at_49_213).trans ?_
    refine (S_iload_n rfl at_49_216).trans ?_
    refine (H_iaload (ka_42 L _) at_49_217).trans ?_
    refine ite_congr rfl (fun hi => ?_) (fun _ => rfl)
    refine (S_istore (l1 := [some (jR 41), some (jI x1), some (jI x2), some (jL y3), none, some (jI ((j_cpy (j_cpy (j_cpy (j_up (j_up m 41 3 y3) 41 4 (w64 (-((j_up m 41 3 y3) 44 (w32 ((w32 (x1 * 5)) + x2)).toNat)))) 47 0 44 0 (w32 (((j_up (j_up m 41 3 y3) 41 4 (w64 (-((j_up m 41 3 y3) 44 (w32 ((w32 (x1 * 5)) + x2)).toNat)))) 41 0) * 5)).toNat) 48 0 45 0 ((j_cpy (j_up (j_up m 41 3 y3) 41 4 (w64 (-((j_up m 41 3 y3) 44 (w32 ((w32 (x1 * 5)) + x2)).toNat)))) 47 0 44 0 (w32 (((j_up (j_up m 41 3 y3) 41 4 (w64 (-((j_up m 41 3 y3) 44 (w32 ((w32 (x1 * 5)) + x2)).toNat)))) 41 0) * 5)).toNat) 41 0).toNat) 49 0 46 0 ((j_cpy (j_cpy (j_up (j_up m 41 3 y3) 41 4 (w64 (-((j_up m 41 3 y3) 44 (w32 ((w32 (x1 * 5)) + x2)).toNat)))) 47 0 44 0 (w32 (((j_up (j_up m 41 3 y3) 41 4 (w64 (-((j_up m 41 3 y3) 44 (w32 ((w32 (x1 * 5)) + x2)).toNat)))) 41 0) * 5)).toNat) 48 0 45 0 ((j_cpy (j_up (j_up m 41 3 y3) 41 4 (w64 (-((j_up m 41 3 y3) 44 (w32 ((w32 (x1 * 5)) + x2)).toNat)))) 47 0 44 0 (w32 (((j_up (j_up m 41 3 y3) 41 4 (w64 (-((j_up m 41 3 y3) 44 (w32 ((w32 (x1 * 5)) + x2)).toNat)))) 41 0) * 5)).toNat) 41 0).toNat) 41 1).toNat) 42 x1.toNat))]) rfl at_49_218).trans ?_
    refine (S_aload_n rfl at_49_220).trans ?_
    refine (S_getR (ka_41 L _) rfl (f_41_5 L _) at_49_221).trans ?_
    refine (S_iload_n rfl at_49_224).trans ?_
    refine (S_aload_n rfl at_49_225).trans ?_
    refine (S_getR (ka_41 L _) rfl (f_41_6 L _) at_49_226).trans ?_
    refine (S_iload_n rfl at_49_229).trans ?_
    refine (H_iaload (ka_43 L _) at_49_230).trans ?_
    refine ite_congr rfl (fun hi => ?_) (fun _ => rfl)
    refine (H_iastore (by omega) (ka_42 L _) at_49_231).trans ?_
    refine ite_congr rfl (fun hi => ?_) (fun _ => rfl)
    refine (S_aload_n rfl at_49_232).trans ?_
    refine (S_getR (ka_41 L _) rfl (f_41_6 L _) at_49_233).trans ?_
    refine (S_iload_n rfl at_49_236).trans ?_
    refine (S_iload rfl at_49_237).trans ?_
    refine (H_iastore (by omega) (ka_43 L _) at_49_239).trans ?_
    refine ite_congr rfl (fun hi => ?_) (fun _ => rfl)
    refine (S_aload_n rfl at_49_240).trans ?_
    refine (S_dup rfl at_49_241).trans ?_
    refine (H_get0 (ka_41 L _) rfl at_49_242).trans ?_
    refine (S_iconst at_49_245).trans ?_
    refine (S_iadd at_49_246).trans ?_
    refine (H_put0 (ka_41 L _) rfl at_49_247).trans ?_
    refine (S_iconst at_49_250).trans ?_
    exact (S_iretz rfl at_49_251).trans (if_pos (by decide))
theorem T49_0_55 {C : Nat → List j_V → j_H → Option j_Z} {L : Nat} {m : j_M0} {x1 : Int} {x2 : Int} : j_fin C 49 0 [some (jR 55), some (jI x1), some (jI x2), none, none, none] [] (hH L m) = j_fin C 49 2 [some (jR 55), some (jI x1), some (jI x2), some (jI 0), none, none] [] (hH L m) := by
  refine (S_iconst at_49_0).trans ?_
  refine (S_istore_n (l1 := [some (jR 55), some (jI x1), some (jI x2), some (jI 0), none, none]) rfl at_49_1).trans ?_
  rfl
theorem T49_2_55 {C : Nat → List j_V → j_H → Option j_Z} {L : Nat} {m : j_M0} {x1 : Int} {x2 : Int} {x3 : Int} : j_fin C 49 2 [some (jR 55), some (jI x1), some (jI x2), some (jI x3), none, none] [] (hH L m) = if x3 < (m 55 0) then (C 50 [jR 55, jI x3, jI x1, jI x2] (hH L m)).bind fun z => j_fin C 49 17 [some (jR 55), some (jI x1), some (jI x2), some (jI x3), none, none] (z.1.toList ++ []) z.2 else j_fin C 49 30 [some (jR 55), some (jI x1), some (jI x2), some (jI 0), none, none] [] (hH L m) := by
  refine (S_iload_n rfl at_49_2).trans ?_
  refine (S_aload_n rfl at_49_3).trans ?_
  refine (H_get0 (ka_55 L _) rfl at_49_4).trans ?_
  refine (S_icmp_ge at_49_7).trans ?_
  refine ite_congr rfl (fun _ => ?_) (fun _ => ?_)
  · refine (S_aload_n rfl at_49_10).trans ?_
    refine (S_iload_n rfl at_49_11).trans ?_
    refine (S_iload_n rfl at_49_12).trans ?_
    refine (S_iload_n rfl at_49_13).trans ?_
    refine (S_invv (b := 3) kn_50 rfl (ka_55 L _) (Nat.le_of_ble_eq_true rfl) at_49_14).trans ?_
    rfl
  · refine (S_iconst at_49_28).trans ?_
    refine (S_istore_n (l1 := [some (jR 55), some (jI x1), some (jI x2), some (jI 0), none, none]) rfl at_49_29).trans ?_
    rfl
theorem T49_17_55 {C : Nat → List j_V → j_H → Option j_Z} {L : Nat} {m : j_M0} {x1 : Int} {x2 : Int} {x3 : Int} {s0 : Int} : j_fin C 49 17 [some (jR 55), some (jI x1), some (jI x2), some (jI x3), none, none] [jI s0] (hH L m) = if s0 = 0 then some (some (jI 0), hH L m) else j_fin C 49 2 [some (jR 55), some (jI x1), some (jI x2), some (jI (w32 (x3 + 1))), none, none] [] (hH L m) := by
  refine (S_if_ne at_49_17).trans ?_
  refine ite_congr rfl (fun _ => ?_) (fun _ => ?_)
  · refine (S_iconst at_49_20).trans ?_
    exact (S_iretz rfl at_49_21).trans (if_pos (by decide))
  · refine (S_iinc (l1 := [some (jR 55), some (jI x1), some (jI x2), some (jI (w32 (x3 + 1))), none, none]) rfl rfl at_49_22).trans ?_
    refine (S_goto at_49_25).trans ?_
    rfl
theorem T49_30_55 {C : Nat → List j_V → j_H → Option j_Z} {L : Nat} {m : j_M0} {x1 : Int} {x2 : Int} {x3 : Int} : j_fin C 49 30 [some (jR 55), some (jI x1), some (jI x2), some (jI x3), none, none] [] (hH L m) = if x3 < (m 55 1) then if x3 = x2 then if 0 ≤ x2 ∧ x2 < 5 then j_fin C 49 85 [some (jR 55), some (jI x1), some (jI x2), some (jI x3), none, none] [jL (m 60 x2.toNat), jI x3, jR 63] (hH L m) else none else if 0 ≤ x3 ∧ x3 < 5 then if 0 ≤ x2 ∧ x2 < 5 then if 0 ≤ (w32 ((w32 (x1 * 5)) + x3)) ∧ (w32 ((w32 (x1 * 5)) + x3)) < 100 then (C 51 [jR 55, jL (m 60 x3.toNat), jL (m 60 x2.toNat), jL (m 58 (w32 ((w32 (x1 * 5)) + x3)).toNat), jI x1, jI x2] (hH L m)).bind fun z => j_fin C 49 85 [some (jR 55), some (jI x1), some (jI x2), some (jI x3), none, none] (z.1.toList ++ [jI x3, jR 63]) z.2 else none else none else none else if 0 ≤ x2 ∧ x2 < 5 then if 0 ≤ x1 ∧ x1 < 20 then (C 51 [jR 55, jL (m 55 3), jL (w64 (-(m 60 x2.toNat))), jL (m 59 x1.toNat), jI x1, jI x2] (hH L m)).bind fun z => j_fin C 49 129 [some (jR 55), some (jI x1), some (jI x2), some (jI x3), none, none] (z.1.toList ++ []) z.2 else none else none := by
  refine (S_iload_n rfl at_49_30).trans ?_
  refine (S_aload_n rfl at_49_31).trans ?_
  refine (H_get0 (ka_55 L _) rfl at_49_32).trans ?_
  refine (S_icmp_ge at_49_35).trans ?_
  refine ite_congr rfl (fun _ => ?_) (fun _ => ?_)
  · refine (S_aload_n rfl at_49_38).trans ?_
    refine (S_getR (ka_55 L _) rfl (f_55_12 L _) at_49_39).trans ?_
    refine (S_iload_n rfl at_49_42).trans ?_
    refine (S_iload_n rfl at_49_43).trans ?_
    refine (S_iload_n rfl at_49_44).trans ?_
    refine (S_icmp_ne at_49_45).trans ?_
    refine ite_congr rfl (fun _ => ?_) (fun _ => ?_)
    · refine (S_aload_n rfl at_49_48).trans ?_
      refine (S_getR (ka_55 L _) rfl (f_55_9 L _) at_49_49).trans ?_
      refine (S_iload_n rfl at_49_52).trans ?_
      refine (H_laload (ka_60 L _) at_49_53).trans ?_
      refine ite_congr rfl (fun hi => ?_) (fun _ => rfl)
      refine (S_goto at_49_54).trans ?_
      rfl
    · refine (S_aload_n rfl at_49_57).trans ?_
      refine (S_aload_n rfl at_49_58).trans ?_
      refine (S_getR (ka_55 L _) rfl (f_55_9 L _) at_49_59).trans ?_
      refine (S_iload_n rfl at_49_62).trans ?_
      refine (H_laload (ka_60 L _) at_49_63).trans ?_
      refine ite_congr rfl (fun hi => ?_) (fun _ => rfl)
      refine (S_aload_n rfl at_49_64).trans ?_
      refine (S_getR (ka_55 L _) rfl (f_55_9 L _) at_49_65).trans ?_
      refine (S_iload_n rfl at_49_68).trans ?_
      refine (H_laload (ka_60 L _) at_49_69).trans ?_
      refine ite_congr rfl (fun hi => ?_) (fun _ => rfl)
      refine (S_aload_n rfl at_49_70).trans ?_
      refine (S_getR (ka_55 L _) rfl (f_55_7 L _) at_49_71).trans ?_
      refine (S_iload_n rfl at_49_74).trans ?_
      refine (S_iconst at_49_75).trans ?_
      refine (S_imul at_49_76).trans ?_
      refine (S_iload_n rfl at_49_77).trans ?_
      refine (S_iadd at_49_78).trans ?_
      refine (H_laload (ka_58 L _) at_49_79).trans ?_
      refine ite_congr rfl (fun hi => ?_) (fun _ => rfl)
      refine (S_iload_n rfl at_49_80).trans ?_
      refine (S_iload_n rfl at_49_81).trans ?_
      refine (S_invv (b := 5) kn_51 rfl (ka_55 L _) (Nat.le_of_ble_eq_true rfl) at_49_82).trans ?_
      rfl
  · refine (S_aload_n rfl at_49_106).trans ?_
    refine (S_aload_n rfl at_49_107).trans ?_
    refine (H_get1 (ka_55 L _) rfl at_49_108).trans ?_
    refine (S_aload_n rfl at_49_111).trans ?_
    refine (S_getR (ka_55 L _) rfl (f_55_9 L _) at_49_112).trans ?_
    refine (S_iload_n rfl at_49_115).trans ?_
    refine (H_laload (ka_60 L _) at_49_116).trans ?_
    refine ite_congr rfl (fun hi => ?_) (fun _ => rfl)
    refine (S_lneg at_49_117).trans ?_
    refine (S_aload_n rfl at_49_118).trans ?_
    refine (S_getR (ka_55 L _) rfl (f_55_8 L _) at_49_119).trans ?_
    refine (S_iload_n rfl at_49_122).trans ?_
    refine (H_laload (ka_59 L _) at_49_123).trans ?_
    refine ite_congr rfl (fun hi => ?_) (fun _ => rfl)
    refine (S_iload_n rfl at_49_124).trans ?_
    refine (S_iload_n rfl at_49_125).trans ?_
    refine (S_invv (b := 5) kn_51 rfl (ka_55 L _) (Nat.le_of_ble_eq_true rfl) at_49_126).trans ?_
    rfl
theorem T49_85_55 {C : Nat → List j_V → j_H → Option j_Z} {L : Nat} {m : j_M0} {x1 : Int} {x2 : Int} {x3 : Int} {s1 : Int} {t2 : Int} : j_fin C 49 85 [some (jR 55), some (jI x1), some (jI x2), some (jI x3), none, none] [jL t2, jI s1, jR 63] (hH L m) = if 0 ≤ s1 ∧ s1 < 5 then if 0 ≤ x3 ∧ x3 < 5 then (C 144 [jL ((j_up m 63 s1.toNat t2) 63 x3.toNat)] (hH L (j_up m 63 s1.toNat t2))).bind fun z => j_fin C 49 95 [some (jR 55), some (jI x1), some (jI x2), some (jI x3), none, none] (z.1.toList ++ []) z.2 else none else none := by
  refine (H_lastore (by omega) (ka_63 L _) at_49_85).trans ?_
  refine ite_congr rfl (fun hi => ?_) (fun _ => rfl)
  refine (S_aload_n rfl at_49_86).trans ?_
  refine (S_getR (ka_55 L _) rfl (f_55_12 L _) at_49_87).trans ?_
  refine (S_iload_n rfl at_49_90).trans ?_
  refine (H_laload (ka_63 L _) at_49_91).trans ?_
  refine ite_congr rfl (fun hi => ?_) (fun _ => rfl)
  refine (S_invs (by decide) (Nat.le_of_ble_eq_true rfl) (Nat.le_of_ble_eq_true rfl) at_49_92).trans ?_
  rfl
theorem T49_95_55 {C : Nat → List j_V → j_H → Option j_Z} {L : Nat} {m : j_M0} {x1 : Int} {x2 : Int} {x3 : Int} {s0 : Int} : j_fin C 49 95 [some (jR 55), some (jI x1), some (jI x2), some (jI x3), none, none] [jI s0] (hH L m) = if s0 = 0 then some (some (jI 0), hH L m) else j_fin C 49 30 [some (jR 55), some (jI x1), some (jI x2), some (jI (w32 (x3 + 1))), none, none] [] (hH L m) := by
  refine (S_if_ne at_49_95).trans ?_
  refine ite_congr rfl (fun _ => ?_) (fun _ => ?_)
  · refine (S_iconst at_49_98).trans ?_
    exact (S_iretz rfl at_49_99).trans (if_pos (by decide))
  · refine (S_iinc (l1 := [some (jR 55), some (jI x1), some (jI x2), some (jI (w32 (x3 + 1))), none, none]) rfl rfl at_49_100).trans ?_
    refine (S_goto at_49_103).trans ?_
    rfl
theorem T49_129_55 {C : Nat → List j_V → j_H → Option j_Z} {L : Nat} {m : j_M0} {x1 : Int} {x2 : Int} {x3 : Int} {t0 : Int} : j_fin C 49 129 [some (jR 55), some (jI x1), some (jI x2), some (jI x3), none, none] [jL t0] (hH L m) = (C 144 [jL t0] (hH L m)).bind fun z => j_fin C 49 134 [some (jR 55), some (jI x1), some (jI x2), some (jL t0), none, none] (z.1.toList ++ []) z.2 := by
  refine (S_lstore_n (l1 := [some (jR 55), some (jI x1), some (jI x2), some (jL t0), none, none]) rfl at_49_129).trans ?_
  refine (S_lload_n rfl at_49_130).trans ?_
  refine (S_invs (by decide) (Nat.le_of_ble_eq_true rfl) (Nat.le_of_ble_eq_true rfl) at_49_131).trans ?_
  rfl
theorem T49_134_55 {C : Nat → List j_V → j_H → Option j_Z} {L : Nat} {m : j_M0} {x1 : Int} {x2 : Int} {y3 : Int} {s0 : Int} : j_fin C 49 134 [some (jR 55), some (jI x1), some (jI x2), some (jL y3), none, none] [jI s0] (hH L m) = if s0 = 0 then some (some (jI 0), hH L m) else if 0 ≤ (w32 ((w32 (x1 * 5)) + x2)) ∧ (w32 ((w32 (x1 * 5)) + x2)) < 100 then if 0 ≤ (w32 (((j_up (j_up m 55 3 y3) 55 4 (w64 (-((j_up m 55 3 y3) 58 (w32 ((w32 (x1 * 5)) + x2)).toNat)))) 55 0) * 5)) ∧ 0 ≤ (0 : Int) ∧ 0 ≤ (0 : Int) ∧ (0 : Int) + (w32 (((j_up (j_up m 55 3 y3) 55 4 (w64 (-((j_up m 55 3 y3) 58 (w32 ((w32 (x1 * 5)) + x2)).toNat)))) 55 0) * 5)) ≤ 100 ∧ (0 : Int) + (w32 (((j_up (j_up m 55 3 y3) 55 4 (w64 (-((j_up m 55 3 y3) 58 (w32 ((w32 (x1 * 5)) + x2)).toNat)))) 55 0) * 5)) ≤ 100 then if 0 ≤ ((j_cpy (j_up (j_up m 55 3 y3) 55 4 (w64 (-((j_up m 55 3 y3) 58 (w32 ((w32 (x1 * 5)) + x2)).toNat)))) 61 0 58 0 (w32 (((j_up (j_up m 55 3 y3) 55 4 (w64 (-((j_up m 55 3 y3) 58 (w32 ((w32 (x1 * 5)) + x2)).toNat)))) 55 0) * 5)).toNat) 55 0) ∧ 0 ≤ (0 : Int) ∧ 0 ≤ (0 : Int) ∧ (0 : Int) + ((j_cpy (j_up (j_up m 55 3 y3) 55 4 (w64 (-((j_up m 55 3 y3) 58 (w32 ((w32 (x1 * 5)) + x2)).toNat)))) 61 0 58 0 (w32 (((j_up (j_up m 55 3 y3) 55 4 (w64 (-((j_up m 55 3 y3) 58 (w32 ((w32 (x1 * 5)) + x2)).toNat)))) 55 0) * 5)).toNat) 55 0) ≤ 20 ∧ (0 : Int) + ((j_cpy (j_up (j_up m 55 3 y3) 55 4 (w64 (-((j_up m 55 3 y3) 58 (w32 ((w32 (x1 * 5)) + x2)).toNat)))) 61 0 58 0 (w32 (((j_up (j_up m 55 3 y3) 55 4 (w64 (-((j_up m 55 3 y3) 58 (w32 ((w32 (x1 * 5)) + x2)).toNat)))) 55 0) * 5)).toNat) 55 0) ≤ 20 then if 0 ≤ ((j_cpy (j_cpy (j_up (j_up m 55 3 y3) 55 4 (w64 (-((j_up m 55 3 y3) 58 (w32 ((w32 (x1 * 5)) + x2)).toNat)))) 61 0 58 0 (w32 (((j_up (j_up m 55 3 y3) 55 4 (w64 (-((j_up m 55 3 y3) 58 (w32 ((w32 (x1 * 5)) + x2)).toNat)))) 55 0) * 5)).toNat) 62 0 59 0 ((j_cpy (j_up (j_up m 55 3 y3) 55 4 (w64 (-((j_up m 55 3 y3) 58 (w32 ((w32 (x1 * 5)) + x2)).toNat)))) 61 0 58 0 (w32 (((j_up (j_up m 55 3 y3) 55 4 (w64 (-((j_up m 55 3 y3) 58 (w32 ((w32 (x1 * 5)) + x2)).toNat)))) 55 0) * 5)).toNat) 55 0).toNat) 55 1) ∧ 0 ≤ (0 : Int) ∧ 0 ≤ (0 : Int) ∧ (0 : Int) + ((j_cpy (j_cpy (j_up (j_up m 55 3 y3) 55 4 (w64 (-((j_up m 55 3 y3) 58 (w32 ((w32 (x1 * 5)) + x2)).toNat)))) 61 0 58 0 (w32 (((j_up (j_up m 55 3 y3) 55 4 (w64 (-((j_up m 55 3 y3) 58 (w32 ((w32 (x1 * 5)) + x2)).toNat)))) 55 0) * 5)).toNat) 62 0 59 0 ((j_cpy (j_up (j_up m 55 3 y3) 55 4 (w64 (-((j_up m 55 3 y3) 58 (w32 ((w32 (x1 * 5)) + x2)).toNat)))) 61 0 58 0 (w32 (((j_up (j_up m 55 3 y3) 55 4 (w64 (-((j_up m 55 3 y3) 58 (w32 ((w32 (x1 * 5)) + x2)).toNat)))) 55 0) * 5)).toNat) 55 0).toNat) 55 1) ≤ 5 ∧ (0 : Int) + ((j_cpy (j_cpy (j_up (j_up m 55 3 y3) 55 4 (w64 (-((j_up m 55 3 y3) 58 (w32 ((w32 (x1 * 5)) + x2)).toNat)))) 61 0 58 0 (w32 (((j_up (j_up m 55 3 y3) 55 4 (w64 (-((j_up m 55 3 y3) 58 (w32 ((w32 (x1 * 5)) + x2)).toNat)))) 55 0) * 5)).toNat) 62 0 59 0 ((j_cpy (j_up (j_up m 55 3 y3) 55 4 (w64 (-((j_up m 55 3 y3) 58 (w32 ((w32 (x1 * 5)) + x2)).toNat)))) 61 0 58 0 (w32 (((j_up (j_up m 55 3 y3) 55 4 (w64 (-((j_up m 55 3 y3) 58 (w32 ((w32 (x1 * 5)) + x2)).toNat)))) 55 0) * 5)).toNat) 55 0).toNat) 55 1) ≤ 5 then if 0 ≤ x1 ∧ x1 < 20 then if 0 ≤ x2 ∧ x2 < 5 then if 0 ≤ x1 ∧ x1 < 20 then if 0 ≤ x2 ∧ x2 < 5 then some (some (jI 1), hH L (j_up (j_up (j_up (j_cpy (j_cpy (j_cpy (j_up (j_up m 55 3 y3) 55 4 (w64 (-((j_up m 55 3 y3) 58 (w32 ((w32 (x1 * 5)) + x2)).toNat)))) 61 0 58 0 (w32 (((j_up (j_up m 55 3 y3) 55 4 (w64 (-((j_up m 55 3 y3) 58 (w32 ((w32 (x1 * 5)) + x2)).toNat)))) 55 0) * 5)).toNat) 62 0 59 0 ((j_cpy (j_up (j_up m 55 3 y3) 55 4 (w64 (-((j_up m 55 3 y3) 58 (w32 ((w32 (x1 * 5)) + x2)).toNat)))) 61 0 58 0 (w32 (((j_up (j_up m 55 3 y3) 55 4 (w64 (-((j_up m 55 3 y3) 58 (w32 ((w32 (x1 * 5)) + x2)).toNat)))) 55 0) * 5)).toNat) 55 0).toNat) 63 0 60 0 ((j_cpy (j_cpy (j_up (j_up m 55 3 y3) 55 4 (w64 (-((j_up m 55 3 y3) 58 (w32 ((w32 (x1 * 5)) + x2)).toNat)))) 61 0 58 0 (w32 (((j_up (j_up m 55 3 y3) 55 4 (w64 (-((j_up m 55 3 y3) 58 (w32 ((w32 (x1 * 5)) + x2)).toNat)))) 55 0) * 5)).toNat) 62 0 59 0 ((j_cpy (j_up (j_up m 55 3 y3) 55 4 (w64 (-((j_up m 55 3 y3) 58 (w32 ((w32 (x1 * 5)) + x2)).toNat)))) 61 0 58 0 (w32 (((j_up (j_up m 55 3 y3) 55 4 (w64 (-((j_up m 55 3 y3) 58 (w32 ((w32 (x1 * 5)) + x2)).toNat)))) 55 0) * 5)).toNat) 55 0).toNat) 55 1).toNat) 56 x1.toNat ((j_cpy (j_cpy (j_cpy (j_up (j_up m 55 3 y3) 55 4 (w64 (-((j_up m 55 3 y3) 58 (w32 ((w32 (x1 * 5)) + x2)).toNat)))) 61 0 58 0 (w32 (((j_up (j_up m 55 3 y3) 55 4 (w64 (-((j_up m 55 3 y3) 58 (w32 ((w32 (x1 * 5)) + x2)).toNat)))) 55 0) * 5)).toNat) 62 0 59 0 ((j_cpy (j_up (j_up m 55 3 y3) 55 4 (w64 (-((j_up m 55 3 y3) 58 (w32 ((w32 (x1 * 5)) + x2)).toNat)))) 61 0 58 0 (w32 (((j_up (j_up m 55 3 y3) 55 4 (w64 (-((j_up m 55 3 y3) 58 (w32 ((w32 (x1 * 5)) + x2)).toNat)))) 55 0) * 5)).toNat) 55 0).toNat) 63 0 60 0 ((j_cpy (j_cpy (j_up (j_up m 55 3 y3) 55 4 (w64 (-((j_up m 55 3 y3) 58 (w32 ((w32 (x1 * 5)) + x2)).toNat)))) 61 0 58 0 (w32 (((j_up (j_up m 55 3 y3) 55 4 (w64 (-((j_up m 55 3 y3) 58 (w32 ((w32 (x1 * 5)) + x2)).toNat)))) 55 0) * 5)).toNat) 62 0 59 0 ((j_cpy (j_up (j_up m 55 3 y3) 55 4 (w64 (-((j_up m 55 3 y3) 58 (w32 ((w32 (x1 * 5)) + x2)).toNat)))) 61 0 58 0 (w32 (((j_up (j_up m 55 3 y3) 55 4 (w64 (-((j_up m 55 3 y3) 58 (w32 ((w32 (x1 * 5)) + x2)).toNat)))) 55 0) * 5)).toNat) 55 0).toNat) 55 1).toNat) 57 x2.toNat)) 57 x2.toNat ((j_cpy (j_cpy (j_cpy (j_up (j_up m 55 3 y3) 55 4 (w64 (-((j_up m 55 3 y3) 58 (w32 ((w32 (x1 * 5)) + x2)).toNat)))) 61 0 58 0 (w32 (((j_up (j_up m 55 3 y3) 55 4 (w64 (-((j_up m 55 3 y3) 58 (w32 ((w32 (x1 * 5)) + x2)).toNat)))) 55 0) * 5)).toNat) 62 0 59 0 ((j_cpy (j_up (j_up m 55 3 y3) 55 4 (w64 (-((j_up m 55 3 y3) 58 (w32 ((w32 (x1 * 5)) + x2)).toNat)))) 61 0 58 0 (w32 (((j_up (j_up m 55 3 y3) 55 4 (w64 (-((j_up m 55 3 y3) 58 (w32 ((w32 (x1 * 5)) + x2)).toNat)))) 55 0) * 5)).toNat) 55 0).toNat) 63 0 60 0 ((j_cpy (j_cpy (j_up (j_up m 55 3 y3) 55 4 (w64 (-((j_up m 55 3 y3) 58 (w32 ((w32 (x1 * 5)) + x2)).toNat)))) 61 0 58 0 (w32 (((j_up (j_up m 55 3 y3) 55 4 (w64 (-((j_up m 55 3 y3) 58 (w32 ((w32 (x1 * 5)) + x2)).toNat)))) 55 0) * 5)).toNat) 62 0 59 0 ((j_cpy (j_up (j_up m 55 3 y3) 55 4 (w64 (-((j_up m 55 3 y3) 58 (w32 ((w32 (x1 * 5)) + x2)).toNat)))) 61 0 58 0 (w32 (((j_up (j_up m 55 3 y3) 55 4 (w64 (-((j_up m 55 3 y3) 58 (w32 ((w32 (x1 * 5)) + x2)).toNat)))) 55 0) * 5)).toNat) 55 0).toNat) 55 1).toNat) 56 x1.toNat)) 55 2 (w32 (((j_up (j_up (j_cpy (j_cpy (j_cpy (j_up (j_up m 55 3 y3) 55 4 (w64 (-((j_up m 55 3 y3) 58 (w32 ((w32 (x1 * 5)) + x2)).toNat)))) 61 0 58 0 (w32 (((j_up (j_up m 55 3 y3) 55 4 (w64 (-((j_up m 55 3 y3) 58 (w32 ((w32 (x1 * 5)) + x2)).toNat)))) 55 0) * 5)).toNat) 62 0 59 0 ((j_cpy (j_up (j_up m 55 3 y3) 55 4 (w64 (-((j_up m 55 3 y3) 58 (w32 ((w32 (x1 * 5)) + x2)).toNat)))) 61 0 58 0 (w32 (((j_up (j_up m 55 3 y3) 55 4 (w64 (-((j_up m 55 3 y3) 58 (w32 ((w32 (x1 * 5)) + x2)).toNat)))) 55 0) * 5)).toNat) 55 0).toNat) 63 0 60 0 ((j_cpy (j_cpy (j_up (j_up m 55 3 y3) 55 4 (w64 (-((j_up m 55 3 y3) 58 (w32 ((w32 (x1 * 5)) + x2)).toNat)))) 61 0 58 0 (w32 (((j_up (j_up m 55 3 y3) 55 4 (w64 (-((j_up m 55 3 y3) 58 (w32 ((w32 (x1 * 5)) + x2)).toNat)))) 55 0) * 5)).toNat) 62 0 59 0 ((j_cpy (j_up (j_up m 55 3 y3) 55 4 (w64 (-((j_up m 55 3 y3) 58 (w32 ((w32 (x1 * 5)) + x2)).toNat)))) 61 0 58 0 (w32 (((j_up (j_up m 55 3 y3) 55 4 (w64 (-((j_up m 55 3 y3) 58 (w32 ((w32 (x1 * 5)) + x2)).toNat)))) 55 0) * 5)).toNat) 55 0).toNat) 55 1).toNat) 56 x1.toNat ((j_cpy (j_cpy (j_cpy (j_up (j_up m 55 3 y3) 55 4 (w64 (-((j_up m 55 3 y3) 58 (w32 ((w32 (x1 * 5)) + x2)).toNat)))) 61 0 58 0 (w32 (((j_up (j_up m 55 3 y3) 55 4 (w64 (-((j_up m 55 3 y3) 58 (w32 ((w32 (x1 * 5)) + x2)).toNat)))) 55 0) * 5)).toNat) 62 0 59 0 ((j_cpy (j_up (j_up m 55 3 y3) 55 4 (w64 (-((j_up m 55 3 y3) 58 (w32 ((w32 (x1 * 5)) + x2)).toNat)))) 61 0 58 0 (w32 (((j_up (j_up m 55 3 y3) 55 4 (w64 (-((j_up m 55 3 y3) 58 (w32 ((w32 (x1 * 5)) + x2)).toNat)))) 55 0) * 5)).toNat) 55 0).toNat) 63 0 60 0 ((j_cpy (j_cpy (j_up (j_up m 55 3 y3) 55 4 (w64 (-((j_up m 55 3 y3) 58 (w32 ((w32 (x1 * 5)) + x2)).toNat)))) 61 0 58 0 (w32 (((j_up (j_up m 55 3 y3) 55 4 (w64 (-((j_up m 55 3 y3) 58 (w32 ((w32 (x1 * 5)) + x2)).toNat)))) 55 0) * 5)).toNat) 62 0 59 0 ((j_cpy (j_up (j_up m 55 3 y3) 55 4 (w64 (-((j_up m 55 3 y3) 58 (w32 ((w32 (x1 * 5)) + x2)).toNat)))) 61 0 58 0 (w32 (((j_up (j_up m 55 3 y3) 55 4 (w64 (-((j_up m 55 3 y3) 58 (w32 ((w32 (x1 * 5)) + x2)).toNat)))) 55 0) * 5)).toNat) 55 0).toNat) 55 1).toNat) 57 x2.toNat)) 57 x2.toNat ((j_cpy (j_cpy (j_cpy (j_up (j_up m 55 3 y3) 55 4 (w64 (-((j_up m 55 3 y3) 58 (w32 ((w32 (x1 * 5)) + x2)).toNat)))) 61 0 58 0 (w32 (((j_up (j_up m 55 3 y3) 55 4 (w64 (-((j_up m 55 3 y3) 58 (w32 ((w32 (x1 * 5)) + x2)).toNat)))) 55 0) * 5)).toNat) 62 0 59 0 ((j_cpy (j_up (j_up m 55 3 y3) 55 4 (w64 (-((j_up m 55 3 y3) 58 (w32 ((w32 (x1 * 5)) + x2)).toNat)))) 61 0 58 0 (w32 (((j_up (j_up m 55 3 y3) 55 4 (w64 (-((j_up m 55 3 y3) 58 (w32 ((w32 (x1 * 5)) + x2)).toNat)))) 55 0) * 5)).toNat) 55 0).toNat) 63 0 60 0 ((j_cpy (j_cpy (j_up (j_up m 55 3 y3) 55 4 (w64 (-((j_up m 55 3 y3) 58 (w32 ((w32 (x1 * 5)) + x2)).toNat)))) 61 0 58 0 (w32 (((j_up (j_up m 55 3 y3) 55 4 (w64 (-((j_up m 55 3 y3) 58 (w32 ((w32 (x1 * 5)) + x2)).toNat)))) 55 0) * 5)).toNat) 62 0 59 0 ((j_cpy (j_up (j_up m 55 3 y3) 55 4 (w64 (-((j_up m 55 3 y3) 58 (w32 ((w32 (x1 * 5)) + x2)).toNat)))) 61 0 58 0 (w32 (((j_up (j_up m 55 3 y3) 55 4 (w64 (-((j_up m 55 3 y3) 58 (w32 ((w32 (x1 * 5)) + x2)).toNat)))) 55 0) * 5)).toNat) 55 0).toNat) 55 1).toNat) 56 x1.toNat)) 55 2) + 1)))) else none else none else none else none else none else none else none else none := by
  refine (S_if_ne at_49_134).trans ?_
  refine ite_congr rfl (fun _ => ?_) (fun _ => ?_)
  · refine (S_iconst at_49_137).trans ?_
    exact (S_iretz rfl at_49_138).trans (if_pos (by decide))
  · refine (S_aload_n rfl at_49_139).trans ?_
    refine (S_lload_n rfl at_49_140).trans ?_
    refine (H_put1 (ka_55 L _) rfl at_49_141).trans ?_
    refine (S_aload_n rfl at_49_144).trans ?_
    refine (S_aload_n rfl at_49_145).trans ?_
    refine (S_getR (ka_55 L _) rfl (f_55_7 L _) at_49_146).trans ?_
    refine (S_iload_n rfl at_49_149).trans ?_
    refine (S_iconst at_49_150).trans ?_
    refine (S_imul at_49_151).trans ?_
    refine (S_iload_n rfl at_49_152).trans ?_
    refine (S_iadd at_49_153).trans ?_
    refine (H_laload (ka_58 L _) at_49_154).trans ?_
    refine ite_congr rfl (fun hi => ?_) (fun _ => rfl)
    refine (S_lneg at_49_155).trans ?_
    refine (H_put1 (ka_55 L _) rfl at_49_156).trans ?_
    refine (S_aload_n rfl at_49_159).trans ?_
    refine (S_getR (ka_55 L _) rfl (f_55_10 L _) at_49_160).trans ?_
    refine (S_iconst at_49_163).trans ?_
    refine (S_aload_n rfl at_49_164).trans ?_
    refine (S_getR (ka_55 L _) rfl (f_55_7 L _) at_49_165).trans ?_
    refine (S_iconst at_49_168).trans ?_
    refine (S_aload_n rfl at_49_169).trans ?_
    refine (H_get0 (ka_55 L _) rfl at_49_170).trans ?_
    refine (S_iconst at_49_173).trans ?_
    refine (S_imul at_49_174).trans ?_
    refine (H_cpy rfl (by decide) (ka_61 L _) (ka_58 L _) (by omega) (Nat.le_of_ble_eq_true rfl) at_49_175).trans ?_
    refine ite_congr rfl (fun hi => ?_) (fun _ => rfl)
    refine (S_aload_n rfl at_49_178).trans ?_
    refine (S_getR (ka_55 L _) rfl (f_55_11 L _) at_49_179).trans ?_
    refine (S_iconst at_49_182).trans ?_
    refine (S_aload_n rfl at_49_183).trans ?_
    refine (S_getR (ka_55 L _) rfl (f_55_8 L _) at_49_184).trans ?_
    refine (S_iconst at_49_187).trans ?_
    refine (S_aload_n rfl at_49_188).trans ?_
    refine (H_get0 (ka_55 L _) rfl at_49_189).trans ?_
    refine (H_cpy rfl (by decide) (ka_62 L _) (ka_59 L _) (by omega) (Nat.le_of_ble_eq_true rfl) at_49_192).trans ?_
    refine ite_congr rfl (fun hi => ?_) (fun _ => rfl)
    refine (S_aload_n rfl at_49_195).trans ?_
    refine (S_getR (ka_55 L _) rfl (f_55_12 L _) at_49_196).trans ?_
    refine (S_iconst at_49_199).trans ?_
    refine (S_aload_n rfl at_49_200).trans ?_
    refine (S_getR (ka_55 L _) rfl (f_55_9 L _) at_49_201).trans ?_
    refine (S_iconst at_49_204).trans ?_
    refine (S_aload_n rfl at_49_205).trans ?_
    refine (H_get0 (ka_55 L _) rfl at_49_206).trans ?_
    refine (H_cpy rfl (by decide) (ka_63 L _) (ka_60 L _) (by omega) (Nat.le_of_ble_eq_true rfl) at_49_209).trans ?_
    refine ite_congr rfl (fun hi => ?_) (fun _ => rfl)
    refine (S_aload_n rfl at_49_212).trans ?_
    refine (S_getR (ka_55 L _) rfl (f_55_5 L _) at_49_213).trans ?_
    refine (S_iload_n rfl at_49_216).trans ?_
    refine (H_iaload (ka_56 L _) at_49_217).trans ?_
    refine ite_congr rfl (fun hi => ?_) (fun _ => rfl)
    refine (S_istore (l1 := [some (jR 55), some (jI x1), some (jI x2), some (jL y3), none, some (jI ((j_cpy (j_cpy (j_cpy (j_up (j_up m 55 3 y3) 55 4 (w64 (-((j_up m 55 3 y3) 58 (w32 ((w32 (x1 * 5)) + x2)).toNat)))) 61 0 58 0 (w32 (((j_up (j_up m 55 3 y3) 55 4 (w64 (-((j_up m 55 3 y3) 58 (w32 ((w32 (x1 * 5)) + x2)).toNat)))) 55 0) * 5)).toNat) 62 0 59 0 ((j_cpy (j_up (j_up m 55 3 y3) 55 4 (w64 (-((j_up m 55 3 y3) 58 (w32 ((w32 (x1 * 5)) + x2)).toNat)))) 61 0 58 0 (w32 (((j_up (j_up m 55 3 y3) 55 4 (w64 (-((j_up m 55 3 y3) 58 (w32 ((w32 (x1 * 5)) + x2)).toNat)))) 55 0) * 5)).toNat) 55 0).toNat) 63 0 60 0 ((j_cpy (j_cpy (j_up (j_up m 55 3 y3) 55 4 (w64 (-((j_up m 55 3 y3) 58 (w32 ((w32 (x1 * 5)) + x2)).toNat)))) 61 0 58 0 (w32 (((j_up (j_up m 55 3 y3) 55 4 (w64 (-((j_up m 55 3 y3) 58 (w32 ((w32 (x1 * 5)) + x2)).toNat)))) 55 0) * 5)).toNat) 62 0 59 0 ((j_cpy (j_up (j_up m 55 3 y3) 55 4 (w64 (-((j_up m 55 3 y3) 58 (w32 ((w32 (x1 * 5)) + x2)).toNat)))) 61 0 58 0 (w32 (((j_up (j_up m 55 3 y3) 55 4 (w64 (-((j_up m 55 3 y3) 58 (w32 ((w32 (x1 * 5)) + x2)).toNat)))) 55 0) * 5)).toNat) 55 0).toNat) 55 1).toNat) 56 x1.toNat))]) rfl at_49_218).trans ?_
    refine (S_aload_n rfl at_49_220).trans ?_
    refine (S_getR (ka_55 L _) rfl (f_55_5 L _) at_49_221).trans ?_
    refine (S_iload_n rfl at_49_224).trans ?_
    refine (S_aload_n rfl at_49_225).trans ?_
    refine (S_getR (ka_55 L _) rfl (f_55_6 L _) at_49_226).trans ?_
    refine (S_iload_n rfl at_49_229).trans ?_
    refine (H_iaload (ka_57 L _) at_49_230).trans ?_
    refine ite_congr rfl (fun hi => ?_) (fun _ => rfl)
    refine (H_iastore (by omega) (ka_56 L _) at_49_231).trans ?_
    refine ite_congr rfl (fun hi => ?_) (fun _ => rfl)
    refine (S_aload_n rfl at_49_232).trans ?_
    refine (S_getR (ka_55 L _) rfl (f_55_6 L _) at_49_233).trans ?_
    refine (S_iload_n rfl at_49_236).trans ?_
    refine (S_iload rfl at_49_237).trans ?_
    refine (H_iastore (by omega) (ka_57 L _) at_49_239).trans ?_
    refine ite_congr rfl (fun hi => ?_) (fun _ => rfl)
    refine (S_aload_n rfl at_49_240).trans ?_
    refine (S_dup rfl at_49_241).trans ?_
    refine (H_get0 (ka_55 L _) rfl at_49_242).trans ?_
    refine (S_iconst at_49_245).trans ?_
    refine (S_iadd at_49_246).trans ?_
    refine (H_put0 (ka_55 L _) rfl at_49_247).trans ?_
    refine (S_iconst at_49_250).trans ?_
    exact (S_iretz rfl at_49_251).trans (if_pos (by decide))
theorem T49_0_71 {C : Nat → List j_V → j_H → Option j_Z} {L : Nat} {m : j_M0} {x1 : Int} {x2 : Int} : j_fin C 49 0 [some (jR 71), some (jI x1), some (jI x2), none, none, none] [] (hH L m) = j_fin C 49 2 [some (jR 71), some (jI x1), some (jI x2), some (jI 0), none, none] [] (hH L m) := by
  refine (S_iconst at_49_0).trans ?_
  refine (S_istore_n (l1 := [some (jR 71), some (jI x1), some (jI x2), some (jI 0), none, none]) rfl at_49_1).trans ?_
  rfl
theorem T49_2_71 {C : Nat → List j_V → j_H → Option j_Z} {L : Nat} {m : j_M0} {x1 : Int} {x2 : Int} {x3 : Int} : j_fin C 49 2 [some (jR 71), some (jI x1), some (jI x2), some (jI x3), none, none] [] (hH L m) = if x3 < (m 71 0) then (C 50 [jR 71, jI x3, jI x1, jI x2] (hH L m)).bind fun z => j_fin C 49 17 [some (jR 71), some (jI x1), some (jI x2), some (jI x3), none, none] (z.1.toList ++ []) z.2 else j_fin C 49 30 [some (jR 71), some (jI x1), some (jI x2), some (jI 0), none, none] [] (hH L m) := by
  refine (S_iload_n rfl at_49_2).trans ?_
  refine (S_aload_n rfl at_49_3).trans ?_
  refine (H_get0 (ka_71 L _) rfl at_49_4).trans ?_
  refine (S_icmp_ge at_49_7).trans ?_
  refine ite_congr rfl (fun _ => ?_) (fun _ => ?_)
  · refine (S_aload_n rfl at_49_10).trans ?_
    refine (S_iload_n rfl at_49_11).trans ?_
    refine (S_iload_n rfl at_49_12).trans ?_
    refine (S_iload_n rfl at_49_13).trans ?_
    refine (S_invv (b := 3) kn_50 rfl (ka_71 L _) (Nat.le_of_ble_eq_true rfl) at_49_14).trans ?_
    rfl
  · refine (S_iconst at_49_28).trans ?_
    refine (S_istore_n (l1 := [some (jR 71), some (jI x1), some (jI x2), some (jI 0), none, none]) rfl at_49_29).trans ?_
    rfl
theorem T49_17_71 {C : Nat → List j_V → j_H → Option j_Z} {L : Nat} {m : j_M0} {x1 : Int} {x2 : Int} {x3 : Int} {s0 : Int} : j_fin C 49 17 [some (jR 71), some (jI x1), some (jI x2), some (jI x3), none, none] [jI s0] (hH L m) = if s0 = 0 then some (some (jI 0), hH L m) else j_fin C 49 2 [some (jR 71), some (jI x1), some (jI x2), some (jI (w32 (x3 + 1))), none, none] [] (hH L m) := by
  refine (S_if_ne at_49_17).trans ?_
  refine ite_congr rfl (fun _ => ?_) (fun _ => ?_)
  · refine (S_iconst at_49_20).trans ?_
    exact (S_iretz rfl at_49_21).trans (if_pos (by decide))
  · refine (S_iinc (l1 := [some (jR 71), some (jI x1), some (jI x2), some (jI (w32 (x3 + 1))), none, none]) rfl rfl at_49_22).trans ?_
    refine (S_goto at_49_25).trans ?_
    rfl
theorem T49_30_71 {C : Nat → List j_V → j_H → Option j_Z} {L : Nat} {m : j_M0} {x1 : Int} {x2 : Int} {x3 : Int} : j_fin C 49 30 [some (jR 71), some (jI x1), some (jI x2), some (jI x3), none, none] [] (hH L m) = if x3 < (m 71 1) then if x3 = x2 then if 0 ≤ x2 ∧ x2 < 5 then j_fin C 49 85 [some (jR 71), some (jI x1), some (jI x2), some (jI x3), none, none] [jL (m 76 x2.toNat), jI x3, jR 79] (hH L m) else none else if 0 ≤ x3 ∧ x3 < 5 then if 0 ≤ x2 ∧ x2 < 5 then if 0 ≤ (w32 ((w32 (x1 * 5)) + x3)) ∧ (w32 ((w32 (x1 * 5)) + x3)) < 100 then (C 51 [jR 71, jL (m 76 x3.toNat), jL (m 76 x2.toNat), jL (m 74 (w32 ((w32 (x1 * 5)) + x3)).toNat), jI x1, jI x2] (hH L m)).bind fun z => j_fin C 49 85 [some (jR 71), some (jI x1), some (jI x2), some (jI x3), none, none] (z.1.toList ++ [jI x3, jR 79]) z.2 else none else none else none else if 0 ≤ x2 ∧ x2 < 5 then if 0 ≤ x1 ∧ x1 < 20 then (C 51 [jR 71, jL (m 71 3), jL (w64 (-(m 76 x2.toNat))), jL (m 75 x1.toNat), jI x1, jI x2] (hH L m)).bind fun z => j_fin C 49 129 [some (jR 71), some (jI x1), some (jI x2), some (jI x3), none, none] (z.1.toList ++ []) z.2 else none else none := by
  refine (S_iload_n rfl at_49_30).trans ?_
  refine (S_aload_n rfl at_49_31).trans ?_
  refine (H_get0 (ka_71 L _) rfl at_49_32).trans ?_
  refine (S_icmp_ge at_49_35).trans ?_
  refine ite_congr rfl (fun _ => ?_) (fun _ => ?_)
  · refine (S_aload_n rfl at_49_38).trans ?_
    refine (S_getR (ka_71 L _) rfl (f_71_12 L _) at_49_39).trans ?_
    refine (S_iload_n rfl at_49_42).trans ?_
    refine (S_iload_n rfl at_49_43).trans ?_
    refine (S_iload_n rfl at_49_44).trans ?_
    refine (S_icmp_ne at_49_45).trans ?_
    refine ite_congr rfl (fun _ => ?_) (fun _ => ?_)
    · refine (S_aload_n rfl at_49_48).trans ?_
      refine (S_getR (ka_71 L _) rfl (f_71_9 L _) at_49_49).trans ?_
      refine (S_iload_n rfl at_49_52).trans ?_
      refine (H_laload (ka_76 L _) at_49_53).trans ?_
      refine ite_congr rfl (fun hi => ?_) (fun _ => rfl)
      refine (S_goto at_49_54).trans ?_
      rfl
    · refine (S_aload_n rfl at_49_57).trans ?_
      refine (S_aload_n rfl at_49_58).trans ?_
      refine (S_getR (ka_71 L _) rfl (f_71_9 L _) at_49_59).trans ?_
      refine (S_iload_n rfl at_49_62).trans ?_
      refine (H_laload (ka_76 L _) at_49_63).trans ?_
      refine ite_congr rfl (fun hi => ?_) (fun _ => rfl)
      refine (S_aload_n rfl at_49_64).trans ?_
      refine (S_getR (ka_71 L _) rfl (f_71_9 L _) at_49_65).trans ?_
      refine (S_iload_n rfl at_49_68).trans ?_
      refine (H_laload (ka_76 L _) at_49_69).trans ?_
      refine ite_congr rfl (fun hi => ?_) (fun _ => rfl)
      refine (S_aload_n rfl at_49_70).trans ?_
      refine (S_getR (ka_71 L _) rfl (f_71_7 L _) at_49_71).trans ?_
      refine (S_iload_n rfl at_49_74).trans ?_
      refine (S_iconst at_49_75).trans ?_
      refine (S_imul at_49_76).trans ?_
      refine (S_iload_n rfl at_49_77).trans ?_
      refine (S_iadd at_49_78).trans ?_
      refine (H_laload (ka_74 L _) at_49_79).trans ?_
      refine ite_congr rfl (fun hi => ?_) (fun _ => rfl)
      refine (S_iload_n rfl at_49_80).trans ?_
      refine (S_iload_n rfl at_49_81).trans ?_
      refine (S_invv (b := 5) kn_51 rfl (ka_71 L _) (Nat.le_of_ble_eq_true rfl) at_49_82).trans ?_
      rfl
  · refine (S_aload_n rfl at_49_106).trans ?_
    refine (S_aload_n rfl at_49_107).trans ?_
    refine (H_get1 (ka_71 L _) rfl at_49_108).trans ?_
    refine (S_aload_n rfl at_49_111).trans ?_
    refine (S_getR (ka_71 L _) rfl (f_71_9 L _) at_49_112).trans ?_
    refine (S_iload_n rfl at_49_115).trans ?_
    refine (H_laload (ka_76 L _) at_49_116).trans ?_
    refine ite_congr rfl (fun hi => ?_) (fun _ => rfl)
    refine (S_lneg at_49_117).trans ?_
    refine (S_aload_n rfl at_49_118).trans ?_
    refine (S_getR (ka_71 L _) rfl (f_71_8 L _) at_49_119).trans ?_
    refine (S_iload_n rfl at_49_122).trans ?_
    refine (H_laload (ka_75 L _) at_49_123).trans ?_
    refine ite_congr rfl (fun hi => ?_) (fun _ => rfl)
    refine (S_iload_n rfl at_49_124).trans ?_
    refine (S_iload_n rfl at_49_125).trans ?_
    refine (S_invv (b := 5) kn_51 rfl (ka_71 L _) (Nat.le_of_ble_eq_true rfl) at_49_126).trans ?_
    rfl
theorem T49_85_71 {C : Nat → List j_V → j_H → Option j_Z} {L : Nat} {m : j_M0} {x1 : Int} {x2 : Int} {x3 : Int} {s1 : Int} {t2 : Int} : j_fin C 49 85 [some (jR 71), some (jI x1), some (jI x2), some (jI x3), none, none] [jL t2, jI s1, jR 79] (hH L m) = if 0 ≤ s1 ∧ s1 < 5 then if 0 ≤ x3 ∧ x3 < 5 then (C 144 [jL ((j_up m 79 s1.toNat t2) 79 x3.toNat)] (hH L (j_up m 79 s1.toNat t2))).bind fun z => j_fin C 49 95 [some (jR 71), some (jI x1), some (jI x2), some (jI x3), none, none] (z.1.toList ++ []) z.2 else none else none := by
  refine (H_lastore (by omega) (ka_79 L _) at_49_85).trans ?_
  refine ite_congr rfl (fun hi => ?_) (fun _ => rfl)
  refine (S_aload_n rfl at_49_86).trans ?_
  refine (S_getR (ka_71 L _) rfl (f_71_12 L _) at_49_87).trans ?_
  refine (S_iload_n rfl at_49_90).trans ?_
  refine (H_laload (ka_79 L _) at_49_91).trans ?_
  refine ite_congr rfl (fun hi => ?_) (fun _ => rfl)
  refine (S_invs (by decide) (Nat.le_of_ble_eq_true rfl) (Nat.le_of_ble_eq_true rfl) at_49_92).trans ?_
  rfl
theorem T49_95_71 {C : Nat → List j_V → j_H → Option j_Z} {L : Nat} {m : j_M0} {x1 : Int} {x2 : Int} {x3 : Int} {s0 : Int} : j_fin C 49 95 [some (jR 71), some (jI x1), some (jI x2), some (jI x3), none, none] [jI s0] (hH L m) = if s0 = 0 then some (some (jI 0), hH L m) else j_fin C 49 30 [some (jR 71), some (jI x1), some (jI x2), some (jI (w32 (x3 + 1))), none, none] [] (hH L m) := by
  refine (S_if_ne at_49_95).trans ?_
  refine ite_congr rfl (fun _ => ?_) (fun _ => ?_)
  · refine (S_iconst at_49_98).trans ?_
    exact (S_iretz rfl at_49_99).trans (if_pos (by decide))
  · refine (S_iinc (l1 := [some (jR 71), some (jI x1), some (jI x2), some (jI (w32 (x3 + 1))), none, none]) rfl rfl at_49_100).trans ?_
    refine (S_goto at_49_103).trans ?_
    rfl
theorem T49_129_71 {C : Nat → List j_V → j_H → Option j_Z} {L : Nat} {m : j_M0} {x1 : Int} {x2 : Int} {x3 : Int} {t0 : Int} : j_fin C 49 129 [some (jR 71), some (jI x1), some (jI x2), some (jI x3), none, none] [jL t0] (hH L m) = (C 144 [jL t0] (hH L m)).bind fun z => j_fin C 49 134 [some (jR 71), some (jI x1), some (jI x2), some (jL t0), none, none] (z.1.toList ++ []) z.2 := by
  refine (S_lstore_n (l1 := [some (jR 71), some (jI x1), some (jI x2), some (jL t0), none, none]) rfl at_49_129).trans ?_
  refine (S_lload_n rfl at_49_130).trans ?_
  refine (S_invs (by decide) (Nat.le_of_ble_eq_true rfl) (Nat.le_of_ble_eq_true rfl) at_49_131).trans ?_
  rfl
theorem T49_134_71 {C : Nat → List j_V → j_H → Option j_Z} {L : Nat} {m : j_M0} {x1 : Int} {x2 : Int} {y3 : Int} {s0 : Int} : j_fin C 49 134 [some (jR 71), some (jI x1), some (jI x2), some (jL y3), none, none] [jI s0] (hH L m) = if s0 = 0 then some (some (jI 0), hH L m) else if 0 ≤ (w32 ((w32 (x1 * 5)) + x2)) ∧ (w32 ((w32 (x1 * 5)) + x2)) < 100 then if 0 ≤ (w32 (((j_up (j_up m 71 3 y3) 71 4 (w64 (-((j_up m 71 3 y3) 74 (w32 ((w32 (x1 * 5)) + x2)).toNat)))) 71 0) * 5)) ∧ 0 ≤ (0 : Int) ∧ 0 ≤ (0 : Int) ∧ (0 : Int) + (w32 (((j_up (j_up m 71 3 y3) 71 4 (w64 (-((j_up m 71 3 y3) 74 (w32 ((w32 (x1 * 5)) + x2)).toNat)))) 71 0) * 5)) ≤ 100 ∧ (0 : Int) + (w32 (((j_up (j_up m 71 3 y3) 71 4 (w64 (-((j_up m 71 3 y3) 74 (w32 ((w32 (x1 * 5)) + x2)).toNat)))) 71 0) * 5)) ≤ 100 then if 0 ≤ ((j_cpy (j_up (j_up m 71 3 y3) 71 4 (w64 (-((j_up m 71 3 y3) 74 (w32 ((w32 (x1 * 5)) + x2)).toNat)))) 77 0 74 0 (w32 (((j_up (j_up m 71 3 y3) 71 4 (w64 (-((j_up m 71 3 y3) 74 (w32 ((w32 (x1 * 5)) + x2)).toNat)))) 71 0) * 5)).toNat) 71 0) ∧ 0 ≤ (0 : Int) ∧ 0 ≤ (0 : Int) ∧ (0 : Int) + ((j_cpy (j_up (j_up m 71 3 y3) 71 4 (w64 (-((j_up m 71 3 y3) 74 (w32 ((w32 (x1 * 5)) + x2)).toNat)))) 77 0 74 0 (w32 (((j_up (j_up m 71 3 y3) 71 4 (w64 (-((j_up m 71 3 y3) 74 (w32 ((w32 (x1 * 5)) + x2)).toNat)))) 71 0) * 5)).toNat) 71 0) ≤ 20 ∧ (0 : Int) + ((j_cpy (j_up (j_up m 71 3 y3) 71 4 (w64 (-((j_up m 71 3 y3) 74 (w32 ((w32 (x1 * 5)) + x2)).toNat)))) 77 0 74 0 (w32 (((j_up (j_up m 71 3 y3) 71 4 (w64 (-((j_up m 71 3 y3) 74 (w32 ((w32 (x1 * 5)) + x2)).toNat)))) 71 0) * 5)).toNat) 71 0) ≤ 20 then if 0 ≤ ((j_cpy (j_cpy (j_up (j_up m 71 3 y3) 71 4 (w64 (-((j_up m 71 3 y3) 74 (w32 ((w32 (x1 * 5)) + x2)).toNat)))) 77 0 74 0 (w32 (((j_up (j_up m 71 3 y3) 71 4 (w64 (-((j_up m 71 3 y3) 74 (w32 ((w32 (x1 * 5)) + x2)).toNat)))) 71 0) * 5)).toNat) 78 0 75 0 ((j_cpy (j_up (j_up m 71 3 y3) 71 4 (w64 (-((j_up m 71 3 y3) 74 (w32 ((w32 (x1 * 5)) + x2)).toNat)))) 77 0 74 0 (w32 (((j_up (j_up m 71 3 y3) 71 4 (w64 (-((j_up m 71 3 y3) 74 (w32 ((w32 (x1 * 5)) + x2)).toNat)))) 71 0) * 5)).toNat) 71 0).toNat) 71 1) ∧ 0 ≤ (0 : Int) ∧ 0 ≤ (0 : Int) ∧ (0 : Int) + ((j_cpy (j_cpy (j_up (j_up m 71 3 y3) 71 4 (w64 (-((j_up m 71 3 y3) 74 (w32 ((w32 (x1 * 5)) + x2)).toNat)))) 77 0 74 0 (w32 (((j_up (j_up m 71 3 y3) 71 4 (w64 (-((j_up m 71 3 y3) 74 (w32 ((w32 (x1 * 5)) + x2)).toNat)))) 71 0) * 5)).toNat) 78 0 75 0 ((j_cpy (j_up (j_up m 71 3 y3) 71 4 (w64 (-((j_up m 71 3 y3) 74 (w32 ((w32 (x1 * 5)) + x2)).toNat)))) 77 0 74 0 (w32 (((j_up (j_up m 71 3 y3) 71 4 (w64 (-((j_up m 71 3 y3) 74 (w32 ((w32 (x1 * 5)) + x2)).toNat)))) 71 0) * 5)).toNat) 71 0).toNat) 71 1) ≤ 5 ∧ (0 : Int) + ((j_cpy (j_cpy (j_up (j_up m 71 3 y3) 71 4 (w64 (-((j_up m 71 3 y3) 74 (w32 ((w32 (x1 * 5)) + x2)).toNat)))) 77 0 74 0 (w32 (((j_up (j_up m 71 3 y3) 71 4 (w64 (-((j_up m 71 3 y3) 74 (w32 ((w32 (x1 * 5)) + x2)).toNat)))) 71 0) * 5)).toNat) 78 0 75 0 ((j_cpy (j_up (j_up m 71 3 y3) 71 4 (w64 (-((j_up m 71 3 y3) 74 (w32 ((w32 (x1 * 5)) + x2)).toNat)))) 77 0 74 0 (w32 (((j_up (j_up m 71 3 y3) 71 4 (w64 (-((j_up m 71 3 y3) 74 (w32 ((w32 (x1 * 5)) + x2)).toNat)))) 71 0) * 5)).toNat) 71 0).toNat) 71 1) ≤ 5 then if 0 ≤ x1 ∧ x1 < 20 then if 0 ≤ x2 ∧ x2 < 5 then if 0 ≤ x1 ∧ x1 < 20 then if 0 ≤ x2 ∧ x2 < 5 then some (some (jI 1), hH L (j_up (j_up (j_up (j_cpy (j_cpy (j_cpy (j_up (j_up m 71 3 y3) 71 4 (w64 (-((j_up m 71 3 y3) 74 (w32 ((w32 (x1 * 5)) + x2)).toNat)))) 77 0 74 0 (w32 (((j_up (j_up m 71 3 y3) 71 4 (w64 (-((j_up m 71 3 y3) 74 (w32 ((w32 (x1 * 5)) + x2)).toNat)))) 71 0) * 5)).toNat) 78 0 75 0 ((j_cpy (j_up (j_up m 71 3 y3) 71 4 (w64 (-((j_up m 71 3 y3) 74 (w32 ((w32 (x1 * 5)) + x2)).toNat)))) 77 0 74 0 (w32 (((j_up (j_up m 71 3 y3) 71 4 (w64 (-((j_up m 71 3 y3) 74 (w32 ((w32 (x1 * 5)) + x2)).toNat)))) 71 0) * 5)).toNat) 71 0).toNat) 79 0 76 0 ((j_cpy (j_cpy (j_up (j_up m 71 3 y3) 71 4 (w64 (-((j_up m 71 3 y3) 74 (w32 ((w32 (x1 * 5)) + x2)).toNat)))) 77 0 74 0 (w32 (((j_up (j_up m 71 3 y3) 71 4 (w64 (-((j_up m 71 3 y3) 74 (w32 ((w32 (x1 * 5)) + x2)).toNat)))) 71 0) * 5)).toNat) 78 0 75 0 ((j_cpy (j_up (j_up m 71 3 y3) 71 4 (w64 (-((j_up m 71 3 y3) 74 (w32 ((w32 (x1 * 5)) + x2)).toNat)))) 77 0 74 0 (w32 (((j_up (j_up m 71 3 y3) 71 4 (w64 (-((j_up m 71 3 y3) 74 (w32 ((w32 (x1 * 5)) + x2)).toNat)))) 71 0) * 5)).toNat) 71 0).toNat) 71 1).toNat) 72 x1.toNat ((j_cpy (j_cpy (j_cpy (j_up (j_up m 71 3 y3) 71 4 (w64 (-((j_up m 71 3 y3) 74 (w32 ((w32 (x1 * 5)) + x2)).toNat)))) 77 0 74 0 (w32 (((j_up (j_up m 71 3 y3) 71 4 (w64 (-((j_up m 71 3 y3) 74 (w32 ((w32 (x1 * 5)) + x2)).toNat)))) 71 0) * 5)).toNat) 78 0 75 0 ((j_cpy (j_up (j_up m 71 3 y3) 71 4 (w64 (-((j_up m 71 3 y3) 74 (w32 ((w32 (x1 * 5)) + x2)).toNat)))) 77 0 74 0 (w32 (((j_up (j_up m 71 3 y3) 71 4 (w64 (-((j_up m 71 3 y3) 74 (w32 ((w32 (x1 * 5)) + x2)).toNat)))) 71 0) * 5)).toNat) 71 0).toNat) 79 0 76 0 ((j_cpy (j_cpy (j_up (j_up m 71 3 y3) 71 4 (w64 (-((j_up m 71 3 y3) 74 (w32 ((w32 (x1 * 5)) + x2)).toNat)))) 77 0 74 0 (w32 (((j_up (j_up m 71 3 y3) 71 4 (w64 (-((j_up m 71 3 y3) 74 (w32 ((w32 (x1 * 5)) + x2)).toNat)))) 71 0) * 5)).toNat) 78 0 75 0 ((j_cpy (j_up (j_up m 71 3 y3) 71 4 (w64 (-((j_up m 71 3 y3) 74 (w32 ((w32 (x1 * 5)) + x2)).toNat)))) 77 0 74 0 (w32 (((j_up (j_up m 71 3 y3) 71 4 (w64 (-((j_up m 71 3 y3) 74 (w32 ((w32 (x1 * 5)) + x2)).toNat)))) 71 0) * 5)).toNat) 71 0).toNat) 71 1).toNat) 73 x2.toNat)) 73 x2.toNat ((j_cpy (j_cpy (j_cpy (j_up (j_up m 71 3 y3) 71 4 (w64 (-((j_up m 71 3 y3) 74 (w32 ((w32 (x1 * 5)) + x2)).toNat)))) 77 0 74 0 (w32 (((j_up (j_up m 71 3 y3) 71 4 (w64 (-((j_up m 71 3 y3) 74 (w32 ((w32 (x1 * 5)) + x2)).toNat)))) 71 0) * 5)).toNat) 78 0 75 0 ((j_cpy (j_up (j_up m 71 3 y3) 71 4 (w64 (-((j_up m 71 3 y3) 74 (w32 ((w32 (x1 * 5)) + x2)).toNat)))) 77 0 74 0 (w32 (((j_up (j_up m 71 3 y3) 71 4 (w64 (-((j_up m 71 3 y3) 74 (w32 ((w32 (x1 * 5)) + x2)).toNat)))) 71 0) * 5)).toNat) 71 0).toNat) 79 0 76 0 ((j_cpy (j_cpy (j_up (j_up m 71 3 y3) 71 4 (w64 (-((j_up m 71 3 y3) 74 (w32 ((w32 (x1 * 5)) + x2)).toNat)))) 77 0 74 0 (w32 (((j_up (j_up m 71 3 y3) 71 4 (w64 (-((j_up m 71 3 y3) 74 (w32 ((w32 (x1 * 5)) + x2)).toNat)))) 71 0) * 5)).toNat) 78 0 75 0 ((j_cpy (j_up (j_up m 71 3 y3) 71 4 (w64 (-((j_up m 71 3 y3) 74 (w32 ((w32 (x1 * 5)) + x2)).toNat)))) 77 0 74 0 (w32 (((j_up (j_up m 71 3 y3) 71 4 (w64 (-((j_up m 71 3 y3) 74 (w32 ((w32 (x1 * 5)) + x2)).toNat)))) 71 0) * 5)).toNat) 71 0).toNat) 71 1).toNat) 72 x1.toNat)) 71 2 (w32 (((j_up (j_up (j_cpy (j_cpy (j_cpy (j_up (j_up m 71 3 y3) 71 4 (w64 (-((j_up m 71 3 y3) 74 (w32 ((w32 (x1 * 5)) + x2)).toNat)))) 77 0 74 0 (w32 (((j_up (j_up m 71 3 y3) 71 4 (w64 (-((j_up m 71 3 y3) 74 (w32 ((w32 (x1 * 5)) + x2)).toNat)))) 71 0) * 5)).toNat) 78 0 75 0 ((j_cpy (j_up (j_up m 71 3 y3) 71 4 (w64 (-((j_up m 71 3 y3) 74 (w32 ((w32 (x1 * 5)) + x2)).toNat)))) 77 0 74 0 (w32 (((j_up (j_up m 71 3 y3) 71 4 (w64 (-((j_up m 71 3 y3) 74 (w32 ((w32 (x1 * 5)) + x2)).toNat)))) 71 0) * 5)).toNat) 71 0).toNat) 79 0 76 0 ((j_cpy (j_cpy (j_up (j_up m 71 3 y3) 71 4 (w64 (-((j_up m 71 3 y3) 74 (w32 ((w32 (x1 * 5)) + x2)).toNat)))) 77 0 74 0 (w32 (((j_up (j_up m 71 3 y3) 71 4 (w64 (-((j_up m 71 3 y3) 74 (w32 ((w32 (x1 * 5)) + x2)).toNat)))) 71 0) * 5)).toNat) 78 0 75 0 ((j_cpy (j_up (j_up m 71 3 y3) 71 4 (w64 (-((j_up m 71 3 y3) 74 (w32 ((w32 (x1 * 5)) + x2)).toNat)))) 77 0 74 0 (w32 (((j_up (j_up m 71 3 y3) 71 4 (w64 (-((j_up m 71 3 y3) 74 (w32 ((w32 (x1 * 5)) + x2)).toNat)))) 71 0) * 5)).toNat) 71 0).toNat) 71 1).toNat) 72 x1.toNat ((j_cpy (j_cpy (j_cpy (j_up (j_up m 71 3 y3) 71 4 (w64 (-((j_up m 71 3 y3) 74 (w32 ((w32 (x1 * 5)) + x2)).toNat)))) 77 0 74 0 (w32 (((j_up (j_up m 71 3 y3) 71 4 (w64 (-((j_up m 71 3 y3) 74 (w32 ((w32 (x1 * 5)) + x2)).toNat)))) 71 0) * 5)).toNat) 78 0 75 0 ((j_cpy (j_up (j_up m 71 3 y3) 71 4 (w64 (-((j_up m 71 3 y3) 74 (w32 ((w32 (x1 * 5)) + x2)).toNat)))) 77 0 74 0 (w32 (((j_up (j_up m 71 3 y3) 71 4 (w64 (-((j_up m 71 3 y3) 74 (w32 ((w32 (x1 * 5)) + x2)).toNat)))) 71 0) * 5)).toNat) 71 0).toNat) 79 0 76 0 ((j_cpy (j_cpy (j_up (j_up m 71 3 y3) 71 4 (w64 (-((j_up m 71 3 y3) 74 (w32 ((w32 (x1 * 5)) + x2)).toNat)))) 77 0 74 0 (w32 (((j_up (j_up m 71 3 y3) 71 4 (w64 (-((j_up m 71 3 y3) 74 (w32 ((w32 (x1 * 5)) + x2)).toNat)))) 71 0) * 5)).toNat) 78 0 75 0 ((j_cpy (j_up (j_up m 71 3 y3) 71 4 (w64 (-((j_up m 71 3 y3) 74 (w32 ((w32 (x1 * 5)) + x2)).toNat)))) 77 0 74 0 (w32 (((j_up (j_up m 71 3 y3) 71 4 (w64 (-((j_up m 71 3 y3) 74 (w32 ((w32 (x1 * 5)) + x2)).toNat)))) 71 0) * 5)).toNat) 71 0).toNat) 71 1).toNat) 73 x2.toNat)) 73 x2.toNat ((j_cpy (j_cpy (j_cpy (j_up (j_up m 71 3 y3) 71 4 (w64 (-((j_up m 71 3 y3) 74 (w32 ((w32 (x1 * 5)) + x2)).toNat)))) 77 0 74 0 (w32 (((j_up (j_up m 71 3 y3) 71 4 (w64 (-((j_up m 71 3 y3) 74 (w32 ((w32 (x1 * 5)) + x2)).toNat)))) 71 0) * 5)).toNat) 78 0 75 0 ((j_cpy (j_up (j_up m 71 3 y3) 71 4 (w64 (-((j_up m 71 3 y3) 74 (w32 ((w32 (x1 * 5)) + x2)).toNat)))) 77 0 74 0 (w32 (((j_up (j_up m 71 3 y3) 71 4 (w64 (-((j_up m 71 3 y3) 74 (w32 ((w32 (x1 * 5)) + x2)).toNat)))) 71 0) * 5)).toNat) 71 0).toNat) 79 0 76 0 ((j_cpy (j_cpy (j_up (j_up m 71 3 y3) 71 4 (w64 (-((j_up m 71 3 y3) 74 (w32 ((w32 (x1 * 5)) + x2)).toNat)))) 77 0 74 0 (w32 (((j_up (j_up m 71 3 y3) 71 4 (w64 (-((j_up m 71 3 y3) 74 (w32 ((w32 (x1 * 5)) + x2)).toNat)))) 71 0) * 5)).toNat) 78 0 75 0 ((j_cpy (j_up (j_up m 71 3 y3) 71 4 (w64 (-((j_up m 71 3 y3) 74 (w32 ((w32 (x1 * 5)) + x2)).toNat)))) 77 0 74 0 (w32 (((j_up (j_up m 71 3 y3) 71 4 (w64 (-((j_up m 71 3 y3) 74 (w32 ((w32 (x1 * 5)) + x2)).toNat)))) 71 0) * 5)).toNat) 71 0).toNat) 71 1).toNat) 72 x1.toNat)) 71 2) + 1)))) else none else none else none else none else none else none else none else none := by
  refine (S_if_ne at_49_134).trans ?_
  refine ite_congr rfl (fun _ => ?_) (fun _ => ?_)
  · refine (S_iconst at_49_137).trans ?_
    exact (S_iretz rfl at_49_138).trans (if_pos (by decide))
  · refine (S_aload_n rfl at_49_139).trans ?_
    refine (S_lload_n rfl at_49_140).trans ?_
    refine (H_put1 (ka_71 L _) rfl at_49_141).trans ?_
    refine (S_aload_n rfl at_49_144).trans ?_
    refine (S_aload_n rfl at_49_145).trans ?_
    refine (S_getR (ka_71 L _) rfl (f_71_7 L _) at_49_146).trans ?_
    refine (S_iload_n rfl at_49_149).trans ?_
    refine (S_iconst at_49_150).trans ?_
    refine (S_imul at_49_151).trans ?_
    refine (S_iload_n rfl at_49_152).trans ?_
    refine (S_iadd at_49_153).trans ?_
    refine (H_laload (ka_74 L _) at_49_154).trans ?_
    refine ite_congr rfl (fun hi => ?_) (fun _ => rfl)
    refine (S_lneg at_49_155).trans ?_
    refine (H_put1 (ka_71 L _) rfl at_49_156).trans ?_
    refine (S_aload_n rfl at_49_159).trans ?_
    refine (S_getR (ka_71 L _) rfl (f_71_10 L _) at_49_160).trans ?_
    refine (S_iconst at_49_163).trans ?_
    refine (S_aload_n rfl at_49_164).trans ?_
    refine (S_getR (ka_71 L _) rfl (f_71_7 L _) at_49_165).trans ?_
    refine (S_iconst at_49_168).trans ?_
    refine (S_aload_n rfl at_49_169).trans ?_
    refine (H_get0 (ka_71 L _) rfl at_49_170).trans ?_
    refine (S_iconst at_49_173).trans ?_
    refine (S_imul at_49_174).trans ?_
    refine (H_cpy rfl (by decide) (ka_77 L _) (ka_74 L _) (by omega) (Nat.le_of_ble_eq_true rfl) at_49_175).trans ?_
    refine ite_congr rfl (fun hi => ?_) (fun _ => rfl)
    refine (S_aload_n rfl at_49_178).trans ?_
    refine (S_getR (ka_71 L _) rfl (f_71_11 L _) at_49_179).trans ?_
    refine (S_iconst at_49_182).trans ?_
    refine (S_aload_n rfl at_49_183).trans ?_
    refine (S_getR (ka_71 L _) rfl (f_71_8 L _) at_49_184).trans ?_
    refine (S_iconst at_49_187).trans ?_
    refine (S_aload_n rfl at_49_188).trans ?_
    refine (H_get0 (ka_71 L _) rfl at_49_189).trans ?_
    refine (H_cpy rfl (by decide) (ka_78 L _) (ka_75 L _) (by omega) (Nat.le_of_ble_eq_true rfl) at_49_192).trans ?_
    refine ite_congr rfl (fun hi => ?_) (fun _ => rfl)
    refine (S_aload_n rfl at_49_195).trans ?_
    refine (S_getR (ka_71 L _) rfl (f_71_12 L _) at_49_196).trans ?_
    refine (S_iconst at_49_199).trans ?_
    refine (S_aload_n rfl at_49_200).trans ?_
    refine (S_getR (ka_71 L _) rfl (f_71_9 L _) at_49_201).trans ?_
    refine (S_iconst at_49_204).trans ?_
    refine (S_aload_n rfl at_49_205).trans ?_
    refine (H_get0 (ka_71 L _) rfl at_49_206).trans ?_
    refine (H_cpy rfl (by decide) (ka_79 L _) (ka_76 L _) (by omega) (Nat.le_of_ble_eq_true rfl) at_49_209).trans ?_
    refine ite_congr rfl (fun hi => ?_) (fun _ => rfl)
    refine (S_aload_n rfl at_49_212).trans ?_
    refine (S_getR (ka_71 L _) rfl (f_71_5 L _) at_49_213).trans ?_
    refine (S_iload_n rfl at_49_216).trans ?_
    refine (H_iaload (ka_72 L _) at_49_217).trans ?_
    refine ite_congr rfl (fun hi => ?_) (fun _ => rfl)
    refine (S_istore (l1 := [some (jR 71), some (jI x1), some (jI x2), some (jL y3), none, some (jI ((j_cpy (j_cpy (j_cpy (j_up (j_up m 71 3 y3) 71 4 (w64 (-((j_up m 71 3 y3) 74 (w32 ((w32 (x1 * 5)) + x2)).toNat)))) 77 0 74 0 (w32 (((j_up (j_up m 71 3 y3) 71 4 (w64 (-((j_up m 71 3 y3) 74 (w32 ((w32 (x1 * 5)) + x2)).toNat)))) 71 0) * 5)).toNat) 78 0 75 0 ((j_cpy (j_up (j_up m 71 3 y3) 71 4 (w64 (-((j_up m 71 3 y3) 74 (w32 ((w32 (x1 * 5)) + x2)).toNat)))) 77 0 74 0 (w32 (((j_up (j_up m 71 3 y3) 71 4 (w64 (-((j_up m 71 3 y3) 74 (w32 ((w32 (x1 * 5)) + x2)).toNat)))) 71 0) * 5)).toNat) 71 0).toNat) 79 0 76 0 ((j_cpy (j_cpy (j_up (j_up m 71 3 y3) 71 4 (w64 (-((j_up m 71 3 y3) 74 (w32 ((w32 (x1 * 5)) + x2)).toNat)))) 77 0 74 0 (w32 (((j_up (j_up m 71 3 y3) 71 4 (w64 (-((j_up m 71 3 y3) 74 (w32 ((w32 (x1 * 5)) + x2)).toNat)))) 71 0) * 5)).toNat) 78 0 75 0 ((j_cpy (j_up (j_up m 71 3 y3) 71 4 (w64 (-((j_up m 71 3 y3) 74 (w32 ((w32 (x1 * 5)) + x2)).toNat)))) 77 0 74 0 (w32 (((j_up (j_up m 71 3 y3) 71 4 (w64 (-((j_up m 71 3 y3) 74 (w32 ((w32 (x1 * 5)) + x2)).toNat)))) 71 0) * 5)).toNat) 71 0).toNat) 71 1).toNat) 72 x1.toNat))]) rfl at_49_218).trans ?_
    refine (S_aload_n rfl at_49_220).trans ?_
    refine (S_getR (ka_71 L _) rfl (f_71_5 L _) at_49_221).trans ?_
    refine (S_iload_n rfl at_49_224).trans ?_
    refine (S_aload_n rfl at_49_225).trans ?_
    refine (S_getR (ka_71 L _) rfl (f_71_6 L _) at_49_226).trans ?_
    refine (S_iload_n rfl at_49_229).trans ?_
    refine (H_iaload (ka_73 L _) at_49_230).trans ?_
    refine ite_congr rfl (fun hi => ?_) (fun _ => rfl)
    refine (H_iastore (by omega) (ka_72 L _) at_49_231).trans ?_
    refine ite_congr rfl (fun hi => ?_) (fun _ => rfl)
    refine (S_aload_n rfl at_49_232).trans ?_
    refine (S_getR (ka_71 L _) rfl (f_71_6 L _) at_49_233).trans ?_
    refine (S_iload_n rfl at_49_236).trans ?_
    refine (S_iload rfl at_49_237).trans ?_
    refine (H_iastore (by omega) (ka_73 L _) at_49_239).trans ?_
    refine ite_congr rfl (fun hi => ?_) (fun _ => rfl)
    refine (S_aload_n rfl at_49_240).trans ?_
    refine (S_dup rfl at_49_241).trans ?_
    refine (H_get0 (ka_71 L _) rfl at_49_242).trans ?_
    refine (S_iconst at_49_245).trans ?_
    refine (S_iadd at_49_246).trans ?_
    refine (H_put0 (ka_71 L _) rfl at_49_247).trans ?_
    refine (S_iconst at_49_250).trans ?_
    exact (S_iretz rfl at_49_251).trans (if_pos (by decide))
theorem T50_0_41 {C : Nat → List j_V → j_H → Option j_Z} {L : Nat} {m : j_M0} {x1 : Int} {x2 : Int} {x3 : Int} : j_fin C 50 0 [some (jR 41), some (jI x1), some (jI x2), some (jI x3), none, none, none, none, none, none, none] [] (hH L m) = if 0 ≤ (w32 ((w32 (x1 * 5)) + x3)) ∧ (w32 ((w32 (x1 * 5)) + x3)) < 100 then j_fin C 50 15 [some (jR 41), some (jI x1), some (jI x2), some (jI x3), some (jL (m 44 (w32 ((w32 (x1 * 5)) + x3)).toNat)), none, some (jI 0), none, none, none, none] [] (hH L m) else none := by
  refine (S_aload_n rfl at_50_0).trans ?_
  refine (S_getR (ka_41 L _) rfl (f_41_7 L _) at_50_1).trans ?_
  refine (S_iload_n rfl at_50_4).trans ?_
  refine (S_iconst at_50_5).trans ?_
  refine (S_imul at_50_6).trans ?_
  refine (S_iload_n rfl at_50_7).trans ?_
  refine (S_iadd at_50_8).trans ?_
  refine (H_laload (ka_44 L _) at_50_9).trans ?_
  refine ite_congr rfl (fun hi => ?_) (fun _ => rfl)
  refine (S_lstore (l1 := [some (jR 41), some (jI x1), some (jI x2), some (jI x3), some (jL (m 44 (w32 ((w32 (x1 * 5)) + x3)).toNat)), none, none, none, none, none, none]) rfl at_50_10).trans ?_
  refine (S_iconst at_50_12).trans ?_
  refine (S_istore (l1 := [some (jR 41), some (jI x1), some (jI x2), some (jI x3), some (jL (m 44 (w32 ((w32 (x1 * 5)) + x3)).toNat)), none, some (jI 0), none, none, none, none]) rfl at_50_13).trans ?_
  rfl
theorem T50_15_41 {C : Nat → List j_V → j_H → Option j_Z} {L : Nat} {m : j_M0} {x1 : Int} {x2 : Int} {x3 : Int} {y4 : Int} {x6 : Int} {o7 : Option j_V} {o9 : Option j_V} : j_fin C 50 15 [some (jR 41), some (jI x1), some (jI x2), some (jI x3), some (jL y4), none, some (jI x6), o7, none, o9, none] [] (hH L m) = if x6 < (m 41 1) then if 0 ≤ (w32 ((w32 (x1 * 5)) + x6)) ∧ (w32 ((w32 (x1 * 5)) + x6)) < 100 then if x1 = x2 then if x6 = x3 then (C 144 [jL (w64 (-(m 41 4)))] (hH L m)).bind fun z => j_fin C 50 105 [some (jR 41), some (jI x1), some (jI x2), some (jI x3), some (jL y4), none, some (jI x6), some (jL (m 44 (w32 ((w32 (x1 * 5)) + x6)).toNat)), none, some (jL (w64 (-(m 41 4)))), none] (z.1.toList ++ []) z.2 else (C 144 [jL (w64 (-(m 44 (w32 ((w32 (x1 * 5)) + x6)).toNat)))] (hH L m)).bind fun z => j_fin C 50 105 [some (jR 41), some (jI x1), some (jI x2), some (jI x3), some (jL y4), none, some (jI x6), some (jL (m 44 (w32 ((w32 (x1 * 5)) + x6)).toNat)), none, some (jL (w64 (-(m 44 (w32 ((w32 (x1 * 5)) + x6)).toNat)))), none] (z.1.toList ++ []) z.2 else if x6 = x3 then (C 144 [jL (m 44 (w32 ((w32 (x1 * 5)) + x6)).toNat)] (hH L m)).bind fun z => j_fin C 50 105 [some (jR 41), some (jI x1), some (jI x2), some (jI x3), some (jL y4), none, some (jI x6), some (jL (m 44 (w32 ((w32 (x1 * 5)) + x6)).toNat)), none, some (jL (m 44 (w32 ((w32 (x1 * 5)) + x6)).toNat)), none] (z.1.toList ++ []) z.2 else if 0 ≤ (w32 ((w32 (x2 * 5)) + x6)) ∧ (w32 ((w32 (x2 * 5)) + x6)) < 100 then (C 51 [jR 41, jL (m 44 (w32 ((w32 (x1 * 5)) + x6)).toNat), jL y4, jL (m 44 (w32 ((w32 (x2 * 5)) + x6)).toNat), jI x2, jI x3] (hH L m)).bind fun z => j_fin C 50 98 [some (jR 41), some (jI x1), some (jI x2), some (jI x3), some (jL y4), none, some (jI x6), some (jL (m 44 (w32 ((w32 (x1 * 5)) + x6)).toNat)), none, o9, none] (z.1.toList ++ []) z.2 else none else none else if x1 = x2 then if 0 ≤ x2 ∧ x2 < 20 then j_fin C 50 169 [some (jR 41), some (jI x1), some (jI x2), some (jI x3), some (jL y4), none, some (jI x6), o7, none, o9, none] [jL (w64 (-(m 45 x2.toNat))), jI x1, jR 48] (hH L m) else none else if 0 ≤ x1 ∧ x1 < 20 then if 0 ≤ x2 ∧ x2 < 20 then (C 51 [jR 41, jL (m 45 x1.toNat), jL y4, jL (m 45 x2.toNat), jI x2, jI x3] (hH L m)).bind fun z => j_fin C 50 169 [some (jR 41), some (jI x1), some (jI x2), some (jI x3), some (jL y4), none, some (jI x6), o7, none, o9, none] (z.1.toList ++ [jI x1, jR 48]) z.2 else none else none := by
  refine (S_iload rfl at_50_15).trans ?_
  refine (S_aload_n rfl at_50_17).trans ?_
  refine (H_get0 (ka_41 L _) rfl at_50_18).trans ?_
  refine (S_icmp_ge at_50_21).trans ?_
  refine ite_congr rfl (fun _ => ?_) (fun _ => ?_)
  · refine (S_aload_n rfl at_50_24).trans ?_
    refine (S_getR (ka_41 L _) rfl (f_41_7 L _) at_50_25).trans ?_
    refine (S_iload_n rfl at_50_28).trans ?_
    refine (S_iconst at_50_29).trans ?_
    refine (S_imul at_50_30).trans ?_
    refine (S_iload rfl at_50_31).trans ?_
    refine (S_iadd at_50_33).trans ?_
    refine (H_laload (ka_44 L _) at_50_34).trans ?_
    refine ite_congr rfl (fun hi => ?_) (fun _ => rfl)
    refine (S_lstore (l1 := [some (jR 41), some (jI x1), some (jI x2), some (jI x3), some (jL y4), none, some (jI x6), some (jL (m 44 (w32 ((w32 (x1 * 5)) + x6)).toNat)), none, o9, none]) rfl at_50_35).trans ?_
    refine (S_iload_n rfl at_50_37).trans ?_
    refine (S_iload_n rfl at_50_38).trans ?_
    refine (S_icmp_ne at_50_39).trans ?_
    refine ite_congr rfl (fun _ => ?_) (fun _ => ?_)
    · refine (S_iload rfl at_50_42).trans ?_
      refine (S_iload_n rfl at_50_44).trans ?_
      refine (S_icmp_ne at_50_45).trans ?_
      refine ite_congr rfl (fun _ => ?_) (fun _ => ?_)
      · refine (S_aload_n rfl at_50_48).trans ?_
        refine (H_get1 (ka_41 L _) rfl at_50_49).trans ?_
        refine (S_lneg at_50_52).trans ?_
        refine (S_goto at_50_53).trans ?_
        refine (S_lstore (l1 := [some (jR 41), some (jI x1), some (jI x2), some (jI x3), some (jL y4), none, some (jI x6), some (jL (m 44 (w32 ((w32 (x1 * 5)) + x6)).toNat)), none, some (jL (w64 (-(m 41 4)))), none]) rfl at_50_59).trans ?_
        refine (S_goto at_50_61).trans ?_
        refine (S_lload rfl at_50_100).trans ?_
        refine (S_invs (by decide) (Nat.le_of_ble_eq_true rfl) (Nat.le_of_ble_eq_true rfl) at_50_102).trans ?_
        rfl
      · refine (S_lload rfl at_50_56).trans ?_
        refine (S_lneg at_50_58).trans ?_
        refine (S_lstore (l1 := [some (jR 41), some (jI x1), some (jI x2), some (jI x3), some (jL y4), none, some (jI x6), some (jL (m 44 (w32 ((w32 (x1 * 5)) + x6)).toNat)), none, some (jL (w64 (-(m 44 (w32 ((w32 (x1 * 5)) + x6)).toNat)))), none]) rfl at_50_59).trans ?_
        refine (S_goto at_50_61).trans ?_
        refine (S_lload rfl at_50_100).trans ?_
        refine (S_invs (by decide) (Nat.le_of_ble_eq_true rfl) (Nat.le_of_ble_eq_true rfl) at_50_102).trans ?_
        rfl
    · refine (S_iload rfl at_50_64).trans ?_
      refine (S_iload_n rfl at_50_66).trans ?_
      refine (S_icmp_ne at_50_67).trans ?_
      refine ite_congr rfl (fun _ => ?_) (fun _ => ?_)
      · refine (S_lload rfl at_50_70).trans ?_
        refine (S_lstore (l1 := [some (jR 41), some (jI x1), some (jI x2), some (jI x3), some (jL y4), none, some (jI x6), some (jL (m 44 (w32 ((w32 (x1 * 5)) + x6)).toNat)), none, some (jL (m 44 (w32 ((w32 (x1 * 5)) + x6)).toNat)), none]) rfl at_50_72).trans ?_
        refine (S_goto at_50_74).trans ?_
        refine (S_lload rfl at_50_100).trans ?_
        refine (S_invs (by decide) (Nat.le_of_ble_eq_true rfl) (Nat.le_of_ble_eq_true rfl) at_50_102).trans ?_
        rfl
      · refine (S_aload_n rfl at_50_77).trans ?_
        refine (S_lload rfl at_50_78).trans ?_
        refine (S_lload rfl at_50_80).trans ?_
        refine (S_aload_n rfl at_50_82).trans ?_
        refine (S_getR (ka_41 L _) rfl (f_41_7 L _) at_50_83).trans ?_
        refine (S_iload_n rfl at_50_86).trans ?_
        refine (S_iconst at_50_87).trans ?_
        refine (S_imul at_50_88).trans ?_
        refine (S_iload rfl at_50_89).trans ?_
        refine (S_iadd at_50_91).trans ?_
        refine (H_laload (ka_44 L _) at_50_92).trans ?_
        refine ite_congr rfl (fun hi => ?_) (fun _ => rfl)
        refine (S_iload_n rfl at_50_93).trans ?_
        refine (S_iload_n rfl at_50_94).trans ?_
        refine (S_invv (b := 5) kn_51 rfl (ka_41 L _) (Nat.le_of_ble_eq_true rfl) at_50_95).trans ?_
        rfl
  · refine (S_aload_n rfl at_50_129).trans ?_
    refine (S_getR (ka_41 L _) rfl (f_41_11 L _) at_50_130).trans ?_
    refine (S_iload_n rfl at_50_133).trans ?_
    refine (S_iload_n rfl at_50_134).trans ?_
    refine (S_iload_n rfl at_50_135).trans ?_
    refine (S_icmp_ne at_50_136).trans ?_
    refine ite_congr rfl (fun _ => ?_) (fun _ => ?_)
    · refine (S_aload_n rfl at_50_139).trans ?_
      refine (S_getR (ka_41 L _) rfl (f_41_8 L _) at_50_140).trans ?_
      refine (S_iload_n rfl at_50_143).trans ?_
      refine (H_laload (ka_45 L _) at_50_144).trans ?_
      refine ite_congr rfl (fun hi => ?_) (fun _ => rfl)
      refine (S_lneg at_50_145).trans ?_
      refine (S_goto at_50_146).trans ?_
      rfl
    · refine (S_aload_n rfl at_50_149).trans ?_
      refine (S_aload_n rfl at_50_150).trans ?_
      refine (S_getR (ka_41 L _) rfl (f_41_8 L _) at_50_151).trans ?_
      refine (S_iload_n rfl at_50_154).trans ?_
      refine (H_laload (ka_45 L _) at_50_155).trans ?_
      refine ite_congr rfl (fun hi => ?_) (fun _ => rfl)
      refine (S_lload rfl at_50_156).trans ?_
      refine (S_aload_n rfl at_50_158).trans ?_
      refine (S_getR (ka_41 L _) rfl (f_41_8 L _) at_50_159).trans ?_
      refine (S_iload_n rfl at_50_162).trans ?_
      refine (H_laload (ka_45 L _) at_50_163).trans ?_
      refine ite_congr rfl (fun hi => ?_) (fun _ => rfl)
      refine (S_iload_n rfl at_50_164).trans ?_
      refine (S_iload_n rfl at_50_165).trans ?_
      refine (S_invv (b := 5) kn_51 rfl (ka_41 L _) (Nat.le_of_ble_eq_true rfl) at_50_166).trans ?_
      rfl
theorem T50_98_41 {C : Nat → List j_V → j_H → Option j_Z} {L : Nat} {m : j_M0} {x1 : Int} {x2 : Int} {x3 : Int} {y4 : Int} {x6 : Int} {y7 : Int} {o9 : Option j_V} {t0 : Int} : j_fin C 50 98 [some (jR 41), some (jI x1), some (jI x2), some (jI x3), some (jL y4), none, some (jI x6), some (jL y7), none, o9, none] [jL t0] (hH L m) = (C 144 [jL t0] (hH L m)).bind fun z => j_fin C 50 105 [some (jR 41), some (jI x1), some (jI x2), some (jI x3), some (jL y4), none, some (jI x6), some (jL y7), none, some (jL t0), none] (z.1.toList ++ []) z.2 := by
  refine (S_lstore (l1 := [some (jR 41), some (jI x1), some (jI x2), some (jI x3), some (jL y4), none, some (jI x6), some (jL y7), none, some (jL t0), none]) rfl at_50_98).trans ?_
  refine (S_lload rfl at_50_100).trans ?_
  refine (S_invs (by decide) (Nat.le_of_ble_eq_true rfl) (Nat.le_of_ble_eq_true rfl) at_50_102).trans ?_
  rfl
theorem T50_105_41 {C : Nat → List j_V → j_H → Option j_Z} {L : Nat} {m : j_M0} {x1 : Int} {x2 : Int} {x3 : Int} {y4 : Int} {x6 : Int} {y7 : Int} {y9 : Int} {s0 : Int} : j_fin C 50 105 [some (jR 41), some (jI x1), some (jI x2), some (jI x3), some (jL y4), none, some (jI x6), some (jL y7), none, some (jL y9), none] [jI s0] (hH L m) = if s0 = 0 then some (some (jI 0), hH L m) else if 0 ≤ (w32 ((w32 (x1 * 5)) + x6)) ∧ (w32 ((w32 (x1 * 5)) + x6)) < 100 then j_fin C 50 15 [some (jR 41), some (jI x1), some (jI x2), some (jI x3), some (jL y4), none, some (jI (w32 (x6 + 1))), some (jL y7), none, some (jL y9), none] [] (hH L (j_up m 47 (w32 ((w32 (x1 * 5)) + x6)).toNat y9)) else none := by
  refine (S_if_ne at_50_105).trans ?_
  refine ite_congr rfl (fun _ => ?_) (fun _ => ?_)
  · refine (S_iconst at_50_108).trans ?_
    exact (S_iretz rfl at_50_109).trans (if_pos (by decide))
  · refine (S_aload_n rfl at_50_110).trans ?_
    refine (S_getR (ka_41 L _) rfl (f_41_10 L _) at_50_111).trans ?_
    refine (S_iload_n rfl at_50_114).trans ?_
    refine (S_iconst at_50_115).trans ?_
    refine (S_imul at_50_116).trans ?_
    refine (S_iload rfl at_50_117).trans ?_
    refine (S_iadd at_50_119).trans ?_
    refine (S_lload rfl at_50_120).trans ?_
    refine (H_lastore (by omega) (ka_47 L _) at_50_122).trans ?_
    refine ite_congr rfl (fun hi => ?_) (fun _ => rfl)
    refine (S_iinc (l1 := [some (jR 41), some (jI x1), some (jI x2), some (jI x3), some (jL y4), none, some (jI (w32 (x6 + 1))), some (jL y7), none, some (jL y9), none]) rfl rfl at_50_123).trans ?_
    refine (S_goto at_50_126).trans ?_
    rfl
theorem T50_169_41 {C : Nat → List j_V → j_H → Option j_Z} {L : Nat} {m : j_M0} {x1 : Int} {x2 : Int} {x3 : Int} {y4 : Int} {x6 : Int} {o7 : Option j_V} {o9 : Option j_V} {s1 : Int} {t2 : Int} : j_fin C 50 169 [some (jR 41), some (jI x1), some (jI x2), some (jI x3), some (jL y4), none, some (jI x6), o7, none, o9, none] [jL t2, jI s1, jR 48] (hH L m) = if 0 ≤ s1 ∧ s1 < 20 then if 0 ≤ x1 ∧ x1 < 20 then (C 144 [jL ((j_up m 48 s1.toNat t2) 48 x1.toNat)] (hH L (j_up m 48 s1.toNat t2))).bind fun z => j_fin C 50 179 [some (jR 41), some (jI x1), some (jI x2), some (jI x3), some (jL y4), none, some (jI x6), o7, none, o9, none] (z.1.toList ++ []) z.2 else none else none := by
  refine (H_lastore (by omega) (ka_48 L _) at_50_169).trans ?_
  refine ite_congr rfl (fun hi => ?_) (fun _ => rfl)
  refine (S_aload_n rfl at_50_170).trans ?_
  refine (S_getR (ka_41 L _) rfl (f_41_11 L _) at_50_171).trans ?_
  refine (S_iload_n rfl at_50_174).trans ?_
  refine (H_laload (ka_48 L _) at_50_175).trans ?_
  refine ite_congr rfl (fun hi => ?_) (fun _ => rfl)
  refine (S_invs (by decide) (Nat.le_of_ble_eq_true rfl) (Nat.le_of_ble_eq_true rfl) at_50_176).trans ?_
  rfl
theorem T50_179_41 {C : Nat → List j_V → j_H → Option j_Z} {L : Nat} {m : j_M0} {x1 : Int} {x2 : Int} {x3 : Int} {y4 : Int} {x6 : Int} {o7 : Option j_V} {o9 : Option j_V} {s0 : Int} : j_fin C 50 179 [some (jR 41), some (jI x1), some (jI x2), some (jI x3), some (jL y4), none, some (jI x6), o7, none, o9, none] [jI s0] (hH L m) = if s0 = 0 ∨ s0 = 1 then some (some (jI s0), hH L m) else none := by
  exact S_iretz rfl at_50_179
theorem T50_0_55 {C : Nat → List j_V → j_H → Option j_Z} {L : Nat} {m : j_M0} {x1 : Int} {x2 : Int} {x3 : Int} : j_fin C 50 0 [some (jR 55), some (jI x1), some (jI x2), some (jI x3), none, none, none, none, none, none, none] [] (hH L m) = if 0 ≤ (w32 ((w32 (x1 * 5)) + x3)) ∧ (w32 ((w32 (x1 * 5)) + x3)) < 100 then j_fin C 50 15 [some (jR 55), some (jI x1), some (jI x2), some (jI x3), some (jL (m 58 (w32 ((w32 (x1 * 5)) + x3)).toNat)), none, some (jI 0), none, none, none, none] [] (hH L m) else none := by
  refine (S_aload_n rfl at_50_0).trans ?_
  refine (S_getR (ka_55 L _) rfl (f_55_7 L _) at_50_1).trans ?_
  refine (S_iload_n rfl at_50_4).trans ?_
  refine (S_iconst at_50_5).trans ?_
  refine (S_imul at_50_6).trans ?_
  refine (S_iload_n rfl at_50_7).trans ?_
  refine (S_iadd at_50_8).trans ?_
  refine (H_laload (ka_58 L _) at_50_9).trans ?_
  refine ite_congr rfl (fun hi => ?_) (fun _ => rfl)
  refine (S_lstore (l1 := [some (jR 55), some (jI x1), some (jI x2), some (jI x3), some (jL (m 58 (w32 ((w32 (x1 * 5)) + x3)).toNat)), none, none, none, none, none, none]) rfl at_50_10).trans ?_
  refine (S_iconst at_50_12).trans ?_
  refine (S_istore (l1 := [some (jR 55), some (jI x1), some (jI x2), some (jI x3), some (jL (m 58 (w32 ((w32 (x1 * 5)) + x3)).toNat)), none, some (jI 0), none, none, none, none]) rfl at_50_13).trans ?_
  rfl
theorem T50_15_55 {C : Nat → List j_V → j_H → Option j_Z} {L : Nat} {m : j_M0} {x1 : Int} {x2 : Int} {x3 : Int} {y4 : Int} {x6 : Int} {o7 : Option j_V} {o9 : Option j_V} : j_fin C 50 15 [some (jR 55), some (jI x1), some (jI x2), some (jI x3), some (jL y4), none, some (jI x6), o7, none, o9, none] [] (hH L m) = if x6 < (m 55 1) then if 0 ≤ (w32 ((w32 (x1 * 5)) + x6)) ∧ (w32 ((w32 (x1 * 5)) + x6)) < 100 then if x1 = x2 then if x6 = x3 then (C 144 [jL (w64 (-(m 55 4)))] (hH L m)).bind fun z => j_fin C 50 105 [some (jR 55), some (jI x1), some (jI x2), some (jI x3), some (jL y4), none, some (jI x6), some (jL (m 58 (w32 ((w32 (x1 * 5)) + x6)).toNat)), none, some (jL (w64 (-(m 55 4)))), none] (z.1.toList ++ []) z.2 else (C 144 [jL (w64 (-(m 58 (w32 ((w32 (x1 * 5)) + x6)).toNat)))] (hH L m)).bind fun z => j_fin C 50 105 [some (jR 55), some (jI x1), some (jI x2), some (jI x3), some (jL y4), none, some (jI x6), some (jL (m 58 (w32 ((w32 (x1 * 5)) + x6)).toNat)), none, some (jL (w64 (-(m 58 (w32 ((w32 (x1 * 5)) + x6)).toNat)))), none] (z.1.toList ++ []) z.2 else if x6 = x3 then (C 144 [jL (m 58 (w32 ((w32 (x1 * 5)) + x6)).toNat)] (hH L m)).bind fun z => j_fin C 50 105 [some (jR 55), some (jI x1), some (jI x2), some (jI x3), some (jL y4), none, some (jI x6), some (jL (m 58 (w32 ((w32 (x1 * 5)) + x6)).toNat)), none, some (jL (m 58 (w32 ((w32 (x1 * 5)) + x6)).toNat)), none] (z.1.toList ++ []) z.2 else if 0 ≤ (w32 ((w32 (x2 * 5)) + x6)) ∧ (w32 ((w32 (x2 * 5)) + x6)) < 100 then (C 51 [jR 55, jL (m 58 (w32 ((w32 (x1 * 5)) + x6)).toNat), jL y4, jL (m 58 (w32 ((w32 (x2 * 5)) + x6)).toNat), jI x2, jI x3] (hH L m)).bind fun z => j_fin C 50 98 [some (jR 55), some (jI x1), some (jI x2), some (jI x3), some (jL y4), none, some (jI x6), some (jL (m 58 (w32 ((w32 (x1 * 5)) + x6)).toNat)), none, o9, none] (z.1.toList ++ []) z.2 else none else none else if x1 = x2 then if 0 ≤ x2 ∧ x2 < 20 then j_fin C 50 169 [some (jR 55), some (jI x1), some (jI x2), some (jI x3), some (jL y4), none, some (jI x6), o7, none, o9, none] [jL (w64 (-(m 59 x2.toNat))), jI x1, jR 62] (hH L m) else none else if 0 ≤ x1 ∧ x1 < 20 then if 0 ≤ x2 ∧ x2 < 20 then (C 51 [jR 55, jL (m 59 x1.toNat), jL y4, jL (m 59 x2.toNat), jI x2, jI x3] (hH L m)).bind fun z => j_fin C 50 169 [some (jR 55), some (jI x1), some (jI x2), some (jI x3), some (jL y4), none, some (jI x6), o7, none, o9, none] (z.1.toList ++ [jI x1, jR 62]) z.2 else none else none := by
  refine (S_iload rfl at_50_15).trans ?_
  refine (S_aload_n rfl at_50_17).trans ?_
  refine (H_get0 (ka_55 L _) rfl at_50_18).trans ?_
  refine (S_icmp_ge at_50_21).trans ?_
  refine ite_congr rfl (fun _ => ?_) (fun _ => ?_)
  · refine (S_aload_n rfl at_50_24).trans ?_
    refine (S_getR (ka_55 L _) rfl (f_55_7 L _) at_50_25).trans ?_
    refine (S_iload_n rfl at_50_28).trans ?_
    refine (S_iconst at_50_29).trans ?_
    refine (S_imul at_50_30).trans ?_
    refine (S_iload rfl at_50_31).trans ?_
    refine (S_iadd at_50_33).trans ?_
    refine (H_laload (ka_58 L _) at_50_34).trans ?_
    refine ite_congr rfl (fun hi => ?_) (fun _ => rfl)
    refine (S_lstore (l1 := [some (jR 55), some (jI x1), some (jI x2), some (jI x3), some (jL y4), none, some (jI x6), some (jL (m 58 (w32 ((w32 (x1 * 5)) + x6)).toNat)), none, o9, none]) rfl at_50_35).trans ?_
    refine (S_iload_n rfl at_50_37).trans ?_
    refine (S_iload_n rfl at_50_38).trans ?_
    refine (S_icmp_ne at_50_39).trans ?_
    refine ite_congr rfl (fun _ => ?_) (fun _ => ?_)
    · refine (S_iload rfl at_50_42).trans ?_
      refine (S_iload_n rfl at_50_44).trans ?_
      refine (S_icmp_ne at_50_45).trans ?_
      refine ite_congr rfl (fun _ => ?_) (fun _ => ?_)
      · refine (S_aload_n rfl at_50_48).trans ?_
        refine (H_get1 (ka_55 L _) rfl at_50_49).trans ?_
        refine (S_lneg at_50_52).trans ?_
        refine (S_goto at_50_53).trans ?_
        refine (S_lstore (l1 := [some (jR 55), some (jI x1), some (jI x2), some (jI x3), some (jL y4), none, some (jI x6), some (jL (m 58 (w32 ((w32 (x1 * 5)) + x6)).toNat)), none, some (jL (w64 (-(m 55 4)))), none]) rfl at_50_59).trans ?_
        refine (S_goto at_50_61).trans ?_
        refine (S_lload rfl at_50_100).trans ?_
        refine (S_invs (by decide) (Nat.le_of_ble_eq_true rfl) (Nat.le_of_ble_eq_true rfl) at_50_102).trans ?_
        rfl
      · refine (S_lload rfl at_50_56).trans ?_
        refine (S_lneg at_50_58).trans ?_
        refine (S_lstore (l1 := [some (jR 55), some (jI x1), some (jI x2), some (jI x3), some (jL y4), none, some (jI x6), some (jL (m 58 (w32 ((w32 (x1 * 5)) + x6)).toNat)), none, some (jL (w64 (-(m 58 (w32 ((w32 (x1 * 5)) + x6)).toNat)))), none]) rfl at_50_59).trans ?_
        refine (S_goto at_50_61).trans ?_
        refine (S_lload rfl at_50_100).trans ?_
        refine (S_invs (by decide) (Nat.le_of_ble_eq_true rfl) (Nat.le_of_ble_eq_true rfl) at_50_102).trans ?_
        rfl
    · refine (S_iload rfl at_50_64).trans ?_
      refine (S_iload_n rfl at_50_66).trans ?_
      refine (S_icmp_ne at_50_67).trans ?_
      refine ite_congr rfl (fun _ => ?_) (fun _ => ?_)
      · refine (S_lload rfl at_50_70).trans ?_
        refine (S_lstore (l1 := [some (jR 55), some (jI x1), some (jI x2), some (jI x3), some (jL y4), none, some (jI x6), some (jL (m 58 (w32 ((w32 (x1 * 5)) + x6)).toNat)), none, some (jL (m 58 (w32 ((w32 (x1 * 5)) + x6)).toNat)), none]) rfl at_50_72).trans ?_
        refine (S_goto at_50_74).trans ?_
        refine (S_lload rfl at_50_100).trans ?_
        refine (S_invs (by decide) (Nat.le_of_ble_eq_true rfl) (Nat.le_of_ble_eq_true rfl) at_50_102).trans ?_
        rfl
      · refine (S_aload_n rfl at_50_77).trans ?_
        refine (S_lload rfl at_50_78).trans ?_
        refine (S_lload rfl at_50_80).trans ?_
        refine (S_aload_n rfl at_50_82).trans ?_
        refine (S_getR (ka_55 L _) rfl (f_55_7 L _) at_50_83).trans ?_
        refine (S_iload_n rfl at_50_86).trans ?_
        refine (S_iconst at_50_87).trans ?_
        refine (S_imul at_50_88).trans ?_
        refine (S_iload rfl at_50_89).trans ?_
        refine (S_iadd at_50_91).trans ?_
        refine (H_laload (ka_58 L _) at_50_92).trans ?_
        refine ite_congr rfl (fun hi => ?_) (fun _ => rfl)
        refine (S_iload_n rfl at_50_93).trans ?_
        refine (S_iload_n rfl at_50_94).trans ?_
        refine (S_invv (b := 5) kn_51 rfl (ka_55 L _) (Nat.le_of_ble_eq_true rfl) at_50_95).trans ?_
        rfl
  · refine (S_aload_n rfl at_50_129).trans ?_
    refine (S_getR (ka_55 L _) rfl (f_55_11 L _) at_50_130).trans ?_
    refine (S_iload_n rfl at_50_133).trans ?_
    refine (S_iload_n rfl at_50_134).trans ?_
    refine (S_iload_n rfl at_50_135).trans ?_
    refine (S_icmp_ne at_50_136).trans ?_
    refine ite_congr rfl (fun _ => ?_) (fun _ => ?_)
    · refine (S_aload_n rfl at_50_139).trans ?_
      refine (S_getR (ka_55 L _) rfl (f_55_8 L _) at_50_140).trans ?_
      refine (S_iload_n rfl at_50_143).trans ?_
      refine (H_laload (ka_59 L _) at_50_144).trans ?_
      refine ite_congr rfl (fun hi => ?_) (fun _ => rfl)
      refine (S_lneg at_50_145).trans ?_
      refine (S_goto at_50_146).trans ?_
      rfl
    · refine (S_aload_n rfl at_50_149).trans ?_
      refine (S_aload_n rfl at_50_150).trans ?_
      refine (S_getR (ka_55 L _) rfl (f_55_8 L _) at_50_151).trans ?_
      refine (S_iload_n rfl at_50_154).trans ?_
      refine (H_laload (ka_59 L _) at_50_155).trans ?_
      refine ite_congr rfl (fun hi => ?_) (fun _ => rfl)
      refine (S_lload rfl at_50_156).trans ?_
      refine (S_aload_n rfl at_50_158).trans ?_
      refine (S_getR (ka_55 L _) rfl (f_55_8 L _) at_50_159).trans ?_
      refine (S_iload_n rfl at_50_162).trans ?_
      refine (H_laload (ka_59 L _) at_50_163).trans ?_
      refine ite_congr rfl (fun hi => ?_) (fun _ => rfl)
      refine (S_iload_n rfl at_50_164).trans ?_
      refine (S_iload_n rfl at_50_165).trans ?_
      refine (S_invv (b := 5) kn_51 rfl (ka_55 L _) (Nat.le_of_ble_eq_true rfl) at_50_166).trans ?_
      rfl
theorem T50_98_55 {C : Nat → List j_V → j_H → Option j_Z} {L : Nat} {m : j_M0} {x1 : Int} {x2 : Int} {x3 : Int} {y4 : Int} {x6 : Int} {y7 : Int} {o9 : Option j_V} {t0 : Int} : j_fin C 50 98 [some (jR 55), some (jI x1), some (jI x2), some (jI x3), some (jL y4), none, some (jI x6), some (jL y7), none, o9, none] [jL t0] (hH L m) = (C 144 [jL t0] (hH L m)).bind fun z => j_fin C 50 105 [some (jR 55), some (jI x1), some (jI x2), some (jI x3), some (jL y4), none, some (jI x6), some (jL y7), none, some (jL t0), none] (z.1.toList ++ []) z.2 := by
  refine (S_lstore (l1 := [some (jR 55), some (jI x1), some (jI x2), some (jI x3), some (jL y4), none, some (jI x6), some (jL y7), none, some (jL t0), none]) rfl at_50_98).trans ?_
  refine (S_lload rfl at_50_100).trans ?_
  refine (S_invs (by decide) (Nat.le_of_ble_eq_true rfl) (Nat.le_of_ble_eq_true rfl) at_50_102).trans ?_
  rfl
theorem T50_105_55 {C : Nat → List j_V → j_H → Option j_Z} {L : Nat} {m : j_M0} {x1 : Int} {x2 : Int} {x3 : Int} {y4 : Int} {x6 : Int} {y7 : Int} {y9 : Int} {s0 : Int} : j_fin C 50 105 [some (jR 55), some (jI x1), some (jI x2), some (jI x3), some (jL y4), none, some (jI x6), some (jL y7), none, some (jL y9), none] [jI s0] (hH L m) = if s0 = 0 then some (some (jI 0), hH L m) else if 0 ≤ (w32 ((w32 (x1 * 5)) + x6)) ∧ (w32 ((w32 (x1 * 5)) + x6)) < 100 then j_fin C 50 15 [some (jR 55), some (jI x1), some (jI x2), some (jI x3), some (jL y4), none, some (jI (w32 (x6 + 1))), some (jL y7), none, some (jL y9), none] [] (hH L (j_up m 61 (w32 ((w32 (x1 * 5)) + x6)).toNat y9)) else none := by
  refine (S_if_ne at_50_105).trans ?_
  refine ite_congr rfl (fun _ => ?_) (fun _ => ?_)
  · refine (S_iconst at_50_108).trans ?_
    exact (S_iretz rfl at_50_109).trans (if_pos (by decide))
  · refine (S_aload_n rfl at_50_110).trans ?_
    refine (S_getR (ka_55 L _) rfl (f_55_10 L _) at_50_111).trans ?_
    refine (S_iload_n rfl at_50_114).trans ?_
    refine (S_iconst at_50_115).trans ?_
    refine (S_imul at_50_116).trans ?_
    refine (S_iload rfl at_50_117).trans ?_
    refine (S_iadd at_50_119).trans ?_
    refine (S_lload rfl at_50_120).trans ?_
    refine (H_lastore (by omega) (ka_61 L _) at_50_122).trans ?_
    refine ite_congr rfl (fun hi => ?_) (fun _ => rfl)
    refine (S_iinc (l1 := [some (jR 55), some (jI x1), some (jI x2), some (jI x3), some (jL y4), none, some (jI (w32 (x6 + 1))), some (jL y7), none, some (jL y9), none]) rfl rfl at_50_123).trans ?_
    refine (S_goto at_50_126).trans ?_
    rfl
theorem T50_169_55 {C : Nat → List j_V → j_H → Option j_Z} {L : Nat} {m : j_M0} {x1 : Int} {x2 : Int} {x3 : Int} {y4 : Int} {x6 : Int} {o7 : Option j_V} {o9 : Option j_V} {s1 : Int} {t2 : Int} : j_fin C 50 169 [some (jR 55), some (jI x1), some (jI x2), some (jI x3), some (jL y4), none, some (jI x6), o7, none, o9, none] [jL t2, jI s1, jR 62] (hH L m) = if 0 ≤ s1 ∧ s1 < 20 then if 0 ≤ x1 ∧ x1 < 20 then (C 144 [jL ((j_up m 62 s1.toNat t2) 62 x1.toNat)] (hH L (j_up m 62 s1.toNat t2))).bind fun z => j_fin C 50 179 [some (jR 55), some (jI x1), some (jI x2), some (jI x3), some (jL y4), none, some (jI x6), o7, none, o9, none] (z.1.toList ++ []) z.2 else none else none := by
  refine (H_lastore (by omega) (ka_62 L _) at_50_169).trans ?_
  refine ite_congr rfl (fun hi => ?_) (fun _ => rfl)
  refine (S_aload_n rfl at_50_170).trans ?_
  refine (S_getR (ka_55 L _) rfl (f_55_11 L _) at_50_171).trans ?_
  refine (S_iload_n rfl at_50_174).trans ?_
  refine (H_laload (ka_62 L _) at_50_175).trans ?_
  refine ite_congr rfl (fun hi => ?_) (fun _ => rfl)
  refine (S_invs (by decide) (Nat.le_of_ble_eq_true rfl) (Nat.le_of_ble_eq_true rfl) at_50_176).trans ?_
  rfl
theorem T50_179_55 {C : Nat → List j_V → j_H → Option j_Z} {L : Nat} {m : j_M0} {x1 : Int} {x2 : Int} {x3 : Int} {y4 : Int} {x6 : Int} {o7 : Option j_V} {o9 : Option j_V} {s0 : Int} : j_fin C 50 179 [some (jR 55), some (jI x1), some (jI x2), some (jI x3), some (jL y4), none, some (jI x6), o7, none, o9, none] [jI s0] (hH L m) = if s0 = 0 ∨ s0 = 1 then some (some (jI s0), hH L m) else none := by
  exact S_iretz rfl at_50_179
theorem T50_0_71 {C : Nat → List j_V → j_H → Option j_Z} {L : Nat} {m : j_M0} {x1 : Int} {x2 : Int} {x3 : Int} : j_fin C 50 0 [some (jR 71), some (jI x1), some (jI x2), some (jI x3), none, none, none, none, none, none, none] [] (hH L m) = if 0 ≤ (w32 ((w32 (x1 * 5)) + x3)) ∧ (w32 ((w32 (x1 * 5)) + x3)) < 100 then j_fin C 50 15 [some (jR 71), some (jI x1), some (jI x2), some (jI x3), some (jL (m 74 (w32 ((w32 (x1 * 5)) + x3)).toNat)), none, some (jI 0), none, none, none, none] [] (hH L m) else none := by
  refine (S_aload_n rfl at_50_0).trans ?_
  refine (S_getR (ka_71 L _) rfl (f_71_7 L _) at_50_1).trans ?_
  refine (S_iload_n rfl at_50_4).trans ?_
  refine (S_iconst at_50_5).trans ?_
  refine (S_imul at_50_6).trans ?_
  refine (S_iload_n rfl at_50_7).trans ?_
  refine (S_iadd at_50_8).trans ?_
  refine (H_laload (ka_74 L _) at_50_9).trans ?_
  refine ite_congr rfl (fun hi => ?_) (fun _ => rfl)
  refine (S_lstore (l1 := [some (jR 71), some (jI x1), some (jI x2), some (jI x3), some (jL (m 74 (w32 ((w32 (x1 * 5)) + x3)).toNat)), none, none, none, none, none, none]) rfl at_50_10).trans ?_
  refine (S_iconst at_50_12).trans ?_
  refine (S_istore (l1 := [some (jR 71), some (jI x1), some (jI x2), some (jI x3), some (jL (m 74 (w32 ((w32 (x1 * 5)) + x3)).toNat)), none, some (jI 0), none, none, none, none]) rfl at_50_13).trans ?_
  rfl
theorem T50_15_71 {C : Nat → List j_V → j_H → Option j_Z} {L : Nat} {m : j_M0} {x1 : Int} {x2 : Int} {x3 : Int} {y4 : Int} {x6 : Int} {o7 : Option j_V} {o9 : Option j_V} : j_fin C 50 15 [some (jR 71), some (jI x1), some (jI x2), some (jI x3), some (jL y4), none, some (jI x6), o7, none, o9, none] [] (hH L m) = if x6 < (m 71 1) then if 0 ≤ (w32 ((w32 (x1 * 5)) + x6)) ∧ (w32 ((w32 (x1 * 5)) + x6)) < 100 then if x1 = x2 then if x6 = x3 then (C 144 [jL (w64 (-(m 71 4)))] (hH L m)).bind fun z => j_fin C 50 105 [some (jR 71), some (jI x1), some (jI x2), some (jI x3), some (jL y4), none, some (jI x6), some (jL (m 74 (w32 ((w32 (x1 * 5)) + x6)).toNat)), none, some (jL (w64 (-(m 71 4)))), none] (z.1.toList ++ []) z.2 else (C 144 [jL (w64 (-(m 74 (w32 ((w32 (x1 * 5)) + x6)).toNat)))] (hH L m)).bind fun z => j_fin C 50 105 [some (jR 71), some (jI x1), some (jI x2), some (jI x3), some (jL y4), none, some (jI x6), some (jL (m 74 (w32 ((w32 (x1 * 5)) + x6)).toNat)), none, some (jL (w64 (-(m 74 (w32 ((w32 (x1 * 5)) + x6)).toNat)))), none] (z.1.toList ++ []) z.2 else if x6 = x3 then (C 144 [jL (m 74 (w32 ((w32 (x1 * 5)) + x6)).toNat)] (hH L m)).bind fun z => j_fin C 50 105 [some (jR 71), some (jI x1), some (jI x2), some (jI x3), some (jL y4), none, some (jI x6), some (jL (m 74 (w32 ((w32 (x1 * 5)) + x6)).toNat)), none, some (jL (m 74 (w32 ((w32 (x1 * 5)) + x6)).toNat)), none] (z.1.toList ++ []) z.2 else if 0 ≤ (w32 ((w32 (x2 * 5)) + x6)) ∧ (w32 ((w32 (x2 * 5)) + x6)) < 100 then (C 51 [jR 71, jL (m 74 (w32 ((w32 (x1 * 5)) + x6)).toNat), jL y4, jL (m 74 (w32 ((w32 (x2 * 5)) + x6)).toNat), jI x2, jI x3] (hH L m)).bind fun z => j_fin C 50 98 [some (jR 71), some (jI x1), some (jI x2), some (jI x3), some (jL y4), none, some (jI x6), some (jL (m 74 (w32 ((w32 (x1 * 5)) + x6)).toNat)), none, o9, none] (z.1.toList ++ []) z.2 else none else none else if x1 = x2 then if 0 ≤ x2 ∧ x2 < 20 then j_fin C 50 169 [some (jR 71), some (jI x1), some (jI x2), some (jI x3), some (jL y4), none, some (jI x6), o7, none, o9, none] [jL (w64 (-(m 75 x2.toNat))), jI x1, jR 78] (hH L m) else none else if 0 ≤ x1 ∧ x1 < 20 then if 0 ≤ x2 ∧ x2 < 20 then (C 51 [jR 71, jL (m 75 x1.toNat), jL y4, jL (m 75 x2.toNat), jI x2, jI x3] (hH L m)).bind fun z => j_fin C 50 169 [some (jR 71), some (jI x1), some (jI x2), some (jI x3), some (jL y4), none, some (jI x6), o7, none, o9, none] (z.1.toList ++ [jI x1, jR 78]) z.2 else none else none := by
  refine (S_iload rfl at_50_15).trans ?_
  refine (S_aload_n rfl at_50_17).trans ?_
  refine (H_get0 (ka_71 L _) rfl at_50_18).trans ?_
  refine (S_icmp_ge at_50_21).trans ?_
  refine ite_congr rfl (fun _ => ?_) (fun _ => ?_)
  · refine (S_aload_n rfl at_50_24).trans ?_
    refine (S_getR (ka_71 L _) rfl (f_71_7 L _) at_50_25).trans ?_
    refine (S_iload_n rfl at_50_28).trans ?_
    refine (S_iconst at_50_29).trans ?_
    refine (S_imul at_50_30).trans ?_
    refine (S_iload rfl at_50_31).trans ?_
    refine (S_iadd at_50_33).trans ?_
    refine (H_laload (ka_74 L _) at_50_34).trans ?_
    refine ite_congr rfl (fun hi => ?_) (fun _ => rfl)
    refine (S_lstore (l1 := [some (jR 71), some (jI x1), some (jI x2), some (jI x3), some (jL y4), none, some (jI x6), some (jL (m 74 (w32 ((w32 (x1 * 5)) + x6)).toNat)), none, o9, none]) rfl at_50_35).trans ?_
    refine (S_iload_n rfl at_50_37).trans ?_
    refine (S_iload_n rfl at_50_38).trans ?_
    refine (S_icmp_ne at_50_39).trans ?_
    refine ite_congr rfl (fun _ => ?_) (fun _ => ?_)
    · refine (S_iload rfl at_50_42).trans ?_
      refine (S_iload_n rfl at_50_44).trans ?_
      refine (S_icmp_ne at_50_45).trans ?_
      refine ite_congr rfl (fun _ => ?_) (fun _ => ?_)
      · refine (S_aload_n rfl at_50_48).trans ?_
        refine (H_get1 (ka_71 L _) rfl at_50_49).trans ?_
        refine (S_lneg at_50_52).trans ?_
        refine (S_goto at_50_53).trans ?_
        refine (S_lstore (l1 := [some (jR 71), some (jI x1), some (jI x2), some (jI x3), some (jL y4), none, some (jI x6), some (jL (m 74 (w32 ((w32 (x1 * 5)) + x6)).toNat)), none, some (jL (w64 (-(m 71 4)))), none]) rfl at_50_59).trans ?_
        refine (S_goto at_50_61).trans ?_
        refine (S_lload rfl at_50_100).trans ?_
        refine (S_invs (by decide) (Nat.le_of_ble_eq_true rfl) (Nat.le_of_ble_eq_true rfl) at_50_102).trans ?_
        rfl
      · refine (S_lload rfl at_50_56).trans ?_
        refine (S_lneg at_50_58).trans ?_
        refine (S_lstore (l1 := [some (jR 71), some (jI x1), some (jI x2), some (jI x3), some (jL y4), none, some (jI x6), some (jL (m 74 (w32 ((w32 (x1 * 5)) + x6)).toNat)), none, some (jL (w64 (-(m 74 (w32 ((w32 (x1 * 5)) + x6)).toNat)))), none]) rfl at_50_59).trans ?_
        refine (S_goto at_50_61).trans ?_
        refine (S_lload rfl at_50_100).trans ?_
        refine (S_invs (by decide) (Nat.le_of_ble_eq_true rfl) (Nat.le_of_ble_eq_true rfl) at_50_102).trans ?_
        rfl
    · refine (S_iload rfl at_50_64).trans ?_
      refine (S_iload_n rfl at_50_66).trans ?_
      refine (S_icmp_ne at_50_67).trans ?_
      refine ite_congr rfl (fun _ => ?_) (fun _ => ?_)
      · refine (S_lload rfl at_50_70).trans ?_
        refine (S_lstore (l1 := [some (jR 71), some (jI x1), some (jI x2), some (jI x3), some (jL y4), none, some (jI x6), some (jL (m 74 (w32 ((w32 (x1 * 5)) + x6)).toNat)), none, some (jL (m 74 (w32 ((w32 (x1 * 5)) + x6)).toNat)), none]) rfl at_50_72).trans ?_
        refine (S_goto at_50_74).trans ?_
        refine (S_lload rfl at_50_100).trans ?_
        refine (S_invs (by decide) (Nat.le_of_ble_eq_true rfl) (Nat.le_of_ble_eq_true rfl) at_50_102).trans ?_
        rfl
      · refine (S_aload_n rfl at_50_77).trans ?_
        refine (S_lload rfl at_50_78).trans ?_
        refine (S_lload rfl at_50_80).trans ?_
        refine (S_aload_n rfl at_50_82).trans ?_
        refine (S_getR (ka_71 L _) rfl (f_71_7 L _) at_50_83).trans ?_
        refine (S_iload_n rfl at_50_86).trans ?_
        refine (S_iconst at_50_87).trans ?_
        refine (S_imul at_50_88).trans ?_
        refine (S_iload rfl at_50_89).trans ?_
        refine (S_iadd at_50_91).trans ?_
        refine (H_laload (ka_74 L _) at_50_92).trans ?_
        refine ite_congr rfl (fun hi => ?_) (fun _ => rfl)
        refine (S_iload_n rfl at_50_93).trans ?_
        refine (S_iload_n rfl at_50_94).trans ?_
        refine (S_invv (b := 5) kn_51 rfl (ka_71 L _) (Nat.le_of_ble_eq_true rfl) at_50_95).trans ?_
        rfl
  · refine (S_aload_n rfl at_50_129).trans ?_
    refine (S_getR (ka_71 L _) rfl (f_71_11 L _) at_50_130).trans ?_
    refine (S_iload_n rfl at_50_133).trans ?_
    refine (S_iload_n rfl at_50_134).trans ?_
    refine (S_iload_n rfl at_50_135).trans ?_
    refine (S_icmp_ne at_50_136).trans ?_
    refine ite_congr rfl (fun _ => ?_) (fun _ => ?_)
    · refine (S_aload_n rfl at_50_139).trans ?_
      refine (S_getR (ka_71 L _) rfl (f_71_8 L _) at_50_140).trans ?_
      refine (S_iload_n rfl at_50_143).trans ?_
      refine (H_laload (ka_75 L _) at_50_144).trans ?_
      refine ite_congr rfl (fun hi => ?_) (fun _ => rfl)
      refine (S_lneg at_50_145).trans ?_
      refine (S_goto at_50_146).trans ?_
      rfl
    · refine (S_aload_n rfl at_50_149).trans ?_
      refine (S_aload_n rfl at_50_150).trans ?_
      refine (S_getR (ka_71 L _) rfl (f_71_8 L _) at_50_151).trans ?_
      refine (S_iload_n rfl at_50_154).trans ?_
      refine (H_laload (ka_75 L _) at_50_155).trans ?_
      refine ite_congr rfl (fun hi => ?_) (fun _ => rfl)
      refine (S_lload rfl at_50_156).trans ?_
      refine (S_aload_n rfl at_50_158).trans ?_
      refine (S_getR (ka_71 L _) rfl (f_71_8 L _) at_50_159).trans ?_
      refine (S_iload_n rfl at_50_162).trans ?_
      refine (H_laload (ka_75 L _) at_50_163).trans ?_
      refine ite_congr rfl (fun hi => ?_) (fun _ => rfl)
      refine (S_iload_n rfl at_50_164).trans ?_
      refine (S_iload_n rfl at_50_165).trans ?_
      refine (S_invv (b := 5) kn_51 rfl (ka_71 L _) (Nat.le_of_ble_eq_true rfl) at_50_166).trans ?_
      rfl
theorem T50_98_71 {C : Nat → List j_V → j_H → Option j_Z} {L : Nat} {m : j_M0} {x1 : Int} {x2 : Int} {x3 : Int} {y4 : Int} {x6 : Int} {y7 : Int} {o9 : Option j_V} {t0 : Int} : j_fin C 50 98 [some (jR 71), some (jI x1), some (jI x2), some (jI x3), some (jL y4), none, some (jI x6), some (jL y7), none, o9, none] [jL t0] (hH L m) = (C 144 [jL t0] (hH L m)).bind fun z => j_fin C 50 105 [some (jR 71), some (jI x1), some (jI x2), some (jI x3), some (jL y4), none, some (jI x6), some (jL y7), none, some (jL t0), none] (z.1.toList ++ []) z.2 := by
  refine (S_lstore (l1 := [some (jR 71), some (jI x1), some (jI x2), some (jI x3), some (jL y4), none, some (jI x6), some (jL y7), none, some (jL t0), none]) rfl at_50_98).trans ?_
  refine (S_lload rfl at_50_100).trans ?_
  refine (S_invs (by decide) (Nat.le_of_ble_eq_true rfl) (Nat.le_of_ble_eq_true rfl) at_50_102).trans ?_
  rfl
theorem T50_105_71 {C : Nat → List j_V → j_H → Option j_Z} {L : Nat} {m : j_M0} {x1 : Int} {x2 : Int} {x3 : Int} {y4 : Int} {x6 : Int} {y7 : Int} {y9 : Int} {s0 : Int} : j_fin C 50 105 [some (jR 71), some (jI x1), some (jI x2), some (jI x3), some (jL y4), none, some (jI x6), some (jL y7), none, some (jL y9), none] [jI s0] (hH L m) = if s0 = 0 then some (some (jI 0), hH L m) else if 0 ≤ (w32 ((w32 (x1 * 5)) + x6)) ∧ (w32 ((w32 (x1 * 5)) + x6)) < 100 then j_fin C 50 15 [some (jR 71), some (jI x1), some (jI x2), some (jI x3), some (jL y4), none, some (jI (w32 (x6 + 1))), some (jL y7), none, some (jL y9), none] [] (hH L (j_up m 77 (w32 ((w32 (x1 * 5)) + x6)).toNat y9)) else none := by
  refine (S_if_ne at_50_105).trans ?_
  refine ite_congr rfl (fun _ => ?_) (fun _ => ?_)
  · refine (S_iconst at_50_108).trans ?_
    exact (S_iretz rfl at_50_109).trans (if_pos (by decide))
  · refine (S_aload_n rfl at_50_110).trans ?_
    refine (S_getR (ka_71 L _) rfl (f_71_10 L _) at_50_111).trans ?_
    refine (S_iload_n rfl at_50_114).trans ?_
    refine (S_iconst at_50_115).trans ?_
    refine (S_imul at_50_116).trans ?_
    refine (S_iload rfl at_50_117).trans ?_
    refine (S_iadd at_50_119).trans ?_
    refine (S_lload rfl at_50_120).trans ?_
    refine (H_lastore (by omega) (ka_77 L _) at_50_122).trans ?_
    refine ite_congr rfl (fun hi => ?_) (fun _ => rfl)
    refine (S_iinc (l1 := [some (jR 71), some (jI x1), some (jI x2), some (jI x3), some (jL y4), none, some (jI (w32 (x6 + 1))), some (jL y7), none, some (jL y9), none]) rfl rfl at_50_123).trans ?_
    refine (S_goto at_50_126).trans ?_
    rfl
theorem T50_169_71 {C : Nat → List j_V → j_H → Option j_Z} {L : Nat} {m : j_M0} {x1 : Int} {x2 : Int} {x3 : Int} {y4 : Int} {x6 : Int} {o7 : Option j_V} {o9 : Option j_V} {s1 : Int} {t2 : Int} : j_fin C 50 169 [some (jR 71), some (jI x1), some (jI x2), some (jI x3), some (jL y4), none, some (jI x6), o7, none, o9, none] [jL t2, jI s1, jR 78] (hH L m) = if 0 ≤ s1 ∧ s1 < 20 then if 0 ≤ x1 ∧ x1 < 20 then (C 144 [jL ((j_up m 78 s1.toNat t2) 78 x1.toNat)] (hH L (j_up m 78 s1.toNat t2))).bind fun z => j_fin C 50 179 [some (jR 71), some (jI x1), some (jI x2), some (jI x3), some (jL y4), none, some (jI x6), o7, none, o9, none] (z.1.toList ++ []) z.2 else none else none := by
  refine (H_lastore (by omega) (ka_78 L _) at_50_169).trans ?_
  refine ite_congr rfl (fun hi => ?_) (fun _ => rfl)
  refine (S_aload_n rfl at_50_170).trans ?_
  refine (S_getR (ka_71 L _) rfl (f_71_11 L _) at_50_171).trans ?_
  refine (S_iload_n rfl at_50_174).trans ?_
  refine (H_laload (ka_78 L _) at_50_175).trans ?_
  refine ite_congr rfl (fun hi => ?_) (fun _ => rfl)
  refine (S_invs (by decide) (Nat.le_of_ble_eq_true rfl) (Nat.le_of_ble_eq_true rfl) at_50_176).trans ?_
  rfl
theorem T50_179_71 {C : Nat → List j_V → j_H → Option j_Z} {L : Nat} {m : j_M0} {x1 : Int} {x2 : Int} {x3 : Int} {y4 : Int} {x6 : Int} {o7 : Option j_V} {o9 : Option j_V} {s0 : Int} : j_fin C 50 179 [some (jR 71), some (jI x1), some (jI x2), some (jI x3), some (jL y4), none, some (jI x6), o7, none, o9, none] [jI s0] (hH L m) = if s0 = 0 ∨ s0 = 1 then some (some (jI s0), hH L m) else none := by
  exact S_iretz rfl at_50_179
theorem T51_0_41 {C : Nat → List j_V → j_H → Option j_Z} {L : Nat} {m : j_M0} {y1 : Int} {y3 : Int} {y5 : Int} {x7 : Int} {x8 : Int} : j_fin C 51 0 [some (jR 41), some (jL y1), none, some (jL y3), none, some (jL y5), none, some (jI x7), some (jI x8), none, none] [] (hH L m) = if 0 ≤ (w32 ((w32 (x7 * 5)) + x8)) ∧ (w32 ((w32 (x7 * 5)) + x8)) < 100 then if 0 < (j_cmp (m 41 4) 0) then if m 41 4 = 0 then none else some (some (jL (w64 (Int.tdiv (w64 ((w64 ((w64 (-(m 44 (w32 ((w32 (x7 * 5)) + x8)).toNat))) * y1)) + (w64 (y3 * y5)))) (m 41 4)))), hH L m) else some (some (jL 0), hH L m) else none := by
  refine (S_aload_n rfl at_51_0).trans ?_
  refine (S_getR (ka_41 L _) rfl (f_41_7 L _) at_51_1).trans ?_
  refine (S_iload rfl at_51_4).trans ?_
  refine (S_iconst at_51_6).trans ?_
  refine (S_imul at_51_7).trans ?_
  refine (S_iload rfl at_51_8).trans ?_
  refine (S_iadd at_51_10).trans ?_
  refine (H_laload (ka_44 L _) at_51_11).trans ?_
  refine ite_congr rfl (fun hi => ?_) (fun _ => rfl)
  refine (S_lneg at_51_12).trans ?_
  refine (S_lload_n rfl at_51_13).trans ?_
  refine (S_lmul at_51_14).trans ?_
  refine (S_lload_n rfl at_51_15).trans ?_
  refine (S_lload rfl at_51_16).trans ?_
  refine (S_lmul at_51_18).trans ?_
  refine (S_ladd at_51_19).trans ?_
  refine (S_lstore (l1 := [some (jR 41), some (jL y1), none, some (jL y3), none, some (jL y5), none, some (jI x7), some (jI x8), some (jL (w64 ((w64 ((w64 (-(m 44 (w32 ((w32 (x7 * 5)) + x8)).toNat))) * y1)) + (w64 (y3 * y5))))), none]) rfl at_51_20).trans ?_
  refine (S_aload_n rfl at_51_22).trans ?_
  refine (H_get1 (ka_41 L _) rfl at_51_23).trans ?_
  refine (S_lconst at_51_26).trans ?_
  refine (S_lcmp at_51_27).trans ?_
  refine (S_if_le at_51_28).trans ?_
  refine ite_congr rfl (fun _ => ?_) (fun _ => ?_)
  · refine (S_lload rfl at_51_31).trans ?_
    refine (S_aload_n rfl at_51_33).trans ?_
    refine (H_get1 (ka_41 L _) rfl at_51_34).trans ?_
    refine (S_ldiv at_51_37).trans ?_
    refine ite_congr rfl (fun _ => rfl) (fun hz => ?_)
    refine (S_goto at_51_38).trans ?_
    exact S_lret rfl at_51_42
  · refine (S_lconst at_51_41).trans ?_
    exact S_lret rfl at_51_42
theorem T51_0_55 {C : Nat → List j_V → j_H → Option j_Z} {L : Nat} {m : j_M0} {y1 : Int} {y3 : Int} {y5 : Int} {x7 : Int} {x8 : Int} : j_fin C 51 0 [some (jR 55), some (jL y1), none, some (jL y3), none, some (jL y5), none, some (jI x7), some (jI x8), none, none] [] (hH L m) = if 0 ≤ (w32 ((w32 (x7 * 5)) + x8)) ∧ (w32 ((w32 (x7 * 5)) + x8)) < 100 then if 0 < (j_cmp (m 55 4) 0) then if m 55 4 = 0 then none else some (some (jL (w64 (Int.tdiv (w64 ((w64 ((w64 (-(m 58 (w32 ((w32 (x7 * 5)) + x8)).toNat))) * y1)) + (w64 (y3 * y5)))) (m 55 4)))), hH L m) else some (some (jL 0), hH L m) else none := by
  refine (S_aload_n rfl at_51_0).trans ?_
  refine (S_getR (ka_55 L _) rfl (f_55_7 L _) at_51_1).trans ?_
  refine (S_iload rfl at_51_4).trans ?_
  refine (S_iconst at_51_6).trans ?_
  refine (S_imul at_51_7).trans ?_
  refine (S_iload rfl at_51_8).trans ?_
  refine (S_iadd at_51_10).trans ?_
  refine (H_laload (ka_58 L _) at_51_11).trans ?_
  refine ite_congr rfl (fun hi => ?_) (fun _ => rfl)
  refine (S_lneg at_51_12).trans ?_
  refine (S_lload_n rfl at_51_13).trans ?_
  refine (S_lmul at_51_14).trans ?_
  refine (S_lload_n rfl at_51_15).trans ?_
  refine (S_lload rfl at_51_16).trans ?_
  refine (S_lmul at_51_18).trans ?_
  refine (S_ladd at_51_19).trans ?_
  refine (S_lstore (l1 := [some (jR 55), some (jL y1), none, some (jL y3), none, some (jL y5), none, some (jI x7), some (jI x8), some (jL (w64 ((w64 ((w64 (-(m 58 (w32 ((w32 (x7 * 5)) + x8)).toNat))) * y1)) + (w64 (y3 * y5))))), none]) rfl at_51_20).trans ?_
  refine (S_aload_n rfl at_51_22).trans ?_
  refine (H_get1 (ka_55 L _) rfl at_51_23).trans ?_
  refine (S_lconst at_51_26).trans ?_
  refine (S_lcmp at_51_27).trans ?_
  refine (S_if_le at_51_28).trans ?_
  refine ite_congr rfl (fun _ => ?_) (fun _ => ?_)
  · refine (S_lload rfl at_51_31).trans ?_
    refine (S_aload_n rfl at_51_33).trans ?_
    refine (H_get1 (ka_55 L _) rfl at_51_34).trans ?_
    refine (S_ldiv at_51_37).trans ?_
    refine ite_congr rfl (fun _ => rfl) (fun hz => ?_)
    refine (S_goto at_51_38).trans ?_
    exact S_lret rfl at_51_42
  · refine (S_lconst at_51_41).trans ?_
    exact S_lret rfl at_51_42
theorem T51_0_71 {C : Nat → List j_V → j_H → Option j_Z} {L : Nat} {m : j_M0} {y1 : Int} {y3 : Int} {y5 : Int} {x7 : Int} {x8 : Int} : j_fin C 51 0 [some (jR 71), some (jL y1), none, some (jL y3), none, some (jL y5), none, some (jI x7), some (jI x8), none, none] [] (hH L m) = if 0 ≤ (w32 ((w32 (x7 * 5)) + x8)) ∧ (w32 ((w32 (x7 * 5)) + x8)) < 100 then if 0 < (j_cmp (m 71 4) 0) then if m 71 4 = 0 then none else some (some (jL (w64 (Int.tdiv (w64 ((w64 ((w64 (-(m 74 (w32 ((w32 (x7 * 5)) + x8)).toNat))) * y1)) + (w64 (y3 * y5)))) (m 71 4)))), hH L m) else some (some (jL 0), hH L m) else none := by
  refine (S_aload_n rfl at_51_0).trans ?_
  refine (S_getR (ka_71 L _) rfl (f_71_7 L _) at_51_1).trans ?_
  refine (S_iload rfl at_51_4).trans ?_
  refine (S_iconst at_51_6).trans ?_
  refine (S_imul at_51_7).trans ?_
  refine (S_iload rfl at_51_8).trans ?_
  refine (S_iadd at_51_10).trans ?_
  refine (H_laload (ka_74 L _) at_51_11).trans ?_
  refine ite_congr rfl (fun hi => ?_) (fun _ => rfl)
  refine (S_lneg at_51_12).trans ?_
  refine (S_lload_n rfl at_51_13).trans ?_
  refine (S_lmul at_51_14).trans ?_
  refine (S_lload_n rfl at_51_15).trans ?_
  refine (S_lload rfl at_51_16).trans ?_
  refine (S_lmul at_51_18).trans ?_
  refine (S_ladd at_51_19).trans ?_
  refine (S_lstore (l1 := [some (jR 71), some (jL y1), none, some (jL y3), none, some (jL y5), none, some (jI x7), some (jI x8), some (jL (w64 ((w64 ((w64 (-(m 74 (w32 ((w32 (x7 * 5)) + x8)).toNat))) * y1)) + (w64 (y3 * y5))))), none]) rfl at_51_20).trans ?_
  refine (S_aload_n rfl at_51_22).trans ?_
  refine (H_get1 (ka_71 L _) rfl at_51_23).trans ?_
  refine (S_lconst at_51_26).trans ?_
  refine (S_lcmp at_51_27).trans ?_
  refine (S_if_le at_51_28).trans ?_
  refine ite_congr rfl (fun _ => ?_) (fun _ => ?_)
  · refine (S_lload rfl at_51_31).trans ?_
    refine (S_aload_n rfl at_51_33).trans ?_
    refine (H_get1 (ka_71 L _) rfl at_51_34).trans ?_
    refine (S_ldiv at_51_37).trans ?_
    refine ite_congr rfl (fun _ => rfl) (fun hz => ?_)
    refine (S_goto at_51_38).trans ?_
    exact S_lret rfl at_51_42
  · refine (S_lconst at_51_41).trans ?_
    exact S_lret rfl at_51_42
theorem T52_0_41 {C : Nat → List j_V → j_H → Option j_Z} {L : Nat} {m : j_M0} {x1 : Int} : j_fin C 52 0 [some (jR 41), some (jI x1), none] [] (hH L m) = j_fin C 52 2 [some (jR 41), some (jI x1), some (jI 0)] [] (hH L m) := by
  refine (S_iconst at_52_0).trans ?_
  refine (S_istore_n (l1 := [some (jR 41), some (jI x1), some (jI 0)]) rfl at_52_1).trans ?_
  rfl
theorem T52_2_41 {C : Nat → List j_V → j_H → Option j_Z} {L : Nat} {m : j_M0} {x1 : Int} {x2 : Int} : j_fin C 52 2 [some (jR 41), some (jI x1), some (jI x2)] [] (hH L m) = if x2 < (m 41 0) then if 0 ≤ x2 ∧ x2 < 20 then if (m 42 x2.toNat) = x1 then some (some (jI x2), hH L m) else j_fin C 52 2 [some (jR 41), some (jI x1), some (jI (w32 (x2 + 1)))] [] (hH L m) else none else some (some (jI (-1)), hH L m) := by
  refine (S_iload_n rfl at_52_2).trans ?_
  refine (S_aload_n rfl at_52_3).trans ?_
  refine (H_get0 (ka_41 L _) rfl at_52_4).trans ?_
  refine (S_icmp_ge at_52_7).trans ?_
  refine ite_congr rfl (fun _ => ?_) (fun _ => ?_)
  · refine (S_aload_n rfl at_52_10).trans ?_
    refine (S_getR (ka_41 L _) rfl (f_41_5 L _) at_52_11).trans ?_
    refine (S_iload_n rfl at_52_14).trans ?_
    refine (H_iaload (ka_42 L _) at_52_15).trans ?_
    refine ite_congr rfl (fun hi => ?_) (fun _ => rfl)
    refine (S_iload_n rfl at_52_16).trans ?_
    refine (S_icmp_ne at_52_17).trans ?_
    refine ite_congr rfl (fun _ => ?_) (fun _ => ?_)
    · refine (S_iload_n rfl at_52_20).trans ?_
      exact S_ireti rfl at_52_21
    · refine (S_iinc (l1 := [some (jR 41), some (jI x1), some (jI (w32 (x2 + 1)))]) rfl rfl at_52_22).trans ?_
      refine (S_goto at_52_25).trans ?_
      rfl
  · refine (S_iconst at_52_28).trans ?_
    exact S_ireti rfl at_52_29
theorem T52_0_55 {C : Nat → List j_V → j_H → Option j_Z} {L : Nat} {m : j_M0} {x1 : Int} : j_fin C 52 0 [some (jR 55), some (jI x1), none] [] (hH L m) = j_fin C 52 2 [some (jR 55), some (jI x1), some (jI 0)] [] (hH L m) := by
  refine (S_iconst at_52_0).trans ?_
  refine (S_istore_n (l1 := [some (jR 55), some (jI x1), some (jI 0)]) rfl at_52_1).trans ?_
  rfl
theorem T52_2_55 {C : Nat → List j_V → j_H → Option j_Z} {L : Nat} {m : j_M0} {x1 : Int} {x2 : Int} : j_fin C 52 2 [some (jR 55), some (jI x1), some (jI x2)] [] (hH L m) = if x2 < (m 55 0) then if 0 ≤ x2 ∧ x2 < 20 then if (m 56 x2.toNat) = x1 then some (some (jI x2), hH L m) else j_fin C 52 2 [some (jR 55), some (jI x1), some (jI (w32 (x2 + 1)))] [] (hH L m) else none else some (some (jI (-1)), hH L m) := by
  refine (S_iload_n rfl at_52_2).trans ?_
  refine (S_aload_n rfl at_52_3).trans ?_
  refine (H_get0 (ka_55 L _) rfl at_52_4).trans ?_
  refine (S_icmp_ge at_52_7).trans ?_
  refine ite_congr rfl (fun _ => ?_) (fun _ => ?_)
  · refine (S_aload_n rfl at_52_10).trans ?_
    refine (S_getR (ka_55 L _) rfl (f_55_5 L _) at_52_11).trans ?_
    refine (S_iload_n rfl at_52_14).trans ?_
    refine (H_iaload (ka_56 L _) at_52_15).trans ?_
    refine ite_congr rfl (fun hi => ?_) (fun _ => rfl)
    refine (S_iload_n rfl at_52_16).trans ?_
    refine (S_icmp_ne at_52_17).trans ?_
    refine ite_congr rfl (fun _ => ?_) (fun _ => ?_)
    · refine (S_iload_n rfl at_52_20).trans ?_
      exact S_ireti rfl at_52_21
    · refine (S_iinc (l1 := [some (jR 55), some (jI x1), some (jI (w32 (x2 + 1)))]) rfl rfl at_52_22).trans ?_
      refine (S_goto at_52_25).trans ?_
      rfl
  · refine (S_iconst at_52_28).trans ?_
    exact S_ireti rfl at_52_29
theorem T52_0_71 {C : Nat → List j_V → j_H → Option j_Z} {L : Nat} {m : j_M0} {x1 : Int} : j_fin C 52 0 [some (jR 71), some (jI x1), none] [] (hH L m) = j_fin C 52 2 [some (jR 71), some (jI x1), some (jI 0)] [] (hH L m) := by
  refine (S_iconst at_52_0).trans ?_
  refine (S_istore_n (l1 := [some (jR 71), some (jI x1), some (jI 0)]) rfl at_52_1).trans ?_
  rfl
theorem T52_2_71 {C : Nat → List j_V → j_H → Option j_Z} {L : Nat} {m : j_M0} {x1 : Int} {x2 : Int} : j_fin C 52 2 [some (jR 71), some (jI x1), some (jI x2)] [] (hH L m) = if x2 < (m 71 0) then if 0 ≤ x2 ∧ x2 < 20 then if (m 72 x2.toNat) = x1 then some (some (jI x2), hH L m) else j_fin C 52 2 [some (jR 71), some (jI x1), some (jI (w32 (x2 + 1)))] [] (hH L m) else none else some (some (jI (-1)), hH L m) := by
  refine (S_iload_n rfl at_52_2).trans ?_
  refine (S_aload_n rfl at_52_3).trans ?_
  refine (H_get0 (ka_71 L _) rfl at_52_4).trans ?_
  refine (S_icmp_ge at_52_7).trans ?_
  refine ite_congr rfl (fun _ => ?_) (fun _ => ?_)
  · refine (S_aload_n rfl at_52_10).trans ?_
    refine (S_getR (ka_71 L _) rfl (f_71_5 L _) at_52_11).trans ?_
    refine (S_iload_n rfl at_52_14).trans ?_
    refine (H_iaload (ka_72 L _) at_52_15).trans ?_
    refine ite_congr rfl (fun hi => ?_) (fun _ => rfl)
    refine (S_iload_n rfl at_52_16).trans ?_
    refine (S_icmp_ne at_52_17).trans ?_
    refine ite_congr rfl (fun _ => ?_) (fun _ => ?_)
    · refine (S_iload_n rfl at_52_20).trans ?_
      exact S_ireti rfl at_52_21
    · refine (S_iinc (l1 := [some (jR 71), some (jI x1), some (jI (w32 (x2 + 1)))]) rfl rfl at_52_22).trans ?_
      refine (S_goto at_52_25).trans ?_
      rfl
  · refine (S_iconst at_52_28).trans ?_
    exact S_ireti rfl at_52_29
theorem T53_0_41 {C : Nat → List j_V → j_H → Option j_Z} {L : Nat} {m : j_M0} {x1 : Int} : j_fin C 53 0 [some (jR 41), some (jI x1), none] [] (hH L m) = (C 52 [jR 41, jI x1] (hH L m)).bind fun z => j_fin C 53 5 [some (jR 41), some (jI x1), none] (z.1.toList ++ []) z.2 := by
  refine (S_aload_n rfl at_53_0).trans ?_
  refine (S_iload_n rfl at_53_1).trans ?_
  refine (S_invv (b := 1) kn_52 rfl (ka_41 L _) (Nat.le_of_ble_eq_true rfl) at_53_2).trans ?_
  rfl
theorem T53_5_41 {C : Nat → List j_V → j_H → Option j_Z} {L : Nat} {m : j_M0} {x1 : Int} {s0 : Int} : j_fin C 53 5 [some (jR 41), some (jI x1), none] [jI s0] (hH L m) = if s0 < 0 then some (some (jL 0), hH L m) else if 0 ≤ s0 ∧ s0 < 20 then some (some (jL (m 45 s0.toNat)), hH L m) else none := by
  refine (S_istore_n (l1 := [some (jR 41), some (jI x1), some (jI s0)]) rfl at_53_5).trans ?_
  refine (S_iload_n rfl at_53_6).trans ?_
  refine (S_if_ge at_53_7).trans ?_
  refine ite_congr rfl (fun _ => ?_) (fun _ => ?_)
  · refine (S_lconst at_53_10).trans ?_
    refine (S_goto at_53_11).trans ?_
    exact S_lret rfl at_53_20
  · refine (S_aload_n rfl at_53_14).trans ?_
    refine (S_getR (ka_41 L _) rfl (f_41_8 L _) at_53_15).trans ?_
    refine (S_iload_n rfl at_53_18).trans ?_
    refine (H_laload (ka_45 L _) at_53_19).trans ?_
    refine ite_congr rfl (fun hi => ?_) (fun _ => rfl)
    exact S_lret rfl at_53_20
theorem T53_0_55 {C : Nat → List j_V → j_H → Option j_Z} {L : Nat} {m : j_M0} {x1 : Int} : j_fin C 53 0 [some (jR 55), some (jI x1), none] [] (hH L m) = (C 52 [jR 55, jI x1] (hH L m)).bind fun z => j_fin C 53 5 [some (jR 55), some (jI x1), none] (z.1.toList ++ []) z.2 := by
  refine (S_aload_n rfl at_53_0).trans ?_
  refine (S_iload_n rfl at_53_1).trans ?_
  refine (S_invv (b := 1) kn_52 rfl (ka_55 L _) (Nat.le_of_ble_eq_true rfl) at_53_2).trans ?_
  rfl
theorem T53_5_55 {C : Nat → List j_V → j_H → Option j_Z} {L : Nat} {m : j_M0} {x1 : Int} {s0 : Int} : j_fin C 53 5 [some (jR 55), some (jI x1), none] [jI s0] (hH L m) = if s0 < 0 then some (some (jL 0), hH L m) else if 0 ≤ s0 ∧ s0 < 20 then some (some (jL (m 59 s0.toNat)), hH L m) else none := by
  refine (S_istore_n (l1 := [some (jR 55), some (jI x1), some (jI s0)]) rfl at_53_5).trans ?_
  refine (S_iload_n rfl at_53_6).trans ?_
  refine (S_if_ge at_53_7).trans ?_
  refine ite_congr rfl (fun _ => ?_) (fun _ => ?_)
  · refine (S_lconst at_53_10).trans ?_
    refine (S_goto at_53_11).trans ?_
    exact S_lret rfl at_53_20
  · refine (S_aload_n rfl at_53_14).trans ?_
    refine (S_getR (ka_55 L _) rfl (f_55_8 L _) at_53_15).trans ?_
    refine (S_iload_n rfl at_53_18).trans ?_
    refine (H_laload (ka_59 L _) at_53_19).trans ?_
    refine ite_congr rfl (fun hi => ?_) (fun _ => rfl)
    exact S_lret rfl at_53_20
theorem T53_0_71 {C : Nat → List j_V → j_H → Option j_Z} {L : Nat} {m : j_M0} {x1 : Int} : j_fin C 53 0 [some (jR 71), some (jI x1), none] [] (hH L m) = (C 52 [jR 71, jI x1] (hH L m)).bind fun z => j_fin C 53 5 [some (jR 71), some (jI x1), none] (z.1.toList ++ []) z.2 := by
  refine (S_aload_n rfl at_53_0).trans ?_
  refine (S_iload_n rfl at_53_1).trans ?_
  refine (S_invv (b := 1) kn_52 rfl (ka_71 L _) (Nat.le_of_ble_eq_true rfl) at_53_2).trans ?_
  rfl
theorem T53_5_71 {C : Nat → List j_V → j_H → Option j_Z} {L : Nat} {m : j_M0} {x1 : Int} {s0 : Int} : j_fin C 53 5 [some (jR 71), some (jI x1), none] [jI s0] (hH L m) = if s0 < 0 then some (some (jL 0), hH L m) else if 0 ≤ s0 ∧ s0 < 20 then some (some (jL (m 75 s0.toNat)), hH L m) else none := by
  refine (S_istore_n (l1 := [some (jR 71), some (jI x1), some (jI s0)]) rfl at_53_5).trans ?_
  refine (S_iload_n rfl at_53_6).trans ?_
  refine (S_if_ge at_53_7).trans ?_
  refine ite_congr rfl (fun _ => ?_) (fun _ => ?_)
  · refine (S_lconst at_53_10).trans ?_
    refine (S_goto at_53_11).trans ?_
    exact S_lret rfl at_53_20
  · refine (S_aload_n rfl at_53_14).trans ?_
    refine (S_getR (ka_71 L _) rfl (f_71_8 L _) at_53_15).trans ?_
    refine (S_iload_n rfl at_53_18).trans ?_
    refine (H_laload (ka_75 L _) at_53_19).trans ?_
    refine ite_congr rfl (fun hi => ?_) (fun _ => rfl)
    exact S_lret rfl at_53_20
theorem T54_0_41 {C : Nat → List j_V → j_H → Option j_Z} {L : Nat} {m : j_M0} {x1 : Int} : j_fin C 54 0 [some (jR 41), some (jI x1)] [] (hH L m) = (C 53 [jR 41, jI x1] (hH L m)).bind fun z => j_fin C 54 6 [some (jR 41), some (jI x1)] (z.1.toList ++ [jR 41]) z.2 := by
  refine (S_aload_n rfl at_54_0).trans ?_
  refine (S_aload_n rfl at_54_1).trans ?_
  refine (S_iload_n rfl at_54_2).trans ?_
  refine (S_invv (b := 1) kn_53 rfl (ka_41 L _) (Nat.le_of_ble_eq_true rfl) at_54_3).trans ?_
  rfl
theorem T54_6_41 {C : Nat → List j_V → j_H → Option j_Z} {L : Nat} {m : j_M0} {x1 : Int} {t1 : Int} : j_fin C 54 6 [some (jR 41), some (jI x1)] [jL t1, jR 41] (hH L m) = (C 44 [jR 41, jL t1] (hH L m)).bind fun z => j_fin C 54 9 [some (jR 41), some (jI x1)] (z.1.toList ++ []) z.2 := by
  refine (S_invv (b := 1) kn_44 rfl (ka_41 L _) (Nat.le_of_ble_eq_true rfl) at_54_6).trans ?_
  rfl
theorem T54_9_41 {C : Nat → List j_V → j_H → Option j_Z} {L : Nat} {m : j_M0} {x1 : Int} {t0 : Int} : j_fin C 54 9 [some (jR 41), some (jI x1)] [jL t0] (hH L m) = some (some (jL t0), hH L m) := by
  exact S_lret rfl at_54_9
theorem T54_0_55 {C : Nat → List j_V → j_H → Option j_Z} {L : Nat} {m : j_M0} {x1 : Int} : j_fin C 54 0 [some (jR 55), some (jI x1)] [] (hH L m) = (C 53 [jR 55, jI x1] (hH L m)).bind fun z => j_fin C 54 6 [some (jR 55), some (jI x1)] (z.1.toList ++ [jR 55]) z.2 := by
  refine (S_aload_n rfl at_54_0).trans ?_
  refine (S_aload_n rfl at_54_1).trans ?_
  refine (S_iload_n rfl at_54_2).trans ?_
  refine (S_invv (b := 1) kn_53 rfl (ka_55 L _) (Nat.le_of_ble_eq_true rfl) at_54_3).trans ?_
  rfl
theorem T54_6_55 {C : Nat → List j_V → j_H → Option j_Z} {L : Nat} {m : j_M0} {x1 : Int} {t1 : Int} : j_fin C 54 6 [some (jR 55), some (jI x1)] [jL t1, jR 55] (hH L m) = (C 44 [jR 55, jL t1] (hH L m)).bind fun z => j_fin C 54 9 [some (jR 55), some (jI x1)] (z.1.toList ++ []) z.2 := by
  refine (S_invv (b := 1) kn_44 rfl (ka_55 L _) (Nat.le_of_ble_eq_true rfl) at_54_6).trans ?_
  rfl
theorem T54_9_55 {C : Nat → List j_V → j_H → Option j_Z} {L : Nat} {m : j_M0} {x1 : Int} {t0 : Int} : j_fin C 54 9 [some (jR 55), some (jI x1)] [jL t0] (hH L m) = some (some (jL t0), hH L m) := by
  exact S_lret rfl at_54_9
theorem T54_0_71 {C : Nat → List j_V → j_H → Option j_Z} {L : Nat} {m : j_M0} {x1 : Int} : j_fin C 54 0 [some (jR 71), some (jI x1)] [] (hH L m) = (C 53 [jR 71, jI x1] (hH L m)).bind fun z => j_fin C 54 6 [some (jR 71), some (jI x1)] (z.1.toList ++ [jR 71]) z.2 := by
  refine (S_aload_n rfl at_54_0).trans ?_
  refine (S_aload_n rfl at_54_1).trans ?_
  refine (S_iload_n rfl at_54_2).trans ?_
  refine (S_invv (b := 1) kn_53 rfl (ka_71 L _) (Nat.le_of_ble_eq_true rfl) at_54_3).trans ?_
  rfl
theorem T54_6_71 {C : Nat → List j_V → j_H → Option j_Z} {L : Nat} {m : j_M0} {x1 : Int} {t1 : Int} : j_fin C 54 6 [some (jR 71), some (jI x1)] [jL t1, jR 71] (hH L m) = (C 44 [jR 71, jL t1] (hH L m)).bind fun z => j_fin C 54 9 [some (jR 71), some (jI x1)] (z.1.toList ++ []) z.2 := by
  refine (S_invv (b := 1) kn_44 rfl (ka_71 L _) (Nat.le_of_ble_eq_true rfl) at_54_6).trans ?_
  rfl
theorem T54_9_71 {C : Nat → List j_V → j_H → Option j_Z} {L : Nat} {m : j_M0} {x1 : Int} {t0 : Int} : j_fin C 54 9 [some (jR 71), some (jI x1)] [jL t0] (hH L m) = some (some (jL t0), hH L m) := by
  exact S_lret rfl at_54_9
theorem T55_0 {C : Nat → List j_V → j_H → Option j_Z} {L : Nat} {m : j_M0} {x1 : Int} : j_fin C 55 0 [some (jR 41), some (jI x1), none] [] (hH L m) = j_fin C 55 2 [some (jR 41), some (jI x1), some (jI 0)] [] (hH L m) := by
  refine (S_iconst at_55_0).trans ?_
  refine (S_istore_n (l1 := [some (jR 41), some (jI x1), some (jI 0)]) rfl at_55_1).trans ?_
  rfl
theorem T55_2 {C : Nat → List j_V → j_H → Option j_Z} {L : Nat} {m : j_M0} {x1 : Int} {x2 : Int} : j_fin C 55 2 [some (jR 41), some (jI x1), some (jI x2)] [] (hH L m) = if x2 < (m 41 1) then if 0 ≤ x2 ∧ x2 < 5 then if (m 43 x2.toNat) = x1 then if 0 ≤ x2 ∧ x2 < 5 then some (some (jL (m 46 x2.toNat)), hH L m) else none else j_fin C 55 2 [some (jR 41), some (jI x1), some (jI (w32 (x2 + 1)))] [] (hH L m) else none else some (some (jL 0), hH L m) := by
  refine (S_iload_n rfl at_55_2).trans ?_
  refine (S_aload_n rfl at_55_3).trans ?_
  refine (H_get0 (ka_41 L _) rfl at_55_4).trans ?_
  refine (S_icmp_ge at_55_7).trans ?_
  refine ite_congr rfl (fun _ => ?_) (fun _ => ?_)
  · refine (S_aload_n rfl at_55_10).trans ?_
    refine (S_getR (ka_41 L _) rfl (f_41_6 L _) at_55_11).trans ?_
    refine (S_iload_n rfl at_55_14).trans ?_
    refine (H_iaload (ka_43 L _) at_55_15).trans ?_
    refine ite_congr rfl (fun hi => ?_) (fun _ => rfl)
    refine (S_iload_n rfl at_55_16).trans ?_
    refine (S_icmp_ne at_55_17).trans ?_
    refine ite_congr rfl (fun _ => ?_) (fun _ => ?_)
    · refine (S_aload_n rfl at_55_20).trans ?_
      refine (S_getR (ka_41 L _) rfl (f_41_9 L _) at_55_21).trans ?_
      refine (S_iload_n rfl at_55_24).trans ?_
      refine (H_laload (ka_46 L _) at_55_25).trans ?_
      refine ite_congr rfl (fun hi => ?_) (fun _ => rfl)
      exact S_lret rfl at_55_26
    · refine (S_iinc (l1 := [some (jR 41), some (jI x1), some (jI (w32 (x2 + 1)))]) rfl rfl at_55_27).trans ?_
      refine (S_goto at_55_30).trans ?_
      rfl
  · refine (S_lconst at_55_33).trans ?_
    exact S_lret rfl at_55_34
theorem T56_0_41 {C : Nat → List j_V → j_H → Option j_Z} {L : Nat} {m : j_M0} : j_fin C 56 0 [some (jR 41), none] [] (hH L m) = j_fin C 56 2 [some (jR 41), some (jI 0)] [] (hH L m) := by
  refine (S_iconst at_56_0).trans ?_
  refine (S_istore_n (l1 := [some (jR 41), some (jI 0)]) rfl at_56_1).trans ?_
  rfl
theorem T56_2_41 {C : Nat → List j_V → j_H → Option j_Z} {L : Nat} {m : j_M0} {x1 : Int} : j_fin C 56 2 [some (jR 41), some (jI x1)] [] (hH L m) = if x1 < (m 41 0) then if 0 ≤ x1 ∧ x1 < 20 then if (m 42 x1.toNat) < 10 then if 0 ≤ x1 ∧ x1 < 20 then (C 43 [jR 41, jL (m 45 x1.toNat)] (hH L m)).bind fun z => j_fin C 56 31 [some (jR 41), some (jI x1)] (z.1.toList ++ []) z.2 else none else j_fin C 56 2 [some (jR 41), some (jI (w32 (x1 + 1)))] [] (hH L m) else none else some (some (jI (-1)), hH L m) := by
  refine (S_iload_n rfl at_56_2).trans ?_
  refine (S_aload_n rfl at_56_3).trans ?_
  refine (H_get0 (ka_41 L _) rfl at_56_4).trans ?_
  refine (S_icmp_ge at_56_7).trans ?_
  refine ite_congr rfl (fun _ => ?_) (fun _ => ?_)
  · refine (S_aload_n rfl at_56_10).trans ?_
    refine (S_getR (ka_41 L _) rfl (f_41_5 L _) at_56_11).trans ?_
    refine (S_iload_n rfl at_56_14).trans ?_
    refine (H_iaload (ka_42 L _) at_56_15).trans ?_
    refine ite_congr rfl (fun hi => ?_) (fun _ => rfl)
    refine (S_bipush at_56_16).trans ?_
    refine (S_icmp_ge at_56_18).trans ?_
    refine ite_congr rfl (fun _ => ?_) (fun _ => ?_)
    · refine (S_aload_n rfl at_56_21).trans ?_
      refine (S_aload_n rfl at_56_22).trans ?_
      refine (S_getR (ka_41 L _) rfl (f_41_8 L _) at_56_23).trans ?_
      refine (S_iload_n rfl at_56_26).trans ?_
      refine (H_laload (ka_45 L _) at_56_27).trans ?_
      refine ite_congr rfl (fun hi => ?_) (fun _ => rfl)
      refine (S_invv (b := 1) kn_43 rfl (ka_41 L _) (Nat.le_of_ble_eq_true rfl) at_56_28).trans ?_
      rfl
    · refine (S_iinc (l1 := [some (jR 41), some (jI (w32 (x1 + 1)))]) rfl rfl at_56_38).trans ?_
      refine (S_goto at_56_41).trans ?_
      rfl
  · refine (S_iconst at_56_44).trans ?_
    exact S_ireti rfl at_56_45
theorem T56_31_41 {C : Nat → List j_V → j_H → Option j_Z} {L : Nat} {m : j_M0} {x1 : Int} {t0 : Int} : j_fin C 56 31 [some (jR 41), some (jI x1)] [jL t0] (hH L m) = if (j_cmp t0 0) = 0 then j_fin C 56 2 [some (jR 41), some (jI (w32 (x1 + 1)))] [] (hH L m) else some (some (jI x1), hH L m) := by
  refine (S_lconst at_56_31).trans ?_
  refine (S_lcmp at_56_32).trans ?_
  refine (S_if_eq at_56_33).trans ?_
  refine ite_congr rfl (fun _ => ?_) (fun _ => ?_)
  · refine (S_iinc (l1 := [some (jR 41), some (jI (w32 (x1 + 1)))]) rfl rfl at_56_38).trans ?_
    refine (S_goto at_56_41).trans ?_
    rfl
  · refine (S_iload_n rfl at_56_36).trans ?_
    exact S_ireti rfl at_56_37
theorem T56_0_55 {C : Nat → List j_V → j_H → Option j_Z} {L : Nat} {m : j_M0} : j_fin C 56 0 [some (jR 55), none] [] (hH L m) = j_fin C 56 2 [some (jR 55), some (jI 0)] [] (hH L m) := by
  refine (S_iconst at_56_0).trans ?_
  refine (S_istore_n (l1 := [some (jR 55), some (jI 0)]) rfl at_56_1).trans ?_
  rfl
theorem T56_2_55 {C : Nat → List j_V → j_H → Option j_Z} {L : Nat} {m : j_M0} {x1 : Int} : j_fin C 56 2 [some (jR 55), some (jI x1)] [] (hH L m) = if x1 < (m 55 0) then if 0 ≤ x1 ∧ x1 < 20 then if (m 56 x1.toNat) < 10 then if 0 ≤ x1 ∧ x1 < 20 then (C 43 [jR 55, jL (m 59 x1.toNat)] (hH L m)).bind fun z => j_fin C 56 31 [some (jR 55), some (jI x1)] (z.1.toList ++ []) z.2 else none else j_fin C 56 2 [some (jR 55), some (jI (w32 (x1 + 1)))] [] (hH L m) else none else some (some (jI (-1)), hH L m) := by
  refine (S_iload_n rfl at_56_2).trans ?_
  refine (S_aload_n rfl at_56_3).trans ?_
  refine (H_get0 (ka_55 L _) rfl at_56_4).trans ?_
  refine (S_icmp_ge at_56_7).trans ?_
  refine ite_congr rfl (fun _ => ?_) (fun _ => ?_)
  · refine (S_aload_n rfl at_56_10).trans ?_
    refine (S_getR (ka_55 L _) rfl (f_55_5 L _) at_56_11).trans ?_
    refine (S_iload_n rfl at_56_14).trans ?_
    refine (H_iaload (ka_56 L _) at_56_15).trans ?_
    refine ite_congr rfl (fun hi => ?_) (fun _ => rfl)
    refine (S_bipush at_56_16).trans ?_
    refine (S_icmp_ge at_56_18).trans ?_
    refine ite_congr rfl (fun _ => ?_) (fun _ => ?_)
    · refine (S_aload_n rfl at_56_21).trans ?_
      refine (S_aload_n rfl at_56_22).trans ?_
      refine (S_getR (ka_55 L _) rfl (f_55_8 L _) at_56_23).trans ?_
      refine (S_iload_n rfl at_56_26).trans ?_
      refine (H_laload (ka_59 L _) at_56_27).trans ?_
      refine ite_congr rfl (fun hi => ?_) (fun _ => rfl)
      refine (S_invv (b := 1) kn_43 rfl (ka_55 L _) (Nat.le_of_ble_eq_true rfl) at_56_28).trans ?_
      rfl
    · refine (S_iinc (l1 := [some (jR 55), some (jI (w32 (x1 + 1)))]) rfl rfl at_56_38).trans ?_
      refine (S_goto at_56_41).trans ?_
      rfl
  · refine (S_iconst at_56_44).trans ?_
    exact S_ireti rfl at_56_45
theorem T56_31_55 {C : Nat → List j_V → j_H → Option j_Z} {L : Nat} {m : j_M0} {x1 : Int} {t0 : Int} : j_fin C 56 31 [some (jR 55), some (jI x1)] [jL t0] (hH L m) = if (j_cmp t0 0) = 0 then j_fin C 56 2 [some (jR 55), some (jI (w32 (x1 + 1)))] [] (hH L m) else some (some (jI x1), hH L m) := by
  refine (S_lconst at_56_31).trans ?_
  refine (S_lcmp at_56_32).trans ?_
  refine (S_if_eq at_56_33).trans ?_
  refine ite_congr rfl (fun _ => ?_) (fun _ => ?_)
  · refine (S_iinc (l1 := [some (jR 55), some (jI (w32 (x1 + 1)))]) rfl rfl at_56_38).trans ?_
    refine (S_goto at_56_41).trans ?_
    rfl
  · refine (S_iload_n rfl at_56_36).trans ?_
    exact S_ireti rfl at_56_37
theorem T57_0 {C : Nat → List j_V → j_H → Option j_Z} {L : Nat} {m : j_M0} : j_fin C 57 0 [some (jR 71), none] [] (hH L m) = j_fin C 57 2 [some (jR 71), some (jI 0)] [] (hH L m) := by
  refine (S_iconst at_57_0).trans ?_
  refine (S_istore_n (l1 := [some (jR 71), some (jI 0)]) rfl at_57_1).trans ?_
  rfl
theorem T57_2 {C : Nat → List j_V → j_H → Option j_Z} {L : Nat} {m : j_M0} {x1 : Int} : j_fin C 57 2 [some (jR 71), some (jI x1)] [] (hH L m) = if x1 < (m 71 1) then (C 53 [jR 71, jI x1] (hH L m)).bind fun z => j_fin C 57 16 [some (jR 71), some (jI x1)] (z.1.toList ++ [jR 71]) z.2 else some (some (jI (-1)), hH L m) := by
  refine (S_iload_n rfl at_57_2).trans ?_
  refine (S_aload_n rfl at_57_3).trans ?_
  refine (H_get0 (ka_71 L _) rfl at_57_4).trans ?_
  refine (S_icmp_ge at_57_7).trans ?_
  refine ite_congr rfl (fun _ => ?_) (fun _ => ?_)
  · refine (S_aload_n rfl at_57_10).trans ?_
    refine (S_aload_n rfl at_57_11).trans ?_
    refine (S_iload_n rfl at_57_12).trans ?_
    refine (S_invv (b := 1) kn_53 rfl (ka_71 L _) (Nat.le_of_ble_eq_true rfl) at_57_13).trans ?_
    rfl
  · refine (S_iconst at_57_32).trans ?_
    exact S_ireti rfl at_57_33
theorem T57_16 {C : Nat → List j_V → j_H → Option j_Z} {L : Nat} {m : j_M0} {x1 : Int} {t1 : Int} : j_fin C 57 16 [some (jR 71), some (jI x1)] [jL t1, jR 71] (hH L m) = (C 43 [jR 71, jL t1] (hH L m)).bind fun z => j_fin C 57 19 [some (jR 71), some (jI x1)] (z.1.toList ++ []) z.2 := by
  refine (S_invv (b := 1) kn_43 rfl (ka_71 L _) (Nat.le_of_ble_eq_true rfl) at_57_16).trans ?_
  rfl
theorem T57_19 {C : Nat → List j_V → j_H → Option j_Z} {L : Nat} {m : j_M0} {x1 : Int} {t0 : Int} : j_fin C 57 19 [some (jR 71), some (jI x1)] [jL t0] (hH L m) = if (j_cmp t0 0) = 0 then j_fin C 57 2 [some (jR 71), some (jI (w32 (x1 + 1)))] [] (hH L m) else some (some (jI x1), hH L m) := by
  refine (S_lconst at_57_19).trans ?_
  refine (S_lcmp at_57_20).trans ?_
  refine (S_if_eq at_57_21).trans ?_
  refine ite_congr rfl (fun _ => ?_) (fun _ => ?_)
  · refine (S_iinc (l1 := [some (jR 71), some (jI (w32 (x1 + 1)))]) rfl rfl at_57_26).trans ?_
    refine (S_goto at_57_29).trans ?_
    rfl
  · refine (S_iload_n rfl at_57_24).trans ?_
    exact S_ireti rfl at_57_25
theorem T58_0 {C : Nat → List j_V → j_H → Option j_Z} {L : Nat} {m : j_M0} {x1 : Int} {x2 : Int} : j_fin C 58 0 [some (jR 41), some (jI x1), some (jI x2)] [] (hH L m) = if x2 = (m 41 1) then if 0 ≤ x1 ∧ x1 < 20 then some (some (jL (m 45 x1.toNat)), hH L m) else none else if (m 41 1) < x2 then if 0 ≤ x1 ∧ x1 < 20 then some (some (jL (m 42 x1.toNat)), hH L m) else none else if 0 ≤ (w32 ((w32 (x1 * 5)) + x2)) ∧ (w32 ((w32 (x1 * 5)) + x2)) < 100 then some (some (jL (m 44 (w32 ((w32 (x1 * 5)) + x2)).toNat)), hH L m) else none := by
  refine (S_iload_n rfl at_58_0).trans ?_
  refine (S_aload_n rfl at_58_1).trans ?_
  refine (H_get0 (ka_41 L _) rfl at_58_2).trans ?_
  refine (S_icmp_ne at_58_5).trans ?_
  refine ite_congr rfl (fun _ => ?_) (fun _ => ?_)
  · refine (S_aload_n rfl at_58_8).trans ?_
    refine (S_getR (ka_41 L _) rfl (f_41_8 L _) at_58_9).trans ?_
    refine (S_iload_n rfl at_58_12).trans ?_
    refine (H_laload (ka_45 L _) at_58_13).trans ?_
    refine ite_congr rfl (fun hi => ?_) (fun _ => rfl)
    exact S_lret rfl at_58_14
  · refine (S_iload_n rfl at_58_15).trans ?_
    refine (S_aload_n rfl at_58_16).trans ?_
    refine (H_get0 (ka_41 L _) rfl at_58_17).trans ?_
    refine (S_icmp_le at_58_20).trans ?_
    refine ite_congr rfl (fun _ => ?_) (fun _ => ?_)
    · refine (S_aload_n rfl at_58_23).trans ?_
      refine (S_getR (ka_41 L _) rfl (f_41_5 L _) at_58_24).trans ?_
      refine (S_iload_n rfl at_58_27).trans ?_
      refine (H_iaload (ka_42 L _) at_58_28).trans ?_
      refine ite_congr rfl (fun hi => ?_) (fun _ => rfl)
      refine (S_i2l at_58_29).trans ?_
      refine (S_goto at_58_30).trans ?_
      exact S_lret rfl at_58_43
    · refine (S_aload_n rfl at_58_33).trans ?_
      refine (S_getR (ka_41 L _) rfl (f_41_7 L _) at_58_34).trans ?_
      refine (S_iload_n rfl at_58_37).trans ?_
      refine (S_iconst at_58_38).trans ?_
      refine (S_imul at_58_39).trans ?_
      refine (S_iload_n rfl at_58_40).trans ?_
      refine (S_iadd at_58_41).trans ?_
      refine (H_laload (ka_44 L _) at_58_42).trans ?_
      refine ite_congr rfl (fun hi => ?_) (fun _ => rfl)
      exact S_lret rfl at_58_43
theorem T59_0 {C : Nat → List j_V → j_H → Option j_Z} {L : Nat} {m : j_M0} {x1 : Int} : j_fin C 59 0 [some (jR 41), some (jI x1)] [] (hH L m) = if x1 = (m 41 1) then some (some (jL (m 41 3)), hH L m) else if (m 41 1) < x1 then some (some (jL (m 41 4)), hH L m) else if 0 ≤ x1 ∧ x1 < 5 then some (some (jL (m 46 x1.toNat)), hH L m) else none := by
  refine (S_iload_n rfl at_59_0).trans ?_
  refine (S_aload_n rfl at_59_1).trans ?_
  refine (H_get0 (ka_41 L _) rfl at_59_2).trans ?_
  refine (S_icmp_ne at_59_5).trans ?_
  refine ite_congr rfl (fun _ => ?_) (fun _ => ?_)
  · refine (S_aload_n rfl at_59_8).trans ?_
    refine (H_get1 (ka_41 L _) rfl at_59_9).trans ?_
    exact S_lret rfl at_59_12
  · refine (S_iload_n rfl at_59_13).trans ?_
    refine (S_aload_n rfl at_59_14).trans ?_
    refine (H_get0 (ka_41 L _) rfl at_59_15).trans ?_
    refine (S_icmp_le at_59_18).trans ?_
    refine ite_congr rfl (fun _ => ?_) (fun _ => ?_)
    · refine (S_aload_n rfl at_59_21).trans ?_
      refine (H_get1 (ka_41 L _) rfl at_59_22).trans ?_
      refine (S_goto at_59_25).trans ?_
      exact S_lret rfl at_59_34
    · refine (S_aload_n rfl at_59_28).trans ?_
      refine (S_getR (ka_41 L _) rfl (f_41_9 L _) at_59_29).trans ?_
      refine (S_iload_n rfl at_59_32).trans ?_
      refine (H_laload (ka_46 L _) at_59_33).trans ?_
      refine ite_congr rfl (fun hi => ?_) (fun _ => rfl)
      exact S_lret rfl at_59_34
theorem T61_0 {C : Nat → List j_V → j_H → Option j_Z} {L : Nat} {m : j_M0} {x1 : Int} {x2 : Int} {x3 : Int} : j_fin C 61 0 [some (jR 98), some (jI x1), some (jI x2), some (jI x3)] [] (hH L m) = if 0 ≤ x1 ∧ x1 < 6 then if 0 ≤ x1 ∧ x1 < 6 then if 0 ≤ x1 ∧ x1 < 6 then (C 269 [jR (102 + x1.toNat), jL 0] (hH L (j_up (j_up m 99 x1.toNat x2) 100 x1.toNat x3))).bind fun z => j_fin C 61 24 [some (jR 98), some (jI x1), some (jI x2), some (jI x3)] (z.1.toList ++ []) z.2 else none else none else none := by
  refine (S_aload_n rfl at_61_0).trans ?_
  refine (S_getR (ka_98 L _) rfl (f_98_0 L _) at_61_1).trans ?_
  refine (S_iload_n rfl at_61_4).trans ?_
  refine (S_iload_n rfl at_61_5).trans ?_
  refine (H_iastore (by omega) (ka_99 L _) at_61_6).trans ?_
  refine ite_congr rfl (fun hi => ?_) (fun _ => rfl)
  refine (S_aload_n rfl at_61_7).trans ?_
  refine (S_getR (ka_98 L _) rfl (f_98_1 L _) at_61_8).trans ?_
  refine (S_iload_n rfl at_61_11).trans ?_
  refine (S_iload_n rfl at_61_12).trans ?_
  refine (H_iastore (by omega) (ka_100 L _) at_61_13).trans ?_
  refine ite_congr rfl (fun hi => ?_) (fun _ => rfl)
  refine (S_aload_n rfl at_61_14).trans ?_
  refine (S_getR (ka_98 L _) rfl (f_98_2 L _) at_61_15).trans ?_
  refine (S_iload_n rfl at_61_18).trans ?_
  refine (H_tapes at_61_19).trans ?_
  refine ite_congr rfl (fun hi => ?_) (fun _ => rfl)
  refine (S_lconst at_61_20).trans ?_
  refine (S_invs (by decide) (Nat.le_of_ble_eq_true rfl) (Nat.le_of_ble_eq_true rfl) at_61_21).trans ?_
  rfl
theorem T61_24 {C : Nat → List j_V → j_H → Option j_Z} {L : Nat} {m : j_M0} {x1 : Int} {x2 : Int} {x3 : Int} : j_fin C 61 24 [some (jR 98), some (jI x1), some (jI x2), some (jI x3)] [] (hH L m) = some (none, hH L m) := by
  exact S_ret rfl at_61_24
theorem T62_0 {C : Nat → List j_V → j_H → Option j_Z} {L : Nat} {m : j_M0} {x1 : Int} {y2 : Int} : j_fin C 62 0 [some (jR 98), some (jI x1), some (jL y2), none] [] (hH L m) = if x1 = 0 then some (some (jL (w8 (w32 y2))), hH L m) else if x1 = 1 then some (some (jL (w16 (w32 y2))), hH L m) else if x1 = 2 then some (some (jL (w32 y2)), hH L m) else if x1 = 3 then some (some (jL y2), hH L m) else if x1 = 4 then if (j_cmp y2 0) = 0 then some (some (jL 0), hH L m) else some (some (jL 1), hH L m) else some (some (jL y2), hH L m) := by
  refine (S_iload_n rfl at_62_0).trans ?_
  refine (tsw_62_1 _).trans ?_
  refine ite_congr rfl (fun _ => ?_) (fun _ => ?_)
  · refine (S_lload_n rfl at_62_36).trans ?_
    refine (S_l2i at_62_37).trans ?_
    refine (S_i2b at_62_38).trans ?_
    refine (S_i2l at_62_39).trans ?_
    exact S_lret rfl at_62_40
  refine ite_congr rfl (fun _ => ?_) (fun _ => ?_)
  · refine (S_lload_n rfl at_62_41).trans ?_
    refine (S_l2i at_62_42).trans ?_
    refine (S_i2s at_62_43).trans ?_
    refine (S_i2l at_62_44).trans ?_
    exact S_lret rfl at_62_45
  refine ite_congr rfl (fun _ => ?_) (fun _ => ?_)
  · refine (S_lload_n rfl at_62_46).trans ?_
    refine (S_l2i at_62_47).trans ?_
    refine (S_i2l at_62_48).trans ?_
    exact S_lret rfl at_62_49
  refine ite_congr rfl (fun _ => ?_) (fun _ => ?_)
  · refine (S_lload_n rfl at_62_62).trans ?_
    exact S_lret rfl at_62_63
  refine ite_congr rfl (fun _ => ?_) (fun _ => ?_)
  · refine (S_lload_n rfl at_62_50).trans ?_
    refine (S_lconst at_62_51).trans ?_
    refine (S_lcmp at_62_52).trans ?_
    refine (S_if_eq at_62_53).trans ?_
    refine ite_congr rfl (fun _ => ?_) (fun _ => ?_)
    · refine (S_lconst at_62_60).trans ?_
      exact S_lret rfl at_62_61
    · refine (S_lconst at_62_56).trans ?_
      refine (S_goto at_62_57).trans ?_
      exact S_lret rfl at_62_61
  refine (S_lload_n rfl at_62_62).trans ?_
  exact S_lret rfl at_62_63
theorem T63_0 {C : Nat → List j_V → j_H → Option j_Z} {L : Nat} {m : j_M0} {x1 : Int} {x2 : Int} {x3 : Int} : j_fin C 63 0 [some (jR 98), some (jI x1), some (jI x2), some (jI x3)] [] (hH L m) = if x3 < 0 then some (some (jI 0), hH L m) else if x2 < 0 then some (some (jI 0), hH L m) else if 0 ≤ x1 ∧ x1 < 6 then if (m 100 x1.toNat) < x3 then some (some (jI 0), hH L m) else if 0 ≤ x1 ∧ x1 < 6 then if (w32 ((m 100 x1.toNat) - x3)) < x2 then some (some (jI 0), hH L m) else some (some (jI 1), hH L m) else none else none := by
  refine (S_iload_n rfl at_63_0).trans ?_
  refine (S_if_lt at_63_1).trans ?_
  refine ite_congr rfl (fun _ => ?_) (fun _ => ?_)
  · refine (S_iconst at_63_34).trans ?_
    exact (S_iretz rfl at_63_35).trans (if_pos (by decide))
  · refine (S_iload_n rfl at_63_4).trans ?_
    refine (S_if_lt at_63_5).trans ?_
    refine ite_congr rfl (fun _ => ?_) (fun _ => ?_)
    · refine (S_iconst at_63_34).trans ?_
      exact (S_iretz rfl at_63_35).trans (if_pos (by decide))
    · refine (S_iload_n rfl at_63_8).trans ?_
      refine (S_aload_n rfl at_63_9).trans ?_
      refine (S_getR (ka_98 L _) rfl (f_98_1 L _) at_63_10).trans ?_
      refine (S_iload_n rfl at_63_13).trans ?_
      refine (H_iaload (ka_100 L _) at_63_14).trans ?_
      refine ite_congr rfl (fun hi => ?_) (fun _ => rfl)
      refine (S_icmp_gt at_63_15).trans ?_
      refine ite_congr rfl (fun _ => ?_) (fun _ => ?_)
      · refine (S_iconst at_63_34).trans ?_
        exact (S_iretz rfl at_63_35).trans (if_pos (by decide))
      · refine (S_iload_n rfl at_63_18).trans ?_
        refine (S_aload_n rfl at_63_19).trans ?_
        refine (S_getR (ka_98 L _) rfl (f_98_1 L _) at_63_20).trans ?_
        refine (S_iload_n rfl at_63_23).trans ?_
        refine (H_iaload (ka_100 L _) at_63_24).trans ?_
        refine ite_congr rfl (fun hi => ?_) (fun _ => rfl)
        refine (S_iload_n rfl at_63_25).trans ?_
        refine (S_isub at_63_26).trans ?_
        refine (S_icmp_gt at_63_27).trans ?_
        refine ite_congr rfl (fun _ => ?_) (fun _ => ?_)
        · refine (S_iconst at_63_34).trans ?_
          exact (S_iretz rfl at_63_35).trans (if_pos (by decide))
        · refine (S_iconst at_63_30).trans ?_
          refine (S_goto at_63_31).trans ?_
          exact (S_iretz rfl at_63_35).trans (if_pos (by decide))
theorem T65_0 {C : Nat → List j_V → j_H → Option j_Z} {L : Nat} {m : j_M0} {x1 : Int} : j_fin C 65 0 [some (jR 93), some (jI x1), none] [] (hH L m) = j_fin C 65 17 [some (jR 93), some (jI x1), some (jI 0)] [] (hH L (j_up (j_up (j_up m 93 4 x1) 93 3 0) 93 1 0)) := by
  refine (S_aload_n rfl at_65_0).trans ?_
  refine (S_iload_n rfl at_65_1).trans ?_
  refine (H_put0 (ka_93 L _) rfl at_65_2).trans ?_
  refine (S_aload_n rfl at_65_5).trans ?_
  refine (S_iconst at_65_6).trans ?_
  refine (H_put0 (ka_93 L _) rfl at_65_7).trans ?_
  refine (S_aload_n rfl at_65_10).trans ?_
  refine (S_iconst at_65_11).trans ?_
  refine (H_put0 (ka_93 L _) rfl at_65_12).trans ?_
  refine (S_iconst at_65_15).trans ?_
  refine (S_istore_n (l1 := [some (jR 93), some (jI x1), some (jI 0)]) rfl at_65_16).trans ?_
  rfl
theorem T65_17 {C : Nat → List j_V → j_H → Option j_Z} {L : Nat} {m : j_M0} {x1 : Int} {x2 : Int} : j_fin C 65 17 [some (jR 93), some (jI x1), some (jI x2)] [] (hH L m) = if x2 < 4 then (C 70 [jR 93] (hH L m)).bind fun z => j_fin C 65 26 [some (jR 93), some (jI x1), some (jI x2)] (z.1.toList ++ []) z.2 else some (some (jI (m 93 3)), hH L m) := by
  refine (S_iload_n rfl at_65_17).trans ?_
  refine (S_iconst at_65_18).trans ?_
  refine (S_icmp_ge at_65_19).trans ?_
  refine ite_congr rfl (fun _ => ?_) (fun _ => ?_)
  · refine (S_aload_n rfl at_65_22).trans ?_
    refine (S_invv (b := 0) kn_70 rfl (ka_93 L _) (Nat.le_of_ble_eq_true rfl) at_65_23).trans ?_
    rfl
  · refine (S_aload_n rfl at_65_85).trans ?_
    refine (H_get0 (ka_93 L _) rfl at_65_86).trans ?_
    exact S_ireti rfl at_65_89
theorem T65_26 {C : Nat → List j_V → j_H → Option j_Z} {L : Nat} {m : j_M0} {x1 : Int} {x2 : Int} {s0 : Int} : j_fin C 65 26 [some (jR 93), some (jI x1), some (jI x2)] [jI s0] (hH L m) = if s0 = 0 then some (some (jI (m 93 3)), hH L m) else if ((j_up m 93 1 (w32 ((m 93 1) + 1))) 93 3) < ((j_up m 93 1 (w32 ((m 93 1) + 1))) 93 0) then if ((j_up m 93 1 (w32 ((m 93 1) + 1))) 93 1) = 4 then some (some (jI ((j_up m 93 1 (w32 ((m 93 1) + 1))) 93 3)), hH L (j_up m 93 1 (w32 ((m 93 1) + 1)))) else (C 68 [jR 93, jI 59] (hH L (j_up m 93 1 (w32 ((m 93 1) + 1))))).bind fun z => j_fin C 65 71 [some (jR 93), some (jI x1), some (jI x2)] (z.1.toList ++ []) z.2 else some (some (jI (-1)), hH L (j_up m 93 1 (w32 ((m 93 1) + 1)))) := by
  refine (S_if_ne at_65_26).trans ?_
  refine ite_congr rfl (fun _ => ?_) (fun _ => ?_)
  · refine (S_aload_n rfl at_65_29).trans ?_
    refine (H_get0 (ka_93 L _) rfl at_65_30).trans ?_
    exact S_ireti rfl at_65_33
  · refine (S_aload_n rfl at_65_34).trans ?_
    refine (S_dup rfl at_65_35).trans ?_
    refine (H_get0 (ka_93 L _) rfl at_65_36).trans ?_
    refine (S_iconst at_65_39).trans ?_
    refine (S_iadd at_65_40).trans ?_
    refine (H_put0 (ka_93 L _) rfl at_65_41).trans ?_
    refine (S_aload_n rfl at_65_44).trans ?_
    refine (H_get0 (ka_93 L _) rfl at_65_45).trans ?_
    refine (S_aload_n rfl at_65_48).trans ?_
    refine (H_get0 (ka_93 L _) rfl at_65_49).trans ?_
    refine (S_icmp_lt at_65_52).trans ?_
    refine ite_congr rfl (fun _ => ?_) (fun _ => ?_)
    · refine (S_aload_n rfl at_65_57).trans ?_
      refine (H_get0 (ka_93 L _) rfl at_65_58).trans ?_
      refine (S_iconst at_65_61).trans ?_
      refine (S_icmp_eq at_65_62).trans ?_
      refine ite_congr rfl (fun _ => ?_) (fun _ => ?_)
      · refine (S_aload_n rfl at_65_74).trans ?_
        refine (H_get0 (ka_93 L _) rfl at_65_75).trans ?_
        exact S_ireti rfl at_65_78
      · refine (S_aload_n rfl at_65_65).trans ?_
        refine (S_bipush at_65_66).trans ?_
        refine (S_invv (b := 1) kn_68 rfl (ka_93 L _) (Nat.le_of_ble_eq_true rfl) at_65_68).trans ?_
        rfl
    · refine (S_iconst at_65_55).trans ?_
      exact S_ireti rfl at_65_56
theorem T65_71 {C : Nat → List j_V → j_H → Option j_Z} {L : Nat} {m : j_M0} {x1 : Int} {x2 : Int} {s0 : Int} : j_fin C 65 71 [some (jR 93), some (jI x1), some (jI x2)] [jI s0] (hH L m) = if s0 = 0 then some (some (jI (m 93 3)), hH L m) else j_fin C 65 17 [some (jR 93), some (jI x1), some (jI (w32 (x2 + 1)))] [] (hH L m) := by
  refine (S_if_ne at_65_71).trans ?_
  refine ite_congr rfl (fun _ => ?_) (fun _ => ?_)
  · refine (S_aload_n rfl at_65_74).trans ?_
    refine (H_get0 (ka_93 L _) rfl at_65_75).trans ?_
    exact S_ireti rfl at_65_78
  · refine (S_iinc (l1 := [some (jR 93), some (jI x1), some (jI (w32 (x2 + 1)))]) rfl rfl at_65_79).trans ?_
    refine (S_goto at_65_82).trans ?_
    rfl
theorem T66_0 {C : Nat → List j_V → j_H → Option j_Z} {L : Nat} {m : j_M0} : j_fin C 66 0 [some (jR 93), some (jR 4), none, none] [] (hH L m) = j_fin C 66 2 [some (jR 93), some (jR 4), some (jI 0), none] [] (hH L m) := by
  refine (S_iconst at_66_0).trans ?_
  refine (S_istore_n (l1 := [some (jR 93), some (jR 4), some (jI 0), none]) rfl at_66_1).trans ?_
  rfl
theorem T66_2 {C : Nat → List j_V → j_H → Option j_Z} {L : Nat} {m : j_M0} {x2 : Int} {o3 : Option j_V} : j_fin C 66 2 [some (jR 93), some (jR 4), some (jI x2), o3] [] (hH L m) = if x2 < (m 93 1) then if 0 ≤ x2 ∧ x2 < 4 then if 0 ≤ x2 ∧ x2 < 4 then (C 10 [jR 4, jI (m 95 x2.toNat), jI (m 96 x2.toNat)] (hH L m)).bind fun z => j_fin C 66 26 [some (jR 93), some (jR 4), some (jI x2), o3] (z.1.toList ++ []) z.2 else none else none else some (none, hH L m) := by
  refine (S_iload_n rfl at_66_2).trans ?_
  refine (S_aload_n rfl at_66_3).trans ?_
  refine (H_get0 (ka_93 L _) rfl at_66_4).trans ?_
  refine (S_icmp_ge at_66_7).trans ?_
  refine ite_congr rfl (fun _ => ?_) (fun _ => ?_)
  · refine (S_aload_n rfl at_66_10).trans ?_
    refine (S_aload_n rfl at_66_11).trans ?_
    refine (S_getR (ka_93 L _) rfl (f_93_5 L _) at_66_12).trans ?_
    refine (S_iload_n rfl at_66_15).trans ?_
    refine (H_iaload (ka_95 L _) at_66_16).trans ?_
    refine ite_congr rfl (fun hi => ?_) (fun _ => rfl)
    refine (S_aload_n rfl at_66_17).trans ?_
    refine (S_getR (ka_93 L _) rfl (f_93_6 L _) at_66_18).trans ?_
    refine (S_iload_n rfl at_66_21).trans ?_
    refine (H_iaload (ka_96 L _) at_66_22).trans ?_
    refine ite_congr rfl (fun hi => ?_) (fun _ => rfl)
    refine (S_invv (b := 2) kn_10 rfl (ka_4 L _) (Nat.le_of_ble_eq_true rfl) at_66_23).trans ?_
    rfl
  · exact S_ret rfl at_66_69
theorem T66_26 {C : Nat → List j_V → j_H → Option j_Z} {L : Nat} {m : j_M0} {x2 : Int} {o3 : Option j_V} : j_fin C 66 26 [some (jR 93), some (jR 4), some (jI x2), o3] [] (hH L m) = j_fin C 66 28 [some (jR 93), some (jR 4), some (jI x2), some (jI 0)] [] (hH L m) := by
  refine (S_iconst at_66_26).trans ?_
  refine (S_istore_n (l1 := [some (jR 93), some (jR 4), some (jI x2), some (jI 0)]) rfl at_66_27).trans ?_
  rfl
theorem T66_28 {C : Nat → List j_V → j_H → Option j_Z} {L : Nat} {m : j_M0} {x2 : Int} {x3 : Int} : j_fin C 66 28 [some (jR 93), some (jR 4), some (jI x2), some (jI x3)] [] (hH L m) = if x3 < (m 4 0) then if 0 ≤ (w32 ((w32 (x2 * 5)) + x3)) ∧ (w32 ((w32 (x2 * 5)) + x3)) < 20 then (C 12 [jR 4, jI (w32 ((m 4 1) - 1)), jI x3, jI (m 97 (w32 ((w32 (x2 * 5)) + x3)).toNat)] (hH L m)).bind fun z => j_fin C 66 57 [some (jR 93), some (jR 4), some (jI x2), some (jI x3)] (z.1.toList ++ []) z.2 else none else j_fin C 66 2 [some (jR 93), some (jR 4), some (jI (w32 (x2 + 1))), some (jI x3)] [] (hH L m) := by
  refine (S_iload_n rfl at_66_28).trans ?_
  refine (S_aload_n rfl at_66_29).trans ?_
  refine (H_get0 (ka_4 L _) rfl at_66_30).trans ?_
  refine (S_icmp_ge at_66_33).trans ?_
  refine ite_congr rfl (fun _ => ?_) (fun _ => ?_)
  · refine (S_aload_n rfl at_66_36).trans ?_
    refine (S_aload_n rfl at_66_37).trans ?_
    refine (H_get0 (ka_4 L _) rfl at_66_38).trans ?_
    refine (S_iconst at_66_41).trans ?_
    refine (S_isub at_66_42).trans ?_
    refine (S_iload_n rfl at_66_43).trans ?_
    refine (S_aload_n rfl at_66_44).trans ?_
    refine (S_getR (ka_93 L _) rfl (f_93_7 L _) at_66_45).trans ?_
    refine (S_iload_n rfl at_66_48).trans ?_
    refine (S_iconst at_66_49).trans ?_
    refine (S_imul at_66_50).trans ?_
    refine (S_iload_n rfl at_66_51).trans ?_
    refine (S_iadd at_66_52).trans ?_
    refine (H_iaload (ka_97 L _) at_66_53).trans ?_
    refine ite_congr rfl (fun hi => ?_) (fun _ => rfl)
    refine (S_invv (b := 3) kn_12 rfl (ka_4 L _) (Nat.le_of_ble_eq_true rfl) at_66_54).trans ?_
    rfl
  · refine (S_iinc (l1 := [some (jR 93), some (jR 4), some (jI (w32 (x2 + 1))), some (jI x3)]) rfl rfl at_66_63).trans ?_
    refine (S_goto at_66_66).trans ?_
    rfl
theorem T66_57 {C : Nat → List j_V → j_H → Option j_Z} {L : Nat} {m : j_M0} {x2 : Int} {x3 : Int} : j_fin C 66 57 [some (jR 93), some (jR 4), some (jI x2), some (jI x3)] [] (hH L m) = j_fin C 66 28 [some (jR 93), some (jR 4), some (jI x2), some (jI (w32 (x3 + 1)))] [] (hH L m) := by
  refine (S_iinc (l1 := [some (jR 93), some (jR 4), some (jI x2), some (jI (w32 (x3 + 1)))]) rfl rfl at_66_57).trans ?_
  refine (S_goto at_66_60).trans ?_
  rfl
theorem T67_0 {C : Nat → List j_V → j_H → Option j_Z} {L : Nat} {m : j_M0} : j_fin C 67 0 [some (jR 93)] [] (hH L m) = if (m 93 3) < (m 93 0) then if 0 ≤ (m 93 3) ∧ (m 93 3) < 80 then some (some (jI (m 94 (m 93 3).toNat)), hH L m) else none else some (some (jI (-1)), hH L m) := by
  refine (S_aload_n rfl at_67_0).trans ?_
  refine (H_get0 (ka_93 L _) rfl at_67_1).trans ?_
  refine (S_aload_n rfl at_67_4).trans ?_
  refine (H_get0 (ka_93 L _) rfl at_67_5).trans ?_
  refine (S_icmp_ge at_67_8).trans ?_
  refine ite_congr rfl (fun _ => ?_) (fun _ => ?_)
  · refine (S_aload_n rfl at_67_11).trans ?_
    refine (S_getR (ka_93 L _) rfl (f_93_2 L _) at_67_12).trans ?_
    refine (S_aload_n rfl at_67_15).trans ?_
    refine (H_get0 (ka_93 L _) rfl at_67_16).trans ?_
    refine (H_baload34 (ka_94 L _) at_67_19).trans ?_
    refine ite_congr rfl (fun hi => ?_) (fun _ => rfl)
    refine (S_goto at_67_20).trans ?_
    exact S_ireti rfl at_67_24
  · refine (S_iconst at_67_23).trans ?_
    exact S_ireti rfl at_67_24
theorem T68_0 {C : Nat → List j_V → j_H → Option j_Z} {L : Nat} {m : j_M0} {x1 : Int} : j_fin C 68 0 [some (jR 93), some (jI x1)] [] (hH L m) = (C 67 [jR 93] (hH L m)).bind fun z => j_fin C 68 4 [some (jR 93), some (jI x1)] (z.1.toList ++ []) z.2 := by
  refine (S_aload_n rfl at_68_0).trans ?_
  refine (S_invv (b := 0) kn_67 rfl (ka_93 L _) (Nat.le_of_ble_eq_true rfl) at_68_1).trans ?_
  rfl
theorem T68_4 {C : Nat → List j_V → j_H → Option j_Z} {L : Nat} {m : j_M0} {x1 : Int} {s0 : Int} : j_fin C 68 4 [some (jR 93), some (jI x1)] [jI s0] (hH L m) = if s0 = x1 then some (some (jI 1), hH L (j_up m 93 3 (w32 ((m 93 3) + 1)))) else some (some (jI 0), hH L m) := by
  refine (S_iload_n rfl at_68_4).trans ?_
  refine (S_icmp_eq at_68_5).trans ?_
  refine ite_congr rfl (fun _ => ?_) (fun _ => ?_)
  · refine (S_aload_n rfl at_68_10).trans ?_
    refine (S_dup rfl at_68_11).trans ?_
    refine (H_get0 (ka_93 L _) rfl at_68_12).trans ?_
    refine (S_iconst at_68_15).trans ?_
    refine (S_iadd at_68_16).trans ?_
    refine (H_put0 (ka_93 L _) rfl at_68_17).trans ?_
    refine (S_iconst at_68_20).trans ?_
    exact (S_iretz rfl at_68_21).trans (if_pos (by decide))
  · refine (S_iconst at_68_8).trans ?_
    exact (S_iretz rfl at_68_9).trans (if_pos (by decide))
theorem T69_0 {C : Nat → List j_V → j_H → Option j_Z} {L : Nat} {m : j_M0} : j_fin C 69 0 [some (jR 93)] [] (hH L m) = (C 67 [jR 93] (hH L m)).bind fun z => j_fin C 69 4 [some (jR 93)] (z.1.toList ++ []) z.2 := by
  refine (S_aload_n rfl at_69_0).trans ?_
  refine (S_invv (b := 0) kn_67 rfl (ka_93 L _) (Nat.le_of_ble_eq_true rfl) at_69_1).trans ?_
  rfl
theorem T69_4 {C : Nat → List j_V → j_H → Option j_Z} {L : Nat} {m : j_M0} {s0 : Int} : j_fin C 69 4 [some (jR 93)] [jI s0] (hH L m) = if s0 < 48 then some (some (jI 0), hH L m) else (C 67 [jR 93] (hH L m)).bind fun z => j_fin C 69 13 [some (jR 93)] (z.1.toList ++ []) z.2 := by
  refine (S_bipush at_69_4).trans ?_
  refine (S_icmp_lt at_69_6).trans ?_
  refine ite_congr rfl (fun _ => ?_) (fun _ => ?_)
  · refine (S_iconst at_69_22).trans ?_
    exact (S_iretz rfl at_69_23).trans (if_pos (by decide))
  · refine (S_aload_n rfl at_69_9).trans ?_
    refine (S_invv (b := 0) kn_67 rfl (ka_93 L _) (Nat.le_of_ble_eq_true rfl) at_69_10).trans ?_
    rfl
theorem T69_13 {C : Nat → List j_V → j_H → Option j_Z} {L : Nat} {m : j_M0} {s0 : Int} : j_fin C 69 13 [some (jR 93)] [jI s0] (hH L m) = if 57 < s0 then some (some (jI 0), hH L m) else some (some (jI 1), hH L m) := by
  refine (S_bipush at_69_13).trans ?_
  refine (S_icmp_gt at_69_15).trans ?_
  refine ite_congr rfl (fun _ => ?_) (fun _ => ?_)
  · refine (S_iconst at_69_22).trans ?_
    exact (S_iretz rfl at_69_23).trans (if_pos (by decide))
  · refine (S_iconst at_69_18).trans ?_
    refine (S_goto at_69_19).trans ?_
    exact (S_iretz rfl at_69_23).trans (if_pos (by decide))
theorem T70_0 {C : Nat → List j_V → j_H → Option j_Z} {L : Nat} {m : j_M0} : j_fin C 70 0 [some (jR 93), none, none] [] (hH L m) = j_fin C 70 2 [some (jR 93), some (jI 0), none] [] (hH L m) := by
  refine (S_iconst at_70_0).trans ?_
  refine (S_istore_n (l1 := [some (jR 93), some (jI 0), none]) rfl at_70_1).trans ?_
  rfl
theorem T70_2 {C : Nat → List j_V → j_H → Option j_Z} {L : Nat} {m : j_M0} {x1 : Int} : j_fin C 70 2 [some (jR 93), some (jI x1), none] [] (hH L m) = if x1 < 5 then if 0 ≤ (w32 ((w32 ((m 93 1) * 5)) + x1)) ∧ (w32 ((w32 ((m 93 1) * 5)) + x1)) < 20 then j_fin C 70 2 [some (jR 93), some (jI (w32 (x1 + 1))), none] [] (hH L (j_up m 97 (w32 ((w32 ((m 93 1) * 5)) + x1)).toNat 0)) else none else (C 68 [jR 93, jI 45] (hH L m)).bind fun z => j_fin C 70 34 [some (jR 93), some (jI x1), none] (z.1.toList ++ [jR 93]) z.2 := by
  refine (S_iload_n rfl at_70_2).trans ?_
  refine (S_iconst at_70_3).trans ?_
  refine (S_icmp_ge at_70_4).trans ?_
  refine ite_congr rfl (fun _ => ?_) (fun _ => ?_)
  · refine (S_aload_n rfl at_70_7).trans ?_
    refine (S_getR (ka_93 L _) rfl (f_93_7 L _) at_70_8).trans ?_
    refine (S_aload_n rfl at_70_11).trans ?_
    refine (H_get0 (ka_93 L _) rfl at_70_12).trans ?_
    refine (S_iconst at_70_15).trans ?_
    refine (S_imul at_70_16).trans ?_
    refine (S_iload_n rfl at_70_17).trans ?_
    refine (S_iadd at_70_18).trans ?_
    refine (S_iconst at_70_19).trans ?_
    refine (H_iastore (by omega) (ka_97 L _) at_70_20).trans ?_
    refine ite_congr rfl (fun hi => ?_) (fun _ => rfl)
    refine (S_iinc (l1 := [some (jR 93), some (jI (w32 (x1 + 1))), none]) rfl rfl at_70_21).trans ?_
    refine (S_goto at_70_24).trans ?_
    rfl
  · refine (S_aload_n rfl at_70_27).trans ?_
    refine (S_aload_n rfl at_70_28).trans ?_
    refine (S_bipush at_70_29).trans ?_
    refine (S_invv (b := 1) kn_68 rfl (ka_93 L _) (Nat.le_of_ble_eq_true rfl) at_70_31).trans ?_
    rfl
theorem T70_34 {C : Nat → List j_V → j_H → Option j_Z} {L : Nat} {m : j_M0} {x1 : Int} {s1 : Int} : j_fin C 70 34 [some (jR 93), some (jI x1), none] [jI s1, jR 93] (hH L m) = (C 71 [jR 93, jI s1] (hH L m)).bind fun z => j_fin C 70 37 [some (jR 93), some (jI x1), none] (z.1.toList ++ []) z.2 := by
  refine (S_invv (b := 1) kn_71 rfl (ka_93 L _) (Nat.le_of_ble_eq_true rfl) at_70_34).trans ?_
  rfl
theorem T70_37 {C : Nat → List j_V → j_H → Option j_Z} {L : Nat} {m : j_M0} {x1 : Int} {s0 : Int} : j_fin C 70 37 [some (jR 93), some (jI x1), none] [jI s0] (hH L m) = if s0 = 0 then some (some (jI 0), hH L m) else j_fin C 70 44 [some (jR 93), some (jI 0), none] [] (hH L m) := by
  refine (S_if_ne at_70_37).trans ?_
  refine ite_congr rfl (fun _ => ?_) (fun _ => ?_)
  · refine (S_iconst at_70_40).trans ?_
    exact (S_iretz rfl at_70_41).trans (if_pos (by decide))
  · refine (S_iconst at_70_42).trans ?_
    refine (S_istore_n (l1 := [some (jR 93), some (jI 0), none]) rfl at_70_43).trans ?_
    rfl
theorem T70_44 {C : Nat → List j_V → j_H → Option j_Z} {L : Nat} {m : j_M0} {x1 : Int} {o2 : Option j_V} : j_fin C 70 44 [some (jR 93), some (jI x1), o2] [] (hH L m) = if x1 < 80 then (C 67 [jR 93] (hH L m)).bind fun z => j_fin C 70 54 [some (jR 93), some (jI x1), o2] (z.1.toList ++ []) z.2 else (C 67 [jR 93] (hH L m)).bind fun z => j_fin C 70 113 [some (jR 93), some (jI x1), o2] (z.1.toList ++ []) z.2 := by
  refine (S_iload_n rfl at_70_44).trans ?_
  refine (S_bipush at_70_45).trans ?_
  refine (S_icmp_ge at_70_47).trans ?_
  refine ite_congr rfl (fun _ => ?_) (fun _ => ?_)
  · refine (S_aload_n rfl at_70_50).trans ?_
    refine (S_invv (b := 0) kn_67 rfl (ka_93 L _) (Nat.le_of_ble_eq_true rfl) at_70_51).trans ?_
    rfl
  · refine (S_aload_n rfl at_70_109).trans ?_
    refine (S_invv (b := 0) kn_67 rfl (ka_93 L _) (Nat.le_of_ble_eq_true rfl) at_70_110).trans ?_
    rfl
theorem T70_54 {C : Nat → List j_V → j_H → Option j_Z} {L : Nat} {m : j_M0} {x1 : Int} {o2 : Option j_V} {s0 : Int} : j_fin C 70 54 [some (jR 93), some (jI x1), o2] [jI s0] (hH L m) = if s0 = 43 then (C 67 [jR 93] (hH L m)).bind fun z => j_fin C 70 72 [some (jR 93), some (jI x1), o2] (z.1.toList ++ []) z.2 else (C 67 [jR 93] (hH L m)).bind fun z => j_fin C 70 63 [some (jR 93), some (jI x1), o2] (z.1.toList ++ []) z.2 := by
  refine (S_bipush at_70_54).trans ?_
  refine (S_icmp_eq at_70_56).trans ?_
  refine ite_congr rfl (fun _ => ?_) (fun _ => ?_)
  · refine (S_aload_n rfl at_70_68).trans ?_
    refine (S_invv (b := 0) kn_67 rfl (ka_93 L _) (Nat.le_of_ble_eq_true rfl) at_70_69).trans ?_
    rfl
  · refine (S_aload_n rfl at_70_59).trans ?_
    refine (S_invv (b := 0) kn_67 rfl (ka_93 L _) (Nat.le_of_ble_eq_true rfl) at_70_60).trans ?_
    rfl
theorem T70_63 {C : Nat → List j_V → j_H → Option j_Z} {L : Nat} {m : j_M0} {x1 : Int} {o2 : Option j_V} {s0 : Int} : j_fin C 70 63 [some (jR 93), some (jI x1), o2] [jI s0] (hH L m) = if s0 = 45 then (C 67 [jR 93] (hH L m)).bind fun z => j_fin C 70 72 [some (jR 93), some (jI x1), o2] (z.1.toList ++ []) z.2 else (C 67 [jR 93] (hH L m)).bind fun z => j_fin C 70 113 [some (jR 93), some (jI x1), o2] (z.1.toList ++ []) z.2 := by
  refine (S_bipush at_70_63).trans ?_
  refine (S_icmp_ne at_70_65).trans ?_
  refine ite_congr rfl (fun _ => ?_) (fun _ => ?_)
  · refine (S_aload_n rfl at_70_68).trans ?_
    refine (S_invv (b := 0) kn_67 rfl (ka_93 L _) (Nat.le_of_ble_eq_true rfl) at_70_69).trans ?_
    rfl
  · refine (S_aload_n rfl at_70_109).trans ?_
    refine (S_invv (b := 0) kn_67 rfl (ka_93 L _) (Nat.le_of_ble_eq_true rfl) at_70_110).trans ?_
    rfl
theorem T70_72 {C : Nat → List j_V → j_H → Option j_Z} {L : Nat} {m : j_M0} {x1 : Int} {o2 : Option j_V} {s0 : Int} : j_fin C 70 72 [some (jR 93), some (jI x1), o2] [jI s0] (hH L m) = if s0 = 45 then (C 71 [jR 93, jI 1] (hH L (j_up m 93 3 (w32 ((m 93 3) + 1))))).bind fun z => j_fin C 70 98 [some (jR 93), some (jI x1), some (jI 1)] (z.1.toList ++ []) z.2 else (C 71 [jR 93, jI 0] (hH L (j_up m 93 3 (w32 ((m 93 3) + 1))))).bind fun z => j_fin C 70 98 [some (jR 93), some (jI x1), some (jI 0)] (z.1.toList ++ []) z.2 := by
  refine (S_bipush at_70_72).trans ?_
  refine (S_icmp_ne at_70_74).trans ?_
  refine ite_congr rfl (fun _ => ?_) (fun _ => ?_)
  · refine (S_iconst at_70_77).trans ?_
    refine (S_goto at_70_78).trans ?_
    refine (S_istore_n (l1 := [some (jR 93), some (jI x1), some (jI 1)]) rfl at_70_82).trans ?_
    refine (S_aload_n rfl at_70_83).trans ?_
    refine (S_dup rfl at_70_84).trans ?_
    refine (H_get0 (ka_93 L _) rfl at_70_85).trans ?_
    refine (S_iconst at_70_88).trans ?_
    refine (S_iadd at_70_89).trans ?_
    refine (H_put0 (ka_93 L _) rfl at_70_90).trans ?_
    refine (S_aload_n rfl at_70_93).trans ?_
    refine (S_iload_n rfl at_70_94).trans ?_
    refine (S_invv (b := 1) kn_71 rfl (ka_93 L _) (Nat.le_of_ble_eq_true rfl) at_70_95).trans ?_
    rfl
  · refine (S_iconst at_70_81).trans ?_
    refine (S_istore_n (l1 := [some (jR 93), some (jI x1), some (jI 0)]) rfl at_70_82).trans ?_
    refine (S_aload_n rfl at_70_83).trans ?_
    refine (S_dup rfl at_70_84).trans ?_
    refine (H_get0 (ka_93 L _) rfl at_70_85).trans ?_
    refine (S_iconst at_70_88).trans ?_
    refine (S_iadd at_70_89).trans ?_
    refine (H_put0 (ka_93 L _) rfl at_70_90).trans ?_
    refine (S_aload_n rfl at_70_93).trans ?_
    refine (S_iload_n rfl at_70_94).trans ?_
    refine (S_invv (b := 1) kn_71 rfl (ka_93 L _) (Nat.le_of_ble_eq_true rfl) at_70_95).trans ?_
    rfl
theorem T70_98 {C : Nat → List j_V → j_H → Option j_Z} {L : Nat} {m : j_M0} {x1 : Int} {x2 : Int} {s0 : Int} : j_fin C 70 98 [some (jR 93), some (jI x1), some (jI x2)] [jI s0] (hH L m) = if s0 = 0 then some (some (jI 0), hH L m) else j_fin C 70 44 [some (jR 93), some (jI (w32 (x1 + 1))), some (jI x2)] [] (hH L m) := by
  refine (S_if_ne at_70_98).trans ?_
  refine ite_congr rfl (fun _ => ?_) (fun _ => ?_)
  · refine (S_iconst at_70_101).trans ?_
    exact (S_iretz rfl at_70_102).trans (if_pos (by decide))
  · refine (S_iinc (l1 := [some (jR 93), some (jI (w32 (x1 + 1))), some (jI x2)]) rfl rfl at_70_103).trans ?_
    refine (S_goto at_70_106).trans ?_
    rfl
theorem T70_113 {C : Nat → List j_V → j_H → Option j_Z} {L : Nat} {m : j_M0} {x1 : Int} {o2 : Option j_V} {s0 : Int} : j_fin C 70 113 [some (jR 93), some (jI x1), o2] [jI s0] (hH L m) = if s0 = 62 then (C 67 [jR 93] (hH L m)).bind fun z => j_fin C 70 141 [some (jR 93), some (jI x1), o2] (z.1.toList ++ [jI (m 93 1), jR 95]) z.2 else (C 67 [jR 93] (hH L m)).bind fun z => j_fin C 70 122 [some (jR 93), some (jI x1), o2] (z.1.toList ++ []) z.2 := by
  refine (S_bipush at_70_113).trans ?_
  refine (S_icmp_eq at_70_115).trans ?_
  refine ite_congr rfl (fun _ => ?_) (fun _ => ?_)
  · refine (S_aload_n rfl at_70_129).trans ?_
    refine (S_getR (ka_93 L _) rfl (f_93_5 L _) at_70_130).trans ?_
    refine (S_aload_n rfl at_70_133).trans ?_
    refine (H_get0 (ka_93 L _) rfl at_70_134).trans ?_
    refine (S_aload_n rfl at_70_137).trans ?_
    refine (S_invv (b := 0) kn_67 rfl (ka_93 L _) (Nat.le_of_ble_eq_true rfl) at_70_138).trans ?_
    rfl
  · refine (S_aload_n rfl at_70_118).trans ?_
    refine (S_invv (b := 0) kn_67 rfl (ka_93 L _) (Nat.le_of_ble_eq_true rfl) at_70_119).trans ?_
    rfl
theorem T70_122 {C : Nat → List j_V → j_H → Option j_Z} {L : Nat} {m : j_M0} {x1 : Int} {o2 : Option j_V} {s0 : Int} : j_fin C 70 122 [some (jR 93), some (jI x1), o2] [jI s0] (hH L m) = if s0 = 60 then (C 67 [jR 93] (hH L m)).bind fun z => j_fin C 70 141 [some (jR 93), some (jI x1), o2] (z.1.toList ++ [jI (m 93 1), jR 95]) z.2 else some (some (jI 0), hH L m) := by
  refine (S_bipush at_70_122).trans ?_
  refine (S_icmp_eq at_70_124).trans ?_
  refine ite_congr rfl (fun _ => ?_) (fun _ => ?_)
  · refine (S_aload_n rfl at_70_129).trans ?_
    refine (S_getR (ka_93 L _) rfl (f_93_5 L _) at_70_130).trans ?_
    refine (S_aload_n rfl at_70_133).trans ?_
    refine (H_get0 (ka_93 L _) rfl at_70_134).trans ?_
    refine (S_aload_n rfl at_70_137).trans ?_
    refine (S_invv (b := 0) kn_67 rfl (ka_93 L _) (Nat.le_of_ble_eq_true rfl) at_70_138).trans ?_
    rfl
  · refine (S_iconst at_70_127).trans ?_
    exact (S_iretz rfl at_70_128).trans (if_pos (by decide))
theorem T70_141 {C : Nat → List j_V → j_H → Option j_Z} {L : Nat} {m : j_M0} {x1 : Int} {o2 : Option j_V} {s1 : Int} {s2 : Int} : j_fin C 70 141 [some (jR 93), some (jI x1), o2] [jI s2, jI s1, jR 95] (hH L m) = if s2 = 62 then if 0 ≤ s1 ∧ s1 < 4 then (C 68 [jR 93, jI 45] (hH L (j_up (j_up m 95 s1.toNat 0) 93 3 (w32 (((j_up m 95 s1.toNat 0) 93 3) + 1))))).bind fun z => j_fin C 70 169 [some (jR 93), some (jI x1), o2] (z.1.toList ++ [jR 93]) z.2 else none else if 0 ≤ s1 ∧ s1 < 4 then (C 68 [jR 93, jI 45] (hH L (j_up (j_up m 95 s1.toNat 1) 93 3 (w32 (((j_up m 95 s1.toNat 1) 93 3) + 1))))).bind fun z => j_fin C 70 169 [some (jR 93), some (jI x1), o2] (z.1.toList ++ [jR 93]) z.2 else none := by
  refine (S_bipush at_70_141).trans ?_
  refine (S_icmp_ne at_70_143).trans ?_
  refine ite_congr rfl (fun _ => ?_) (fun _ => ?_)
  · refine (S_iconst at_70_146).trans ?_
    refine (S_goto at_70_147).trans ?_
    refine (H_iastore (by omega) (ka_95 L _) at_70_151).trans ?_
    refine ite_congr rfl (fun hi => ?_) (fun _ => rfl)
    refine (S_aload_n rfl at_70_152).trans ?_
    refine (S_dup rfl at_70_153).trans ?_
    refine (H_get0 (ka_93 L _) rfl at_70_154).trans ?_
    refine (S_iconst at_70_157).trans ?_
    refine (S_iadd at_70_158).trans ?_
    refine (H_put0 (ka_93 L _) rfl at_70_159).trans ?_
    refine (S_aload_n rfl at_70_162).trans ?_
    refine (S_aload_n rfl at_70_163).trans ?_
    refine (S_bipush at_70_164).trans ?_
    refine (S_invv (b := 1) kn_68 rfl (ka_93 L _) (Nat.le_of_ble_eq_true rfl) at_70_166).trans ?_
    rfl
  · refine (S_iconst at_70_150).trans ?_
    refine (H_iastore (by omega) (ka_95 L _) at_70_151).trans ?_
    refine ite_congr rfl (fun hi => ?_) (fun _ => rfl)
    refine (S_aload_n rfl at_70_152).trans ?_
    refine (S_dup rfl at_70_153).trans ?_
    refine (H_get0 (ka_93 L _) rfl at_70_154).trans ?_
    refine (S_iconst at_70_157).trans ?_
    refine (S_iadd at_70_158).trans ?_
    refine (H_put0 (ka_93 L _) rfl at_70_159).trans ?_
    refine (S_aload_n rfl at_70_162).trans ?_
    refine (S_aload_n rfl at_70_163).trans ?_
    refine (S_bipush at_70_164).trans ?_
    refine (S_invv (b := 1) kn_68 rfl (ka_93 L _) (Nat.le_of_ble_eq_true rfl) at_70_166).trans ?_
    rfl
theorem T70_169 {C : Nat → List j_V → j_H → Option j_Z} {L : Nat} {m : j_M0} {x1 : Int} {o2 : Option j_V} {s1 : Int} : j_fin C 70 169 [some (jR 93), some (jI x1), o2] [jI s1, jR 93] (hH L m) = (C 72 [jR 93, jI s1] (hH L m)).bind fun z => j_fin C 70 172 [some (jR 93), some (jI x1), o2] (z.1.toList ++ []) z.2 := by
  refine (S_invv (b := 1) kn_72 rfl (ka_93 L _) (Nat.le_of_ble_eq_true rfl) at_70_169).trans ?_
  rfl
theorem T70_172 {C : Nat → List j_V → j_H → Option j_Z} {L : Nat} {m : j_M0} {x1 : Int} {o2 : Option j_V} {s0 : Int} : j_fin C 70 172 [some (jR 93), some (jI x1), o2] [jI s0] (hH L m) = if s0 = 0 ∨ s0 = 1 then some (some (jI s0), hH L m) else none := by
  exact S_iretz rfl at_70_172
theorem T71_0 {C : Nat → List j_V → j_H → Option j_Z} {L : Nat} {m : j_M0} {x1 : Int} : j_fin C 71 0 [some (jR 93), some (jI x1), none, none, none] [] (hH L m) = (C 69 [jR 93] (hH L m)).bind fun z => j_fin C 71 6 [some (jR 93), some (jI x1), some (jI 1), none, none] (z.1.toList ++ []) z.2 := by
  refine (S_iconst at_71_0).trans ?_
  refine (S_istore_n (l1 := [some (jR 93), some (jI x1), some (jI 1), none, none]) rfl at_71_1).trans ?_
  refine (S_aload_n rfl at_71_2).trans ?_
  refine (S_invv (b := 0) kn_69 rfl (ka_93 L _) (Nat.le_of_ble_eq_true rfl) at_71_3).trans ?_
  rfl
theorem T71_6 {C : Nat → List j_V → j_H → Option j_Z} {L : Nat} {m : j_M0} {x1 : Int} {x2 : Int} {s0 : Int} : j_fin C 71 6 [some (jR 93), some (jI x1), some (jI x2), none, none] [jI s0] (hH L m) = if s0 = 0 then (C 67 [jR 93] (hH L m)).bind fun z => j_fin C 71 31 [some (jR 93), some (jI x1), some (jI x2), none, none] (z.1.toList ++ []) z.2 else (C 67 [jR 93] (hH L m)).bind fun z => j_fin C 71 13 [some (jR 93), some (jI x1), some (jI x2), none, none] (z.1.toList ++ []) z.2 := by
  refine (S_if_eq at_71_6).trans ?_
  refine ite_congr rfl (fun _ => ?_) (fun _ => ?_)
  · refine (S_aload_n rfl at_71_27).trans ?_
    refine (S_invv (b := 0) kn_67 rfl (ka_93 L _) (Nat.le_of_ble_eq_true rfl) at_71_28).trans ?_
    rfl
  · refine (S_aload_n rfl at_71_9).trans ?_
    refine (S_invv (b := 0) kn_67 rfl (ka_93 L _) (Nat.le_of_ble_eq_true rfl) at_71_10).trans ?_
    rfl
theorem T71_13 {C : Nat → List j_V → j_H → Option j_Z} {L : Nat} {m : j_M0} {x1 : Int} {x2 : Int} {s0 : Int} : j_fin C 71 13 [some (jR 93), some (jI x1), some (jI x2), none, none] [jI s0] (hH L m) = (C 67 [jR 93] (hH L (j_up m 93 3 (w32 ((m 93 3) + 1))))).bind fun z => j_fin C 71 31 [some (jR 93), some (jI x1), some (jI (w32 (s0 - 48))), none, none] (z.1.toList ++ []) z.2 := by
  refine (S_bipush at_71_13).trans ?_
  refine (S_isub at_71_15).trans ?_
  refine (S_istore_n (l1 := [some (jR 93), some (jI x1), some (jI (w32 (s0 - 48))), none, none]) rfl at_71_16).trans ?_
  refine (S_aload_n rfl at_71_17).trans ?_
  refine (S_dup rfl at_71_18).trans ?_
  refine (H_get0 (ka_93 L _) rfl at_71_19).trans ?_
  refine (S_iconst at_71_22).trans ?_
  refine (S_iadd at_71_23).trans ?_
  refine (H_put0 (ka_93 L _) rfl at_71_24).trans ?_
  refine (S_aload_n rfl at_71_27).trans ?_
  refine (S_invv (b := 0) kn_67 rfl (ka_93 L _) (Nat.le_of_ble_eq_true rfl) at_71_28).trans ?_
  rfl
theorem T71_31 {C : Nat → List j_V → j_H → Option j_Z} {L : Nat} {m : j_M0} {x1 : Int} {x2 : Int} {s0 : Int} : j_fin C 71 31 [some (jR 93), some (jI x1), some (jI x2), none, none] [jI s0] (hH L m) = if (w32 (s0 - 97)) < 0 then some (some (jI 0), hH L m) else if (w32 (s0 - 97)) < (m 93 4) then if 0 ≤ (w32 ((w32 ((m 93 1) * 5)) + (w32 (s0 - 97)))) ∧ (w32 ((w32 ((m 93 1) * 5)) + (w32 (s0 - 97)))) < 20 then if x1 = 0 then (C 140 [jI (w32 ((m 97 (w32 ((w32 ((m 93 1) * 5)) + (w32 (s0 - 97)))).toNat) + x2))] (hH L m)).bind fun z => j_fin C 71 80 [some (jR 93), some (jI x1), some (jI x2), some (jI (w32 (s0 - 97))), some (jI (w32 ((m 97 (w32 ((w32 ((m 93 1) * 5)) + (w32 (s0 - 97)))).toNat) + x2)))] (z.1.toList ++ []) z.2 else (C 140 [jI (w32 ((m 97 (w32 ((w32 ((m 93 1) * 5)) + (w32 (s0 - 97)))).toNat) + (w32 (-x2))))] (hH L m)).bind fun z => j_fin C 71 80 [some (jR 93), some (jI x1), some (jI x2), some (jI (w32 (s0 - 97))), some (jI (w32 ((m 97 (w32 ((w32 ((m 93 1) * 5)) + (w32 (s0 - 97)))).toNat) + (w32 (-x2)))))] (z.1.toList ++ []) z.2 else none else some (some (jI 0), hH L m) := by
  refine (S_bipush at_71_31).trans ?_
  refine (S_isub at_71_33).trans ?_
  refine (S_istore_n (l1 := [some (jR 93), some (jI x1), some (jI x2), some (jI (w32 (s0 - 97))), none]) rfl at_71_34).trans ?_
  refine (S_iload_n rfl at_71_35).trans ?_
  refine (S_if_lt at_71_36).trans ?_
  refine ite_congr rfl (fun _ => ?_) (fun _ => ?_)
  · refine (S_iconst at_71_47).trans ?_
    exact (S_iretz rfl at_71_48).trans (if_pos (by decide))
  · refine (S_iload_n rfl at_71_39).trans ?_
    refine (S_aload_n rfl at_71_40).trans ?_
    refine (H_get0 (ka_93 L _) rfl at_71_41).trans ?_
    refine (S_icmp_lt at_71_44).trans ?_
    refine ite_congr rfl (fun _ => ?_) (fun _ => ?_)
    · refine (S_aload_n rfl at_71_49).trans ?_
      refine (S_getR (ka_93 L _) rfl (f_93_7 L _) at_71_50).trans ?_
      refine (S_aload_n rfl at_71_53).trans ?_
      refine (H_get0 (ka_93 L _) rfl at_71_54).trans ?_
      refine (S_iconst at_71_57).trans ?_
      refine (S_imul at_71_58).trans ?_
      refine (S_iload_n rfl at_71_59).trans ?_
      refine (S_iadd at_71_60).trans ?_
      refine (H_iaload (ka_97 L _) at_71_61).trans ?_
      refine ite_congr rfl (fun hi => ?_) (fun _ => rfl)
      refine (S_iload_n rfl at_71_62).trans ?_
      refine (S_if_eq at_71_63).trans ?_
      refine ite_congr rfl (fun _ => ?_) (fun _ => ?_)
      · refine (S_iload_n rfl at_71_71).trans ?_
        refine (S_iadd at_71_72).trans ?_
        refine (S_istore (l1 := [some (jR 93), some (jI x1), some (jI x2), some (jI (w32 (s0 - 97))), some (jI (w32 ((m 97 (w32 ((w32 ((m 93 1) * 5)) + (w32 (s0 - 97)))).toNat) + x2)))]) rfl at_71_73).trans ?_
        refine (S_iload rfl at_71_75).trans ?_
        refine (S_invs (by decide) (Nat.le_of_ble_eq_true rfl) (Nat.le_of_ble_eq_true rfl) at_71_77).trans ?_
        rfl
      · refine (S_iload_n rfl at_71_66).trans ?_
        refine (S_ineg at_71_67).trans ?_
        refine (S_goto at_71_68).trans ?_
        refine (S_iadd at_71_72).trans ?_
        refine (S_istore (l1 := [some (jR 93), some (jI x1), some (jI x2), some (jI (w32 (s0 - 97))), some (jI (w32 ((m 97 (w32 ((w32 ((m 93 1) * 5)) + (w32 (s0 - 97)))).toNat) + (w32 (-x2)))))]) rfl at_71_73).trans ?_
        refine (S_iload rfl at_71_75).trans ?_
        refine (S_invs (by decide) (Nat.le_of_ble_eq_true rfl) (Nat.le_of_ble_eq_true rfl) at_71_77).trans ?_
        rfl
    · refine (S_iconst at_71_47).trans ?_
      exact (S_iretz rfl at_71_48).trans (if_pos (by decide))
theorem T71_80 {C : Nat → List j_V → j_H → Option j_Z} {L : Nat} {m : j_M0} {x1 : Int} {x2 : Int} {x3 : Int} {x4 : Int} {s0 : Int} : j_fin C 71 80 [some (jR 93), some (jI x1), some (jI x2), some (jI x3), some (jI x4)] [jI s0] (hH L m) = if s0 = 0 then some (some (jI 0), hH L m) else if 0 ≤ (w32 ((w32 ((m 93 1) * 5)) + x3)) ∧ (w32 ((w32 ((m 93 1) * 5)) + x3)) < 20 then some (some (jI 1), hH L (j_up (j_up m 97 (w32 ((w32 ((m 93 1) * 5)) + x3)).toNat x4) 93 3 (w32 (((j_up m 97 (w32 ((w32 ((m 93 1) * 5)) + x3)).toNat x4) 93 3) + 1)))) else none := by
  refine (S_if_ne at_71_80).trans ?_
  refine ite_congr rfl (fun _ => ?_) (fun _ => ?_)
  · refine (S_iconst at_71_83).trans ?_
    exact (S_iretz rfl at_71_84).trans (if_pos (by decide))
  · refine (S_aload_n rfl at_71_85).trans ?_
    refine (S_getR (ka_93 L _) rfl (f_93_7 L _) at_71_86).trans ?_
    refine (S_aload_n rfl at_71_89).trans ?_
    refine (H_get0 (ka_93 L _) rfl at_71_90).trans ?_
    refine (S_iconst at_71_93).trans ?_
    refine (S_imul at_71_94).trans ?_
    refine (S_iload_n rfl at_71_95).trans ?_
    refine (S_iadd at_71_96).trans ?_
    refine (S_iload rfl at_71_97).trans ?_
    refine (H_iastore (by omega) (ka_97 L _) at_71_99).trans ?_
    refine ite_congr rfl (fun hi => ?_) (fun _ => rfl)
    refine (S_aload_n rfl at_71_100).trans ?_
    refine (S_dup rfl at_71_101).trans ?_
    refine (H_get0 (ka_93 L _) rfl at_71_102).trans ?_
    refine (S_iconst at_71_105).trans ?_
    refine (S_iadd at_71_106).trans ?_
    refine (H_put0 (ka_93 L _) rfl at_71_107).trans ?_
    refine (S_iconst at_71_110).trans ?_
    exact (S_iretz rfl at_71_111).trans (if_pos (by decide))
theorem T72_0 {C : Nat → List j_V → j_H → Option j_Z} {L : Nat} {m : j_M0} {x1 : Int} : j_fin C 72 0 [some (jR 93), some (jI x1), none, none] [] (hH L m) = j_fin C 72 4 [some (jR 93), some (jI x1), some (jI 0), some (jI 0)] [] (hH L m) := by
  refine (S_iconst at_72_0).trans ?_
  refine (S_istore_n (l1 := [some (jR 93), some (jI x1), some (jI 0), none]) rfl at_72_1).trans ?_
  refine (S_iconst at_72_2).trans ?_
  refine (S_istore_n (l1 := [some (jR 93), some (jI x1), some (jI 0), some (jI 0)]) rfl at_72_3).trans ?_
  rfl
theorem T72_4 {C : Nat → List j_V → j_H → Option j_Z} {L : Nat} {m : j_M0} {x1 : Int} {x2 : Int} {x3 : Int} : j_fin C 72 4 [some (jR 93), some (jI x1), some (jI x2), some (jI x3)] [] (hH L m) = if x3 < 3 then (C 69 [jR 93] (hH L m)).bind fun z => j_fin C 72 13 [some (jR 93), some (jI x1), some (jI x2), some (jI x3)] (z.1.toList ++ []) z.2 else if x1 = 0 then if 0 ≤ (m 93 1) ∧ (m 93 1) < 4 then if 0 < x3 then some (some (jI 1), hH L (j_up m 96 (m 93 1).toNat x2)) else some (some (jI 0), hH L (j_up m 96 (m 93 1).toNat x2)) else none else if 0 ≤ (m 93 1) ∧ (m 93 1) < 4 then if 0 < x3 then some (some (jI 1), hH L (j_up m 96 (m 93 1).toNat (w32 (-x2)))) else some (some (jI 0), hH L (j_up m 96 (m 93 1).toNat (w32 (-x2)))) else none := by
  refine (S_iload_n rfl at_72_4).trans ?_
  refine (S_iconst at_72_5).trans ?_
  refine (S_icmp_ge at_72_6).trans ?_
  refine ite_congr rfl (fun _ => ?_) (fun _ => ?_)
  · refine (S_aload_n rfl at_72_9).trans ?_
    refine (S_invv (b := 0) kn_69 rfl (ka_93 L _) (Nat.le_of_ble_eq_true rfl) at_72_10).trans ?_
    rfl
  · refine (S_aload_n rfl at_72_58).trans ?_
    refine (S_getR (ka_93 L _) rfl (f_93_6 L _) at_72_59).trans ?_
    refine (S_aload_n rfl at_72_62).trans ?_
    refine (H_get0 (ka_93 L _) rfl at_72_63).trans ?_
    refine (S_iload_n rfl at_72_66).trans ?_
    refine (S_if_eq at_72_67).trans ?_
    refine ite_congr rfl (fun _ => ?_) (fun _ => ?_)
    · refine (S_iload_n rfl at_72_75).trans ?_
      refine (H_iastore (by omega) (ka_96 L _) at_72_76).trans ?_
      refine ite_congr rfl (fun hi => ?_) (fun _ => rfl)
      refine (S_iload_n rfl at_72_77).trans ?_
      refine (S_if_le at_72_78).trans ?_
      refine ite_congr rfl (fun _ => ?_) (fun _ => ?_)
      · refine (S_iconst at_72_81).trans ?_
        refine (S_goto at_72_82).trans ?_
        exact (S_iretz rfl at_72_86).trans (if_pos (by decide))
      · refine (S_iconst at_72_85).trans ?_
        exact (S_iretz rfl at_72_86).trans (if_pos (by decide))
    · refine (S_iload_n rfl at_72_70).trans ?_
      refine (S_ineg at_72_71).trans ?_
      refine (S_goto at_72_72).trans ?_
      refine (H_iastore (by omega) (ka_96 L _) at_72_76).trans ?_
      refine ite_congr rfl (fun hi => ?_) (fun _ => rfl)
      refine (S_iload_n rfl at_72_77).trans ?_
      refine (S_if_le at_72_78).trans ?_
      refine ite_congr rfl (fun _ => ?_) (fun _ => ?_)
      · refine (S_iconst at_72_81).trans ?_
        refine (S_goto at_72_82).trans ?_
        exact (S_iretz rfl at_72_86).trans (if_pos (by decide))
      · refine (S_iconst at_72_85).trans ?_
        exact (S_iretz rfl at_72_86).trans (if_pos (by decide))
theorem T72_13 {C : Nat → List j_V → j_H → Option j_Z} {L : Nat} {m : j_M0} {x1 : Int} {x2 : Int} {x3 : Int} {s0 : Int} : j_fin C 72 13 [some (jR 93), some (jI x1), some (jI x2), some (jI x3)] [jI s0] (hH L m) = if s0 = 0 then if x1 = 0 then if 0 ≤ (m 93 1) ∧ (m 93 1) < 4 then if 0 < x3 then some (some (jI 1), hH L (j_up m 96 (m 93 1).toNat x2)) else some (some (jI 0), hH L (j_up m 96 (m 93 1).toNat x2)) else none else if 0 ≤ (m 93 1) ∧ (m 93 1) < 4 then if 0 < x3 then some (some (jI 1), hH L (j_up m 96 (m 93 1).toNat (w32 (-x2)))) else some (some (jI 0), hH L (j_up m 96 (m 93 1).toNat (w32 (-x2)))) else none else (C 67 [jR 93] (hH L m)).bind fun z => j_fin C 72 24 [some (jR 93), some (jI x1), some (jI x2), some (jI x3)] (z.1.toList ++ [jI (w32 (x2 * 10))]) z.2 := by
  refine (S_if_eq at_72_13).trans ?_
  refine ite_congr rfl (fun _ => ?_) (fun _ => ?_)
  · refine (S_aload_n rfl at_72_58).trans ?_
    refine (S_getR (ka_93 L _) rfl (f_93_6 L _) at_72_59).trans ?_
    refine (S_aload_n rfl at_72_62).trans ?_
    refine (H_get0 (ka_93 L _) rfl at_72_63).trans ?_
    refine (S_iload_n rfl at_72_66).trans ?_
    refine (S_if_eq at_72_67).trans ?_
    refine ite_congr rfl (fun _ => ?_) (fun _ => ?_)
    · refine (S_iload_n rfl at_72_75).trans ?_
      refine (H_iastore (by omega) (ka_96 L _) at_72_76).trans ?_
      refine ite_congr rfl (fun hi => ?_) (fun _ => rfl)
      refine (S_iload_n rfl at_72_77).trans ?_
      refine (S_if_le at_72_78).trans ?_
      refine ite_congr rfl (fun _ => ?_) (fun _ => ?_)
      · refine (S_iconst at_72_81).trans ?_
        refine (S_goto at_72_82).trans ?_
        exact (S_iretz rfl at_72_86).trans (if_pos (by decide))
      · refine (S_iconst at_72_85).trans ?_
        exact (S_iretz rfl at_72_86).trans (if_pos (by decide))
    · refine (S_iload_n rfl at_72_70).trans ?_
      refine (S_ineg at_72_71).trans ?_
      refine (S_goto at_72_72).trans ?_
      refine (H_iastore (by omega) (ka_96 L _) at_72_76).trans ?_
      refine ite_congr rfl (fun hi => ?_) (fun _ => rfl)
      refine (S_iload_n rfl at_72_77).trans ?_
      refine (S_if_le at_72_78).trans ?_
      refine ite_congr rfl (fun _ => ?_) (fun _ => ?_)
      · refine (S_iconst at_72_81).trans ?_
        refine (S_goto at_72_82).trans ?_
        exact (S_iretz rfl at_72_86).trans (if_pos (by decide))
      · refine (S_iconst at_72_85).trans ?_
        exact (S_iretz rfl at_72_86).trans (if_pos (by decide))
  · refine (S_iload_n rfl at_72_16).trans ?_
    refine (S_bipush at_72_17).trans ?_
    refine (S_imul at_72_19).trans ?_
    refine (S_aload_n rfl at_72_20).trans ?_
    refine (S_invv (b := 0) kn_67 rfl (ka_93 L _) (Nat.le_of_ble_eq_true rfl) at_72_21).trans ?_
    rfl
theorem T72_24 {C : Nat → List j_V → j_H → Option j_Z} {L : Nat} {m : j_M0} {x1 : Int} {x2 : Int} {x3 : Int} {s0 : Int} {s1 : Int} : j_fin C 72 24 [some (jR 93), some (jI x1), some (jI x2), some (jI x3)] [jI s1, jI s0] (hH L m) = if x1 = 0 then j_fin C 72 4 [some (jR 93), some (jI x1), some (jI (w32 ((w32 (s0 + s1)) - 48))), some (jI (w32 (x3 + 1)))] [] (hH L (j_up m 93 3 (w32 ((m 93 3) + 1)))) else if (w32 (-(w32 ((w32 (s0 + s1)) - 48)))) < (-99) then some (some (jI 0), hH L m) else j_fin C 72 4 [some (jR 93), some (jI x1), some (jI (w32 ((w32 (s0 + s1)) - 48))), some (jI (w32 (x3 + 1)))] [] (hH L (j_up m 93 3 (w32 ((m 93 3) + 1)))) := by
  refine (S_iadd at_72_24).trans ?_
  refine (S_bipush at_72_25).trans ?_
  refine (S_isub at_72_27).trans ?_
  refine (S_istore_n (l1 := [some (jR 93), some (jI x1), some (jI (w32 ((w32 (s0 + s1)) - 48))), some (jI x3)]) rfl at_72_28).trans ?_
  refine (S_iload_n rfl at_72_29).trans ?_
  refine (S_if_eq at_72_30).trans ?_
  refine ite_congr rfl (fun _ => ?_) (fun _ => ?_)
  · refine (S_aload_n rfl at_72_42).trans ?_
    refine (S_dup rfl at_72_43).trans ?_
    refine (H_get0 (ka_93 L _) rfl at_72_44).trans ?_
    refine (S_iconst at_72_47).trans ?_
    refine (S_iadd at_72_48).trans ?_
    refine (H_put0 (ka_93 L _) rfl at_72_49).trans ?_
    refine (S_iinc (l1 := [some (jR 93), some (jI x1), some (jI (w32 ((w32 (s0 + s1)) - 48))), some (jI (w32 (x3 + 1)))]) rfl rfl at_72_52).trans ?_
    refine (S_goto at_72_55).trans ?_
    rfl
  · refine (S_iload_n rfl at_72_33).trans ?_
    refine (S_ineg at_72_34).trans ?_
    refine (S_bipush at_72_35).trans ?_
    refine (S_icmp_ge at_72_37).trans ?_
    refine ite_congr rfl (fun _ => ?_) (fun _ => ?_)
    · refine (S_iconst at_72_40).trans ?_
      exact (S_iretz rfl at_72_41).trans (if_pos (by decide))
    · refine (S_aload_n rfl at_72_42).trans ?_
      refine (S_dup rfl at_72_43).trans ?_
      refine (H_get0 (ka_93 L _) rfl at_72_44).trans ?_
      refine (S_iconst at_72_47).trans ?_
      refine (S_iadd at_72_48).trans ?_
      refine (H_put0 (ka_93 L _) rfl at_72_49).trans ?_
      refine (S_iinc (l1 := [some (jR 93), some (jI x1), some (jI (w32 ((w32 (s0 + s1)) - 48))), some (jI (w32 (x3 + 1)))]) rfl rfl at_72_52).trans ?_
      refine (S_goto at_72_55).trans ?_
      rfl
theorem T74_0 {C : Nat → List j_V → j_H → Option j_Z} {L : Nat} {m : j_M0} : j_fin C 74 0 [some (jR 68), some (jR 4), none, none] [] (hH L m) = j_fin C 74 19 [some (jR 68), some (jR 4), some (jI 0), none] [] (hH L (j_up (j_up (j_up m 68 0 0) 68 1 0) 69 0 0)) := by
  refine (S_aload_n rfl at_74_0).trans ?_
  refine (S_iconst at_74_1).trans ?_
  refine (H_put0 (ka_68 L _) rfl at_74_2).trans ?_
  refine (S_aload_n rfl at_74_5).trans ?_
  refine (S_iconst at_74_6).trans ?_
  refine (H_put0 (ka_68 L _) rfl at_74_7).trans ?_
  refine (S_aload_n rfl at_74_10).trans ?_
  refine (S_getR (ka_68 L _) rfl (f_68_2 L _) at_74_11).trans ?_
  refine (S_iconst at_74_14).trans ?_
  refine (S_iconst at_74_15).trans ?_
  refine (H_iastore (by omega) (ka_69 L _) at_74_16).trans ?_
  refine (if_pos (by decide)).trans ?_
  refine (S_iconst at_74_17).trans ?_
  refine (S_istore_n (l1 := [some (jR 68), some (jR 4), some (jI 0), none]) rfl at_74_18).trans ?_
  rfl
theorem T74_19 {C : Nat → List j_V → j_H → Option j_Z} {L : Nat} {m : j_M0} {x2 : Int} : j_fin C 74 19 [some (jR 68), some (jR 4), some (jI x2), none] [] (hH L m) = if x2 < 5 then if 0 ≤ x2 ∧ x2 < 200 then if 0 ≤ x2 ∧ x2 < 200 then j_fin C 74 19 [some (jR 68), some (jR 4), some (jI (w32 (x2 + 1))), none] [] (hH L (j_up (j_up m 80 x2.toNat 0) 81 x2.toNat (-1))) else none else none else (C 77 [jR 68, jR 4] (hH L m)).bind fun z => j_fin C 74 51 [some (jR 68), some (jR 4), some (jI x2), none] (z.1.toList ++ []) z.2 := by
  refine (S_iload_n rfl at_74_19).trans ?_
  refine (S_iconst at_74_20).trans ?_
  refine (S_icmp_ge at_74_21).trans ?_
  refine ite_congr rfl (fun _ => ?_) (fun _ => ?_)
  · refine (S_aload_n rfl at_74_24).trans ?_
    refine (S_getR (ka_68 L _) rfl (f_68_5 L _) at_74_25).trans ?_
    refine (S_iload_n rfl at_74_28).trans ?_
    refine (S_lconst at_74_29).trans ?_
    refine (H_lastore (by omega) (ka_80 L _) at_74_30).trans ?_
    refine ite_congr rfl (fun hi => ?_) (fun _ => rfl)
    refine (S_aload_n rfl at_74_31).trans ?_
    refine (S_getR (ka_68 L _) rfl (f_68_6 L _) at_74_32).trans ?_
    refine (S_iload_n rfl at_74_35).trans ?_
    refine (S_ldc2_w at_74_36).trans ?_
    refine (H_lastore (by omega) (ka_81 L _) at_74_39).trans ?_
    refine ite_congr rfl (fun hi => ?_) (fun _ => rfl)
    refine (S_iinc (l1 := [some (jR 68), some (jR 4), some (jI (w32 (x2 + 1))), none]) rfl rfl at_74_40).trans ?_
    refine (S_goto at_74_43).trans ?_
    rfl
  · refine (S_aload_n rfl at_74_46).trans ?_
    refine (S_aload_n rfl at_74_47).trans ?_
    refine (S_invv (b := 1) kn_77 rfl (ka_68 L _) (Nat.le_of_ble_eq_true rfl) at_74_48).trans ?_
    rfl
theorem T74_51 {C : Nat → List j_V → j_H → Option j_Z} {L : Nat} {m : j_M0} {x2 : Int} {s0 : Int} : j_fin C 74 51 [some (jR 68), some (jR 4), some (jI x2), none] [jI s0] (hH L m) = if s0 = 0 then some (some (jI (-6)), hH L m) else j_fin C 74 59 [some (jR 68), some (jR 4), some (jI 0), none] [] (hH L m) := by
  refine (S_if_ne at_74_51).trans ?_
  refine ite_congr rfl (fun _ => ?_) (fun _ => ?_)
  · refine (S_bipush at_74_54).trans ?_
    exact S_ireti rfl at_74_56
  · refine (S_iconst at_74_57).trans ?_
    refine (S_istore_n (l1 := [some (jR 68), some (jR 4), some (jI 0), none]) rfl at_74_58).trans ?_
    rfl
theorem T74_59 {C : Nat → List j_V → j_H → Option j_Z} {L : Nat} {m : j_M0} {x2 : Int} {o3 : Option j_V} : j_fin C 74 59 [some (jR 68), some (jR 4), some (jI x2), o3] [] (hH L m) = if 40 < x2 then some (some (jI (-6)), hH L m) else (C 78 [jR 68] (hH L m)).bind fun z => j_fin C 74 69 [some (jR 68), some (jR 4), some (jI x2), o3] (z.1.toList ++ []) z.2 := by
  refine (S_iload_n rfl at_74_59).trans ?_
  refine (S_bipush at_74_60).trans ?_
  refine (S_icmp_gt at_74_62).trans ?_
  refine ite_congr rfl (fun _ => ?_) (fun _ => ?_)
  · refine (S_bipush at_74_113).trans ?_
    exact S_ireti rfl at_74_115
  · refine (S_aload_n rfl at_74_65).trans ?_
    refine (S_invv (b := 0) kn_78 rfl (ka_68 L _) (Nat.le_of_ble_eq_true rfl) at_74_66).trans ?_
    rfl
theorem T74_69 {C : Nat → List j_V → j_H → Option j_Z} {L : Nat} {m : j_M0} {x2 : Int} {o3 : Option j_V} {s0 : Int} : j_fin C 74 69 [some (jR 68), some (jR 4), some (jI x2), o3] [jI s0] (hH L m) = if s0 < 0 then some (some (jI (-5)), hH L m) else if 0 ≤ s0 ∧ s0 < 40 then if (m 84 s0.toNat) < 0 then some (some (jI s0), hH L m) else if 0 ≤ s0 ∧ s0 < 40 then (C 75 [jR 68, jR 4, jI s0] (hH L (j_up m 85 s0.toNat 0))).bind fun z => j_fin C 74 101 [some (jR 68), some (jR 4), some (jI x2), some (jI s0)] (z.1.toList ++ []) z.2 else none else none := by
  refine (S_istore_n (l1 := [some (jR 68), some (jR 4), some (jI x2), some (jI s0)]) rfl at_74_69).trans ?_
  refine (S_iload_n rfl at_74_70).trans ?_
  refine (S_if_ge at_74_71).trans ?_
  refine ite_congr rfl (fun _ => ?_) (fun _ => ?_)
  · refine (S_bipush at_74_74).trans ?_
    exact S_ireti rfl at_74_76
  · refine (S_aload_n rfl at_74_77).trans ?_
    refine (S_getR (ka_68 L _) rfl (f_68_9 L _) at_74_78).trans ?_
    refine (S_iload_n rfl at_74_81).trans ?_
    refine (H_iaload (ka_84 L _) at_74_82).trans ?_
    refine ite_congr rfl (fun hi => ?_) (fun _ => rfl)
    refine (S_if_ge at_74_83).trans ?_
    refine ite_congr rfl (fun _ => ?_) (fun _ => ?_)
    · refine (S_iload_n rfl at_74_86).trans ?_
      exact S_ireti rfl at_74_87
    · refine (S_aload_n rfl at_74_88).trans ?_
      refine (S_getR (ka_68 L _) rfl (f_68_10 L _) at_74_89).trans ?_
      refine (S_iload_n rfl at_74_92).trans ?_
      refine (S_iconst at_74_93).trans ?_
      refine (H_bastore35 (by omega) (ka_85 L _) at_74_94).trans ?_
      refine ite_congr rfl (fun hi => ?_) (fun _ => rfl)
      refine (if_pos (by decide)).trans ?_
      refine (S_aload_n rfl at_74_95).trans ?_
      refine (S_aload_n rfl at_74_96).trans ?_
      refine (S_iload_n rfl at_74_97).trans ?_
      refine (S_invv (b := 2) kn_75 rfl (ka_68 L _) (Nat.le_of_ble_eq_true rfl) at_74_98).trans ?_
      rfl
theorem T74_101 {C : Nat → List j_V → j_H → Option j_Z} {L : Nat} {m : j_M0} {x2 : Int} {x3 : Int} {s0 : Int} : j_fin C 74 101 [some (jR 68), some (jR 4), some (jI x2), some (jI x3)] [jI s0] (hH L m) = if s0 = 0 then some (some (jI (-6)), hH L m) else j_fin C 74 59 [some (jR 68), some (jR 4), some (jI (w32 (x2 + 1))), some (jI x3)] [] (hH L m) := by
  refine (S_if_ne at_74_101).trans ?_
  refine ite_congr rfl (fun _ => ?_) (fun _ => ?_)
  · refine (S_bipush at_74_104).trans ?_
    exact S_ireti rfl at_74_106
  · refine (S_iinc (l1 := [some (jR 68), some (jR 4), some (jI (w32 (x2 + 1))), some (jI x3)]) rfl rfl at_74_107).trans ?_
    refine (S_goto at_74_110).trans ?_
    rfl
theorem T75_0 {C : Nat → List j_V → j_H → Option j_Z} {L : Nat} {m : j_M0} {x2 : Int} : j_fin C 75 0 [some (jR 68), some (jR 4), some (jI x2), none, none, none] [] (hH L m) = if 0 ≤ x2 ∧ x2 < 40 then if 0 ≤ (w32 ((w32 (x2 * 5)) + (m 84 x2.toNat))) ∧ (w32 ((w32 (x2 * 5)) + (m 84 x2.toNat))) < 200 then if (m 68 0) < 40 then (C 76 [jR 68, jI x2] (hH L m)).bind fun z => j_fin C 75 35 [some (jR 68), some (jR 4), some (jI x2), some (jI (m 84 x2.toNat)), some (jL (m 70 (w32 ((w32 (x2 * 5)) + (m 84 x2.toNat))).toNat)), none] (z.1.toList ++ []) z.2 else some (some (jI 0), hH L m) else none else none := by
  refine (S_aload_n rfl at_75_0).trans ?_
  refine (S_getR (ka_68 L _) rfl (f_68_9 L _) at_75_1).trans ?_
  refine (S_iload_n rfl at_75_4).trans ?_
  refine (H_iaload (ka_84 L _) at_75_5).trans ?_
  refine ite_congr rfl (fun hi => ?_) (fun _ => rfl)
  refine (S_istore_n (l1 := [some (jR 68), some (jR 4), some (jI x2), some (jI (m 84 x2.toNat)), none, none]) rfl at_75_6).trans ?_
  refine (S_aload_n rfl at_75_7).trans ?_
  refine (S_getR (ka_68 L _) rfl (f_68_3 L _) at_75_8).trans ?_
  refine (S_iload_n rfl at_75_11).trans ?_
  refine (S_iconst at_75_12).trans ?_
  refine (S_imul at_75_13).trans ?_
  refine (S_iload_n rfl at_75_14).trans ?_
  refine (S_iadd at_75_15).trans ?_
  refine (H_laload (ka_70 L _) at_75_16).trans ?_
  refine ite_congr rfl (fun hi => ?_) (fun _ => rfl)
  refine (S_lstore (l1 := [some (jR 68), some (jR 4), some (jI x2), some (jI (m 84 x2.toNat)), some (jL (m 70 (w32 ((w32 (x2 * 5)) + (m 84 x2.toNat))).toNat)), none]) rfl at_75_17).trans ?_
  refine (S_aload_n rfl at_75_19).trans ?_
  refine (H_get0 (ka_68 L _) rfl at_75_20).trans ?_
  refine (S_bipush at_75_23).trans ?_
  refine (S_icmp_lt at_75_25).trans ?_
  refine ite_congr rfl (fun _ => ?_) (fun _ => ?_)
  · refine (S_aload_n rfl at_75_30).trans ?_
    refine (S_iload_n rfl at_75_31).trans ?_
    refine (S_invv (b := 1) kn_76 rfl (ka_68 L _) (Nat.le_of_ble_eq_true rfl) at_75_32).trans ?_
    rfl
  · refine (S_iconst at_75_28).trans ?_
    exact (S_iretz rfl at_75_29).trans (if_pos (by decide))
theorem T75_35 {C : Nat → List j_V → j_H → Option j_Z} {L : Nat} {m : j_M0} {x2 : Int} {x3 : Int} {y4 : Int} : j_fin C 75 35 [some (jR 68), some (jR 4), some (jI x2), some (jI x3), some (jL y4), none] [] (hH L m) = if 0 ≤ (w32 ((w32 ((m 68 0) * 5)) + x3)) ∧ (w32 ((w32 ((m 68 0) * 5)) + x3)) < 200 then (C 77 [jR 68, jR 4] (hH L (j_up m 81 (w32 ((w32 ((m 68 0) * 5)) + x3)).toNat y4))).bind fun z => j_fin C 75 55 [some (jR 68), some (jR 4), some (jI x2), some (jI x3), some (jL y4), none] (z.1.toList ++ []) z.2 else none := by
  refine (S_aload_n rfl at_75_35).trans ?_
  refine (S_getR (ka_68 L _) rfl (f_68_6 L _) at_75_36).trans ?_
  refine (S_aload_n rfl at_75_39).trans ?_
  refine (H_get0 (ka_68 L _) rfl at_75_40).trans ?_
  refine (S_iconst at_75_43).trans ?_
  refine (S_imul at_75_44).trans ?_
  refine (S_iload_n rfl at_75_45).trans ?_
  refine (S_iadd at_75_46).trans ?_
  refine (S_lload rfl at_75_47).trans ?_
  refine (H_lastore (by omega) (ka_81 L _) at_75_49).trans ?_
  refine ite_congr rfl (fun hi => ?_) (fun _ => rfl)
  refine (S_aload_n rfl at_75_50).trans ?_
  refine (S_aload_n rfl at_75_51).trans ?_
  refine (S_invv (b := 1) kn_77 rfl (ka_68 L _) (Nat.le_of_ble_eq_true rfl) at_75_52).trans ?_
  rfl
theorem T75_55 {C : Nat → List j_V → j_H → Option j_Z} {L : Nat} {m : j_M0} {x2 : Int} {x3 : Int} {y4 : Int} {s0 : Int} : j_fin C 75 55 [some (jR 68), some (jR 4), some (jI x2), some (jI x3), some (jL y4), none] [jI s0] (hH L m) = if s0 = 0 then some (some (jI 0), hH L m) else if (m 68 0) < 40 then (C 76 [jR 68, jI x2] (hH L m)).bind fun z => j_fin C 75 76 [some (jR 68), some (jR 4), some (jI x2), some (jI x3), some (jL y4), none] (z.1.toList ++ []) z.2 else some (some (jI 0), hH L m) := by
  refine (S_if_ne at_75_55).trans ?_
  refine ite_congr rfl (fun _ => ?_) (fun _ => ?_)
  · refine (S_iconst at_75_58).trans ?_
    exact (S_iretz rfl at_75_59).trans (if_pos (by decide))
  · refine (S_aload_n rfl at_75_60).trans ?_
    refine (H_get0 (ka_68 L _) rfl at_75_61).trans ?_
    refine (S_bipush at_75_64).trans ?_
    refine (S_icmp_lt at_75_66).trans ?_
    refine ite_congr rfl (fun _ => ?_) (fun _ => ?_)
    · refine (S_aload_n rfl at_75_71).trans ?_
      refine (S_iload_n rfl at_75_72).trans ?_
      refine (S_invv (b := 1) kn_76 rfl (ka_68 L _) (Nat.le_of_ble_eq_true rfl) at_75_73).trans ?_
      rfl
    · refine (S_iconst at_75_69).trans ?_
      exact (S_iretz rfl at_75_70).trans (if_pos (by decide))
theorem T75_76 {C : Nat → List j_V → j_H → Option j_Z} {L : Nat} {m : j_M0} {x2 : Int} {x3 : Int} {y4 : Int} : j_fin C 75 76 [some (jR 68), some (jR 4), some (jI x2), some (jI x3), some (jL y4), none] [] (hH L m) = if 0 ≤ (w32 ((w32 ((m 68 0) * 5)) + x3)) ∧ (w32 ((w32 ((m 68 0) * 5)) + x3)) < 200 then (C 77 [jR 68, jR 4] (hH L (j_up m 80 (w32 ((w32 ((m 68 0) * 5)) + x3)).toNat (w64 (y4 + 1))))).bind fun z => j_fin C 75 98 [some (jR 68), some (jR 4), some (jI x2), some (jI x3), some (jL y4), none] (z.1.toList ++ []) z.2 else none := by
  refine (S_aload_n rfl at_75_76).trans ?_
  refine (S_getR (ka_68 L _) rfl (f_68_5 L _) at_75_77).trans ?_
  refine (S_aload_n rfl at_75_80).trans ?_
  refine (H_get0 (ka_68 L _) rfl at_75_81).trans ?_
  refine (S_iconst at_75_84).trans ?_
  refine (S_imul at_75_85).trans ?_
  refine (S_iload_n rfl at_75_86).trans ?_
  refine (S_iadd at_75_87).trans ?_
  refine (S_lload rfl at_75_88).trans ?_
  refine (S_lconst at_75_90).trans ?_
  refine (S_ladd at_75_91).trans ?_
  refine (H_lastore (by omega) (ka_80 L _) at_75_92).trans ?_
  refine ite_congr rfl (fun hi => ?_) (fun _ => rfl)
  refine (S_aload_n rfl at_75_93).trans ?_
  refine (S_aload_n rfl at_75_94).trans ?_
  refine (S_invv (b := 1) kn_77 rfl (ka_68 L _) (Nat.le_of_ble_eq_true rfl) at_75_95).trans ?_
  rfl
theorem T75_98 {C : Nat → List j_V → j_H → Option j_Z} {L : Nat} {m : j_M0} {x2 : Int} {x3 : Int} {y4 : Int} {s0 : Int} : j_fin C 75 98 [some (jR 68), some (jR 4), some (jI x2), some (jI x3), some (jL y4), none] [jI s0] (hH L m) = if s0 = 0 ∨ s0 = 1 then some (some (jI s0), hH L m) else none := by
  exact S_iretz rfl at_75_98
theorem T76_0 {C : Nat → List j_V → j_H → Option j_Z} {L : Nat} {m : j_M0} {x1 : Int} : j_fin C 76 0 [some (jR 68), some (jI x1)] [] (hH L m) = if 0 ≤ x1 ∧ x1 < 40 then if 0 ≤ (m 68 0) ∧ (m 68 0) < 40 then if 0 ≤ (5 : Int) ∧ 0 ≤ (w32 (x1 * 5)) ∧ 0 ≤ (w32 (((j_up m 69 (m 68 0).toNat (w32 ((m 69 x1.toNat) + 1))) 68 0) * 5)) ∧ (w32 (x1 * 5)) + (5 : Int) ≤ 200 ∧ (w32 (((j_up m 69 (m 68 0).toNat (w32 ((m 69 x1.toNat) + 1))) 68 0) * 5)) + (5 : Int) ≤ 200 then if 0 ≤ (5 : Int) ∧ 0 ≤ (w32 (x1 * 5)) ∧ 0 ≤ (w32 (((j_cpy (j_up m 69 (m 68 0).toNat (w32 ((m 69 x1.toNat) + 1))) 80 (w32 (x1 * 5)).toNat 80 (w32 (((j_up m 69 (m 68 0).toNat (w32 ((m 69 x1.toNat) + 1))) 68 0) * 5)).toNat 5) 68 0) * 5)) ∧ (w32 (x1 * 5)) + (5 : Int) ≤ 200 ∧ (w32 (((j_cpy (j_up m 69 (m 68 0).toNat (w32 ((m 69 x1.toNat) + 1))) 80 (w32 (x1 * 5)).toNat 80 (w32 (((j_up m 69 (m 68 0).toNat (w32 ((m 69 x1.toNat) + 1))) 68 0) * 5)).toNat 5) 68 0) * 5)) + (5 : Int) ≤ 200 then some (none, hH L (j_cpy (j_cpy (j_up m 69 (m 68 0).toNat (w32 ((m 69 x1.toNat) + 1))) 80 (w32 (x1 * 5)).toNat 80 (w32 (((j_up m 69 (m 68 0).toNat (w32 ((m 69 x1.toNat) + 1))) 68 0) * 5)).toNat 5) 81 (w32 (x1 * 5)).toNat 81 (w32 (((j_cpy (j_up m 69 (m 68 0).toNat (w32 ((m 69 x1.toNat) + 1))) 80 (w32 (x1 * 5)).toNat 80 (w32 (((j_up m 69 (m 68 0).toNat (w32 ((m 69 x1.toNat) + 1))) 68 0) * 5)).toNat 5) 68 0) * 5)).toNat 5)) else none else none else none else none := by
  refine (S_aload_n rfl at_76_0).trans ?_
  refine (S_getR (ka_68 L _) rfl (f_68_2 L _) at_76_1).trans ?_
  refine (S_aload_n rfl at_76_4).trans ?_
  refine (H_get0 (ka_68 L _) rfl at_76_5).trans ?_
  refine (S_aload_n rfl at_76_8).trans ?_
  refine (S_getR (ka_68 L _) rfl (f_68_2 L _) at_76_9).trans ?_
  refine (S_iload_n rfl at_76_12).trans ?_
  refine (H_iaload (ka_69 L _) at_76_13).trans ?_
  refine ite_congr rfl (fun hi => ?_) (fun _ => rfl)
  refine (S_iconst at_76_14).trans ?_
  refine (S_iadd at_76_15).trans ?_
  refine (H_iastore (by omega) (ka_69 L _) at_76_16).trans ?_
  refine ite_congr rfl (fun hi => ?_) (fun _ => rfl)
  refine (S_aload_n rfl at_76_17).trans ?_
  refine (S_getR (ka_68 L _) rfl (f_68_5 L _) at_76_18).trans ?_
  refine (S_iload_n rfl at_76_21).trans ?_
  refine (S_iconst at_76_22).trans ?_
  refine (S_imul at_76_23).trans ?_
  refine (S_aload_n rfl at_76_24).trans ?_
  refine (S_getR (ka_68 L _) rfl (f_68_5 L _) at_76_25).trans ?_
  refine (S_aload_n rfl at_76_28).trans ?_
  refine (H_get0 (ka_68 L _) rfl at_76_29).trans ?_
  refine (S_iconst at_76_32).trans ?_
  refine (S_imul at_76_33).trans ?_
  refine (S_iconst at_76_34).trans ?_
  refine (H_cpy rfl (by decide) (ka_80 L _) (ka_80 L _) (by omega) (Nat.le_of_ble_eq_true rfl) at_76_35).trans ?_
  refine ite_congr rfl (fun hi => ?_) (fun _ => rfl)
  refine (S_aload_n rfl at_76_38).trans ?_
  refine (S_getR (ka_68 L _) rfl (f_68_6 L _) at_76_39).trans ?_
  refine (S_iload_n rfl at_76_42).trans ?_
  refine (S_iconst at_76_43).trans ?_
  refine (S_imul at_76_44).trans ?_
  refine (S_aload_n rfl at_76_45).trans ?_
  refine (S_getR (ka_68 L _) rfl (f_68_6 L _) at_76_46).trans ?_
  refine (S_aload_n rfl at_76_49).trans ?_
  refine (H_get0 (ka_68 L _) rfl at_76_50).trans ?_
  refine (S_iconst at_76_53).trans ?_
  refine (S_imul at_76_54).trans ?_
  refine (S_iconst at_76_55).trans ?_
  refine (H_cpy rfl (by decide) (ka_81 L _) (ka_81 L _) (by omega) (Nat.le_of_ble_eq_true rfl) at_76_56).trans ?_
  refine ite_congr rfl (fun hi => ?_) (fun _ => rfl)
  exact S_ret rfl at_76_59
theorem T77_0 {C : Nat → List j_V → j_H → Option j_Z} {L : Nat} {m : j_M0} : j_fin C 77 0 [some (jR 68), some (jR 4), none, none, none] [] (hH L m) = (C 38 [jR 71, jR 4] (hH L (j_up m 68 0 (w32 ((m 68 0) + 1))))).bind fun z => j_fin C 77 23 [some (jR 68), some (jR 4), some (jI (m 68 0)), none, none] (z.1.toList ++ []) z.2 := by
  refine (S_aload_n rfl at_77_0).trans ?_
  refine (H_get0 (ka_68 L _) rfl at_77_1).trans ?_
  refine (S_istore_n (l1 := [some (jR 68), some (jR 4), some (jI (m 68 0)), none, none]) rfl at_77_4).trans ?_
  refine (S_aload_n rfl at_77_5).trans ?_
  refine (S_dup rfl at_77_6).trans ?_
  refine (H_get0 (ka_68 L _) rfl at_77_7).trans ?_
  refine (S_iconst at_77_10).trans ?_
  refine (S_iadd at_77_11).trans ?_
  refine (H_put0 (ka_68 L _) rfl at_77_12).trans ?_
  refine (S_aload_n rfl at_77_15).trans ?_
  refine (S_getR (ka_68 L _) rfl (f_68_4 L _) at_77_16).trans ?_
  refine (S_aload_n rfl at_77_19).trans ?_
  refine (S_invv (b := 1) kn_38 rfl (ka_71 L _) (Nat.le_of_ble_eq_true rfl) at_77_20).trans ?_
  rfl
theorem T77_23 {C : Nat → List j_V → j_H → Option j_Z} {L : Nat} {m : j_M0} {x2 : Int} : j_fin C 77 23 [some (jR 68), some (jR 4), some (jI x2), none, none] [] (hH L m) = j_fin C 77 25 [some (jR 68), some (jR 4), some (jI x2), some (jI 0), none] [] (hH L m) := by
  refine (S_iconst at_77_23).trans ?_
  refine (S_istore_n (l1 := [some (jR 68), some (jR 4), some (jI x2), some (jI 0), none]) rfl at_77_24).trans ?_
  rfl
theorem T77_25 {C : Nat → List j_V → j_H → Option j_Z} {L : Nat} {m : j_M0} {x2 : Int} {x3 : Int} : j_fin C 77 25 [some (jR 68), some (jR 4), some (jI x2), some (jI x3), none] [] (hH L m) = if x3 < (m 4 0) then if 0 ≤ (w32 ((w32 (x2 * 5)) + x3)) ∧ (w32 ((w32 (x2 * 5)) + x3)) < 200 then if 0 < (j_cmp (m 80 (w32 ((w32 (x2 * 5)) + x3)).toNat) 0) then if 0 ≤ (w32 ((w32 (x2 * 5)) + x3)) ∧ (w32 ((w32 (x2 * 5)) + x3)) < 200 then (C 40 [jR 71, jI x3, jL (m 80 (w32 ((w32 (x2 * 5)) + x3)).toNat)] (hH L m)).bind fun z => j_fin C 77 66 [some (jR 68), some (jR 4), some (jI x2), some (jI x3), none] (z.1.toList ++ []) z.2 else none else j_fin C 77 66 [some (jR 68), some (jR 4), some (jI x2), some (jI x3), none] [] (hH L m) else none else (C 45 [jR 71] (hH L m)).bind fun z => j_fin C 77 112 [some (jR 68), some (jR 4), some (jI x2), some (jI x3), none] (z.1.toList ++ []) z.2 := by
  refine (S_iload_n rfl at_77_25).trans ?_
  refine (S_aload_n rfl at_77_26).trans ?_
  refine (H_get0 (ka_4 L _) rfl at_77_27).trans ?_
  refine (S_icmp_ge at_77_30).trans ?_
  refine ite_congr rfl (fun _ => ?_) (fun _ => ?_)
  · refine (S_aload_n rfl at_77_33).trans ?_
    refine (S_getR (ka_68 L _) rfl (f_68_5 L _) at_77_34).trans ?_
    refine (S_iload_n rfl at_77_37).trans ?_
    refine (S_iconst at_77_38).trans ?_
    refine (S_imul at_77_39).trans ?_
    refine (S_iload_n rfl at_77_40).trans ?_
    refine (S_iadd at_77_41).trans ?_
    refine (H_laload (ka_80 L _) at_77_42).trans ?_
    refine ite_congr rfl (fun hi => ?_) (fun _ => rfl)
    refine (S_lconst at_77_43).trans ?_
    refine (S_lcmp at_77_44).trans ?_
    refine (S_if_le at_77_45).trans ?_
    refine ite_congr rfl (fun _ => ?_) (fun _ => ?_)
    · refine (S_aload_n rfl at_77_48).trans ?_
      refine (S_getR (ka_68 L _) rfl (f_68_4 L _) at_77_49).trans ?_
      refine (S_iload_n rfl at_77_52).trans ?_
      refine (S_aload_n rfl at_77_53).trans ?_
      refine (S_getR (ka_68 L _) rfl (f_68_5 L _) at_77_54).trans ?_
      refine (S_iload_n rfl at_77_57).trans ?_
      refine (S_iconst at_77_58).trans ?_
      refine (S_imul at_77_59).trans ?_
      refine (S_iload_n rfl at_77_60).trans ?_
      refine (S_iadd at_77_61).trans ?_
      refine (H_laload (ka_80 L _) at_77_62).trans ?_
      refine ite_congr rfl (fun hi => ?_) (fun _ => rfl)
      refine (S_invv (b := 2) kn_40 rfl (ka_71 L _) (Nat.le_of_ble_eq_true rfl) at_77_63).trans ?_
      rfl
    · rfl
  · refine (S_aload_n rfl at_77_105).trans ?_
    refine (S_getR (ka_68 L _) rfl (f_68_4 L _) at_77_106).trans ?_
    refine (S_invv (b := 0) kn_45 rfl (ka_71 L _) (Nat.le_of_ble_eq_true rfl) at_77_109).trans ?_
    rfl
theorem T77_66 {C : Nat → List j_V → j_H → Option j_Z} {L : Nat} {m : j_M0} {x2 : Int} {x3 : Int} : j_fin C 77 66 [some (jR 68), some (jR 4), some (jI x2), some (jI x3), none] [] (hH L m) = if 0 ≤ (w32 ((w32 (x2 * 5)) + x3)) ∧ (w32 ((w32 (x2 * 5)) + x3)) < 200 then if (j_cmp (m 81 (w32 ((w32 (x2 * 5)) + x3)).toNat) 0) < 0 then j_fin C 77 99 [some (jR 68), some (jR 4), some (jI x2), some (jI x3), none] [] (hH L m) else if 0 ≤ (w32 ((w32 (x2 * 5)) + x3)) ∧ (w32 ((w32 (x2 * 5)) + x3)) < 200 then (C 41 [jR 71, jI x3, jL (m 81 (w32 ((w32 (x2 * 5)) + x3)).toNat)] (hH L m)).bind fun z => j_fin C 77 99 [some (jR 68), some (jR 4), some (jI x2), some (jI x3), none] (z.1.toList ++ []) z.2 else none else none := by
  refine (S_aload_n rfl at_77_66).trans ?_
  refine (S_getR (ka_68 L _) rfl (f_68_6 L _) at_77_67).trans ?_
  refine (S_iload_n rfl at_77_70).trans ?_
  refine (S_iconst at_77_71).trans ?_
  refine (S_imul at_77_72).trans ?_
  refine (S_iload_n rfl at_77_73).trans ?_
  refine (S_iadd at_77_74).trans ?_
  refine (H_laload (ka_81 L _) at_77_75).trans ?_
  refine ite_congr rfl (fun hi => ?_) (fun _ => rfl)
  refine (S_lconst at_77_76).trans ?_
  refine (S_lcmp at_77_77).trans ?_
  refine (S_if_lt at_77_78).trans ?_
  refine ite_congr rfl (fun _ => ?_) (fun _ => ?_)
  · rfl
  · refine (S_aload_n rfl at_77_81).trans ?_
    refine (S_getR (ka_68 L _) rfl (f_68_4 L _) at_77_82).trans ?_
    refine (S_iload_n rfl at_77_85).trans ?_
    refine (S_aload_n rfl at_77_86).trans ?_
    refine (S_getR (ka_68 L _) rfl (f_68_6 L _) at_77_87).trans ?_
    refine (S_iload_n rfl at_77_90).trans ?_
    refine (S_iconst at_77_91).trans ?_
    refine (S_imul at_77_92).trans ?_
    refine (S_iload_n rfl at_77_93).trans ?_
    refine (S_iadd at_77_94).trans ?_
    refine (H_laload (ka_81 L _) at_77_95).trans ?_
    refine ite_congr rfl (fun hi => ?_) (fun _ => rfl)
    refine (S_invv (b := 2) kn_41 rfl (ka_71 L _) (Nat.le_of_ble_eq_true rfl) at_77_96).trans ?_
    rfl
theorem T77_99 {C : Nat → List j_V → j_H → Option j_Z} {L : Nat} {m : j_M0} {x2 : Int} {x3 : Int} : j_fin C 77 99 [some (jR 68), some (jR 4), some (jI x2), some (jI x3), none] [] (hH L m) = j_fin C 77 25 [some (jR 68), some (jR 4), some (jI x2), some (jI (w32 (x3 + 1))), none] [] (hH L m) := by
  refine (S_iinc (l1 := [some (jR 68), some (jR 4), some (jI x2), some (jI (w32 (x3 + 1))), none]) rfl rfl at_77_99).trans ?_
  refine (S_goto at_77_102).trans ?_
  rfl
theorem T77_112 {C : Nat → List j_V → j_H → Option j_Z} {L : Nat} {m : j_M0} {x2 : Int} {x3 : Int} {s0 : Int} : j_fin C 77 112 [some (jR 68), some (jR 4), some (jI x2), some (jI x3), none] [jI s0] (hH L m) = if s0 = 3 then if 0 ≤ x2 ∧ x2 < 40 then if 0 ≤ x2 ∧ x2 < 40 then if 0 ≤ x2 ∧ x2 < 40 then (C 57 [jR 71] (hH L (j_up (j_up (j_up (j_up m 68 1 (w32 ((m 68 1) + (m 71 2)))) 85 x2.toNat 1) 82 x2.toNat ((j_up (j_up m 68 1 (w32 ((m 68 1) + (m 71 2)))) 85 x2.toNat 1) 71 3)) 83 x2.toNat ((j_up (j_up (j_up m 68 1 (w32 ((m 68 1) + (m 71 2)))) 85 x2.toNat 1) 82 x2.toNat ((j_up (j_up m 68 1 (w32 ((m 68 1) + (m 71 2)))) 85 x2.toNat 1) 71 3)) 71 4)))).bind fun z => j_fin C 77 183 [some (jR 68), some (jR 4), some (jI x2), some (jI s0), none] (z.1.toList ++ [jI x2, jR 84]) z.2 else none else none else none else if 0 ≤ x2 ∧ x2 < 40 then if 0 ≤ x2 ∧ x2 < 40 then if 0 ≤ x2 ∧ x2 < 40 then (C 57 [jR 71] (hH L (j_up (j_up (j_up (j_up m 68 1 (w32 ((m 68 1) + (m 71 2)))) 85 x2.toNat 0) 82 x2.toNat ((j_up (j_up m 68 1 (w32 ((m 68 1) + (m 71 2)))) 85 x2.toNat 0) 71 3)) 83 x2.toNat ((j_up (j_up (j_up m 68 1 (w32 ((m 68 1) + (m 71 2)))) 85 x2.toNat 0) 82 x2.toNat ((j_up (j_up m 68 1 (w32 ((m 68 1) + (m 71 2)))) 85 x2.toNat 0) 71 3)) 71 4)))).bind fun z => j_fin C 77 183 [some (jR 68), some (jR 4), some (jI x2), some (jI s0), none] (z.1.toList ++ [jI x2, jR 84]) z.2 else none else none else none := by
  refine (S_istore_n (l1 := [some (jR 68), some (jR 4), some (jI x2), some (jI s0), none]) rfl at_77_112).trans ?_
  refine (S_aload_n rfl at_77_113).trans ?_
  refine (S_dup rfl at_77_114).trans ?_
  refine (H_get0 (ka_68 L _) rfl at_77_115).trans ?_
  refine (S_aload_n rfl at_77_118).trans ?_
  refine (S_getR (ka_68 L _) rfl (f_68_4 L _) at_77_119).trans ?_
  refine (H_get0 (ka_71 L _) rfl at_77_122).trans ?_
  refine (S_iadd at_77_125).trans ?_
  refine (H_put0 (ka_68 L _) rfl at_77_126).trans ?_
  refine (S_aload_n rfl at_77_129).trans ?_
  refine (S_getR (ka_68 L _) rfl (f_68_10 L _) at_77_130).trans ?_
  refine (S_iload_n rfl at_77_133).trans ?_
  refine (S_iload_n rfl at_77_134).trans ?_
  refine (S_iconst at_77_135).trans ?_
  refine (S_icmp_ne at_77_136).trans ?_
  refine ite_congr rfl (fun _ => ?_) (fun _ => ?_)
  · refine (S_iconst at_77_139).trans ?_
    refine (S_goto at_77_140).trans ?_
    refine (H_bastore35 (by omega) (ka_85 L _) at_77_144).trans ?_
    refine ite_congr rfl (fun hi => ?_) (fun _ => rfl)
    refine (if_pos (by decide)).trans ?_
    refine (S_aload_n rfl at_77_145).trans ?_
    refine (S_getR (ka_68 L _) rfl (f_68_7 L _) at_77_146).trans ?_
    refine (S_iload_n rfl at_77_149).trans ?_
    refine (S_aload_n rfl at_77_150).trans ?_
    refine (S_getR (ka_68 L _) rfl (f_68_4 L _) at_77_151).trans ?_
    refine (H_get1 (ka_71 L _) rfl at_77_154).trans ?_
    refine (H_lastore (by omega) (ka_82 L _) at_77_157).trans ?_
    refine ite_congr rfl (fun hi => ?_) (fun _ => rfl)
    refine (S_aload_n rfl at_77_158).trans ?_
    refine (S_getR (ka_68 L _) rfl (f_68_8 L _) at_77_159).trans ?_
    refine (S_iload_n rfl at_77_162).trans ?_
    refine (S_aload_n rfl at_77_163).trans ?_
    refine (S_getR (ka_68 L _) rfl (f_68_4 L _) at_77_164).trans ?_
    refine (H_get1 (ka_71 L _) rfl at_77_167).trans ?_
    refine (H_lastore (by omega) (ka_83 L _) at_77_170).trans ?_
    refine ite_congr rfl (fun hi => ?_) (fun _ => rfl)
    refine (S_aload_n rfl at_77_171).trans ?_
    refine (S_getR (ka_68 L _) rfl (f_68_9 L _) at_77_172).trans ?_
    refine (S_iload_n rfl at_77_175).trans ?_
    refine (S_aload_n rfl at_77_176).trans ?_
    refine (S_getR (ka_68 L _) rfl (f_68_4 L _) at_77_177).trans ?_
    refine (S_invv (b := 0) kn_57 rfl (ka_71 L _) (Nat.le_of_ble_eq_true rfl) at_77_180).trans ?_
    rfl
  · refine (S_iconst at_77_143).trans ?_
    refine (H_bastore35 (by omega) (ka_85 L _) at_77_144).trans ?_
    refine ite_congr rfl (fun hi => ?_) (fun _ => rfl)
    refine (if_pos (by decide)).trans ?_
    refine (S_aload_n rfl at_77_145).trans ?_
    refine (S_getR (ka_68 L _) rfl (f_68_7 L _) at_77_146).trans ?_
    refine (S_iload_n rfl at_77_149).trans ?_
    refine (S_aload_n rfl at_77_150).trans ?_
    refine (S_getR (ka_68 L _) rfl (f_68_4 L _) at_77_151).trans ?_
    refine (H_get1 (ka_71 L _) rfl at_77_154).trans ?_
    refine (H_lastore (by omega) (ka_82 L _) at_77_157).trans ?_
    refine ite_congr rfl (fun hi => ?_) (fun _ => rfl)
    refine (S_aload_n rfl at_77_158).trans ?_
    refine (S_getR (ka_68 L _) rfl (f_68_8 L _) at_77_159).trans ?_
    refine (S_iload_n rfl at_77_162).trans ?_
    refine (S_aload_n rfl at_77_163).trans ?_
    refine (S_getR (ka_68 L _) rfl (f_68_4 L _) at_77_164).trans ?_
    refine (H_get1 (ka_71 L _) rfl at_77_167).trans ?_
    refine (H_lastore (by omega) (ka_83 L _) at_77_170).trans ?_
    refine ite_congr rfl (fun hi => ?_) (fun _ => rfl)
    refine (S_aload_n rfl at_77_171).trans ?_
    refine (S_getR (ka_68 L _) rfl (f_68_9 L _) at_77_172).trans ?_
    refine (S_iload_n rfl at_77_175).trans ?_
    refine (S_aload_n rfl at_77_176).trans ?_
    refine (S_getR (ka_68 L _) rfl (f_68_4 L _) at_77_177).trans ?_
    refine (S_invv (b := 0) kn_57 rfl (ka_71 L _) (Nat.le_of_ble_eq_true rfl) at_77_180).trans ?_
    rfl
theorem T77_183 {C : Nat → List j_V → j_H → Option j_Z} {L : Nat} {m : j_M0} {x2 : Int} {x3 : Int} {s1 : Int} {s2 : Int} : j_fin C 77 183 [some (jR 68), some (jR 4), some (jI x2), some (jI x3), none] [jI s2, jI s1, jR 84] (hH L m) = if 0 ≤ s1 ∧ s1 < 40 then j_fin C 77 187 [some (jR 68), some (jR 4), some (jI x2), some (jI x3), some (jI 0)] [] (hH L (j_up m 84 s1.toNat s2)) else none := by
  refine (H_iastore (by omega) (ka_84 L _) at_77_183).trans ?_
  refine ite_congr rfl (fun hi => ?_) (fun _ => rfl)
  refine (S_iconst at_77_184).trans ?_
  refine (S_istore (l1 := [some (jR 68), some (jR 4), some (jI x2), some (jI x3), some (jI 0)]) rfl at_77_185).trans ?_
  rfl
theorem T77_187 {C : Nat → List j_V → j_H → Option j_Z} {L : Nat} {m : j_M0} {x2 : Int} {x3 : Int} {x4 : Int} : j_fin C 77 187 [some (jR 68), some (jR 4), some (jI x2), some (jI x3), some (jI x4)] [] (hH L m) = if x4 < (m 4 0) then (C 54 [jR 71, jI x4] (hH L m)).bind fun z => j_fin C 77 215 [some (jR 68), some (jR 4), some (jI x2), some (jI x3), some (jI x4)] (z.1.toList ++ [jI (w32 ((w32 (x2 * 5)) + x4)), jR 70]) z.2 else if x3 = (-6) then some (some (jI 0), hH L m) else some (some (jI 1), hH L m) := by
  refine (S_iload rfl at_77_187).trans ?_
  refine (S_aload_n rfl at_77_189).trans ?_
  refine (H_get0 (ka_4 L _) rfl at_77_190).trans ?_
  refine (S_icmp_ge at_77_193).trans ?_
  refine ite_congr rfl (fun _ => ?_) (fun _ => ?_)
  · refine (S_aload_n rfl at_77_196).trans ?_
    refine (S_getR (ka_68 L _) rfl (f_68_3 L _) at_77_197).trans ?_
    refine (S_iload_n rfl at_77_200).trans ?_
    refine (S_iconst at_77_201).trans ?_
    refine (S_imul at_77_202).trans ?_
    refine (S_iload rfl at_77_203).trans ?_
    refine (S_iadd at_77_205).trans ?_
    refine (S_aload_n rfl at_77_206).trans ?_
    refine (S_getR (ka_68 L _) rfl (f_68_4 L _) at_77_207).trans ?_
    refine (S_iload rfl at_77_210).trans ?_
    refine (S_invv (b := 1) kn_54 rfl (ka_71 L _) (Nat.le_of_ble_eq_true rfl) at_77_212).trans ?_
    rfl
  · refine (S_iload_n rfl at_77_222).trans ?_
    refine (S_bipush at_77_223).trans ?_
    refine (S_icmp_eq at_77_225).trans ?_
    refine ite_congr rfl (fun _ => ?_) (fun _ => ?_)
    · refine (S_iconst at_77_232).trans ?_
      exact (S_iretz rfl at_77_233).trans (if_pos (by decide))
    · refine (S_iconst at_77_228).trans ?_
      refine (S_goto at_77_229).trans ?_
      exact (S_iretz rfl at_77_233).trans (if_pos (by decide))
theorem T77_215 {C : Nat → List j_V → j_H → Option j_Z} {L : Nat} {m : j_M0} {x2 : Int} {x3 : Int} {x4 : Int} {s1 : Int} {t2 : Int} : j_fin C 77 215 [some (jR 68), some (jR 4), some (jI x2), some (jI x3), some (jI x4)] [jL t2, jI s1, jR 70] (hH L m) = if 0 ≤ s1 ∧ s1 < 200 then j_fin C 77 187 [some (jR 68), some (jR 4), some (jI x2), some (jI x3), some (jI (w32 (x4 + 1)))] [] (hH L (j_up m 70 s1.toNat t2)) else none := by
  refine (H_lastore (by omega) (ka_70 L _) at_77_215).trans ?_
  refine ite_congr rfl (fun hi => ?_) (fun _ => rfl)
  refine (S_iinc (l1 := [some (jR 68), some (jR 4), some (jI x2), some (jI x3), some (jI (w32 (x4 + 1)))]) rfl rfl at_77_216).trans ?_
  refine (S_goto at_77_219).trans ?_
  rfl
theorem T78_0 {C : Nat → List j_V → j_H → Option j_Z} {L : Nat} {m : j_M0} : j_fin C 78 0 [some (jR 68), none, none] [] (hH L m) = j_fin C 78 4 [some (jR 68), some (jI (-1)), some (jI 0)] [] (hH L m) := by
  refine (S_iconst at_78_0).trans ?_
  refine (S_istore_n (l1 := [some (jR 68), some (jI (-1)), none]) rfl at_78_1).trans ?_
  refine (S_iconst at_78_2).trans ?_
  refine (S_istore_n (l1 := [some (jR 68), some (jI (-1)), some (jI 0)]) rfl at_78_3).trans ?_
  rfl
theorem T78_4 {C : Nat → List j_V → j_H → Option j_Z} {L : Nat} {m : j_M0} {x1 : Int} {x2 : Int} : j_fin C 78 4 [some (jR 68), some (jI x1), some (jI x2)] [] (hH L m) = if x2 < (m 68 0) then if 0 ≤ x2 ∧ x2 < 40 then if (m 85 x2.toNat) = 0 then j_fin C 78 4 [some (jR 68), some (jI x1), some (jI (w32 (x2 + 1)))] [] (hH L m) else if x1 < 0 then j_fin C 78 4 [some (jR 68), some (jI x2), some (jI (w32 (x2 + 1)))] [] (hH L m) else if 0 ≤ x2 ∧ x2 < 40 then if 0 ≤ x1 ∧ x1 < 40 then if 0 ≤ x1 ∧ x1 < 40 then if 0 ≤ x2 ∧ x2 < 40 then if (j_cmp (w64 ((m 82 x2.toNat) * (m 83 x1.toNat))) (w64 ((m 82 x1.toNat) * (m 83 x2.toNat)))) < 0 then j_fin C 78 4 [some (jR 68), some (jI x2), some (jI (w32 (x2 + 1)))] [] (hH L m) else j_fin C 78 4 [some (jR 68), some (jI x1), some (jI (w32 (x2 + 1)))] [] (hH L m) else none else none else none else none else none else some (some (jI x1), hH L m) := by
  refine (S_iload_n rfl at_78_4).trans ?_
  refine (S_aload_n rfl at_78_5).trans ?_
  refine (H_get0 (ka_68 L _) rfl at_78_6).trans ?_
  refine (S_icmp_ge at_78_9).trans ?_
  refine ite_congr rfl (fun _ => ?_) (fun _ => ?_)
  · refine (S_aload_n rfl at_78_12).trans ?_
    refine (S_getR (ka_68 L _) rfl (f_68_10 L _) at_78_13).trans ?_
    refine (S_iload_n rfl at_78_16).trans ?_
    refine (H_baload35 (ka_85 L _) at_78_17).trans ?_
    refine ite_congr rfl (fun hi => ?_) (fun _ => rfl)
    refine (S_if_ne at_78_18).trans ?_
    refine ite_congr rfl (fun _ => ?_) (fun _ => ?_)
    · refine (S_goto at_78_21).trans ?_
      refine (S_iinc (l1 := [some (jR 68), some (jI x1), some (jI (w32 (x2 + 1)))]) rfl rfl at_78_60).trans ?_
      refine (S_goto at_78_63).trans ?_
      rfl
    · refine (S_iload_n rfl at_78_24).trans ?_
      refine (S_if_lt at_78_25).trans ?_
      refine ite_congr rfl (fun _ => ?_) (fun _ => ?_)
      · refine (S_iload_n rfl at_78_58).trans ?_
        refine (S_istore_n (l1 := [some (jR 68), some (jI x2), some (jI x2)]) rfl at_78_59).trans ?_
        refine (S_iinc (l1 := [some (jR 68), some (jI x2), some (jI (w32 (x2 + 1)))]) rfl rfl at_78_60).trans ?_
        refine (S_goto at_78_63).trans ?_
        rfl
      · refine (S_aload_n rfl at_78_28).trans ?_
        refine (S_getR (ka_68 L _) rfl (f_68_7 L _) at_78_29).trans ?_
        refine (S_iload_n rfl at_78_32).trans ?_
        refine (H_laload (ka_82 L _) at_78_33).trans ?_
        refine ite_congr rfl (fun hi => ?_) (fun _ => rfl)
        refine (S_aload_n rfl at_78_34).trans ?_
        refine (S_getR (ka_68 L _) rfl (f_68_8 L _) at_78_35).trans ?_
        refine (S_iload_n rfl at_78_38).trans ?_
        refine (H_laload (ka_83 L _) at_78_39).trans ?_
        refine ite_congr rfl (fun hi => ?_) (fun _ => rfl)
        refine (S_lmul at_78_40).trans ?_
        refine (S_aload_n rfl at_78_41).trans ?_
        refine (S_getR (ka_68 L _) rfl (f_68_7 L _) at_78_42).trans ?_
        refine (S_iload_n rfl at_78_45).trans ?_
        refine (H_laload (ka_82 L _) at_78_46).trans ?_
        refine ite_congr rfl (fun hi => ?_) (fun _ => rfl)
        refine (S_aload_n rfl at_78_47).trans ?_
        refine (S_getR (ka_68 L _) rfl (f_68_8 L _) at_78_48).trans ?_
        refine (S_iload_n rfl at_78_51).trans ?_
        refine (H_laload (ka_83 L _) at_78_52).trans ?_
        refine ite_congr rfl (fun hi => ?_) (fun _ => rfl)
        refine (S_lmul at_78_53).trans ?_
        refine (S_lcmp at_78_54).trans ?_
        refine (S_if_ge at_78_55).trans ?_
        refine ite_congr rfl (fun _ => ?_) (fun _ => ?_)
        · refine (S_iload_n rfl at_78_58).trans ?_
          refine (S_istore_n (l1 := [some (jR 68), some (jI x2), some (jI x2)]) rfl at_78_59).trans ?_
          refine (S_iinc (l1 := [some (jR 68), some (jI x2), some (jI (w32 (x2 + 1)))]) rfl rfl at_78_60).trans ?_
          refine (S_goto at_78_63).trans ?_
          rfl
        · refine (S_iinc (l1 := [some (jR 68), some (jI x1), some (jI (w32 (x2 + 1)))]) rfl rfl at_78_60).trans ?_
          refine (S_goto at_78_63).trans ?_
          rfl
  · refine (S_iload_n rfl at_78_66).trans ?_
    exact S_ireti rfl at_78_67
theorem T79_0 {C : Nat → List j_V → j_H → Option j_Z} {L : Nat} {m : j_M0} {x1 : Int} : j_fin C 79 0 [some (jR 68), some (jI x1)] [] (hH L m) = if 0 ≤ x1 ∧ x1 < 40 then if 0 < (j_cmp (m 83 x1.toNat) 0) then if 0 ≤ x1 ∧ x1 < 40 then if 0 ≤ x1 ∧ x1 < 40 then if m 83 x1.toNat = 0 then none else some (some (jL (w64 (Int.tdiv (m 82 x1.toNat) (m 83 x1.toNat)))), hH L m) else none else none else some (some (jL 0), hH L m) else none := by
  refine (S_aload_n rfl at_79_0).trans ?_
  refine (S_getR (ka_68 L _) rfl (f_68_8 L _) at_79_1).trans ?_
  refine (S_iload_n rfl at_79_4).trans ?_
  refine (H_laload (ka_83 L _) at_79_5).trans ?_
  refine ite_congr rfl (fun hi => ?_) (fun _ => rfl)
  refine (S_lconst at_79_6).trans ?_
  refine (S_lcmp at_79_7).trans ?_
  refine (S_if_le at_79_8).trans ?_
  refine ite_congr rfl (fun _ => ?_) (fun _ => ?_)
  · refine (S_aload_n rfl at_79_11).trans ?_
    refine (S_getR (ka_68 L _) rfl (f_68_7 L _) at_79_12).trans ?_
    refine (S_iload_n rfl at_79_15).trans ?_
    refine (H_laload (ka_82 L _) at_79_16).trans ?_
    refine ite_congr rfl (fun hi => ?_) (fun _ => rfl)
    refine (S_aload_n rfl at_79_17).trans ?_
    refine (S_getR (ka_68 L _) rfl (f_68_8 L _) at_79_18).trans ?_
    refine (S_iload_n rfl at_79_21).trans ?_
    refine (H_laload (ka_83 L _) at_79_22).trans ?_
    refine ite_congr rfl (fun hi => ?_) (fun _ => rfl)
    refine (S_ldiv at_79_23).trans ?_
    refine ite_congr rfl (fun _ => rfl) (fun hz => ?_)
    refine (S_goto at_79_24).trans ?_
    exact S_lret rfl at_79_28
  · refine (S_lconst at_79_27).trans ?_
    exact S_lret rfl at_79_28
theorem T81_0 {C : Nat → List j_V → j_H → Option j_Z} {L : Nat} {m : j_M0} {x2 : Int} : j_fin C 81 0 [some (jR 86), some (jR 4), some (jI x2), none] [] (hH L m) = (C 8 [jR 155, jR 4] (hH L m)).bind fun z => j_fin C 81 8 [some (jR 86), some (jR 4), some (jI x2), none] (z.1.toList ++ []) z.2 := by
  refine (S_aload_n rfl at_81_0).trans ?_
  refine (S_getR (ka_86 L _) rfl (f_86_4 L _) at_81_1).trans ?_
  refine (S_aload_n rfl at_81_4).trans ?_
  refine (S_invv (b := 1) kn_8 rfl (ka_155 L _) (Nat.le_of_ble_eq_true rfl) at_81_5).trans ?_
  rfl
theorem T81_8 {C : Nat → List j_V → j_H → Option j_Z} {L : Nat} {m : j_M0} {x2 : Int} : j_fin C 81 8 [some (jR 86), some (jR 4), some (jI x2), none] [] (hH L m) = j_fin C 81 30 [some (jR 86), some (jR 4), some (jI x2), some (jI 0)] [] (hH L (j_up (j_up (j_up (j_up m 86 3 x2) 86 0 1) 86 1 0) 86 2 0)) := by
  refine (S_aload_n rfl at_81_8).trans ?_
  refine (S_iload_n rfl at_81_9).trans ?_
  refine (H_put0 (ka_86 L _) rfl at_81_10).trans ?_
  refine (S_aload_n rfl at_81_13).trans ?_
  refine (S_iconst at_81_14).trans ?_
  refine (H_put0 (ka_86 L _) rfl at_81_15).trans ?_
  refine (S_aload_n rfl at_81_18).trans ?_
  refine (S_iconst at_81_19).trans ?_
  refine (H_put0 (ka_86 L _) rfl at_81_20).trans ?_
  refine (S_aload_n rfl at_81_23).trans ?_
  refine (S_iconst at_81_24).trans ?_
  refine (H_put0 (ka_86 L _) rfl at_81_25).trans ?_
  refine (S_iconst at_81_28).trans ?_
  refine (S_istore_n (l1 := [some (jR 86), some (jR 4), some (jI x2), some (jI 0)]) rfl at_81_29).trans ?_
  rfl
theorem T81_30 {C : Nat → List j_V → j_H → Option j_Z} {L : Nat} {m : j_M0} {x2 : Int} {x3 : Int} : j_fin C 81 30 [some (jR 86), some (jR 4), some (jI x2), some (jI x3)] [] (hH L m) = if x3 < (m 155 0) then if 0 ≤ x3 ∧ x3 < 5 then j_fin C 81 30 [some (jR 86), some (jR 4), some (jI x2), some (jI (w32 (x3 + 1)))] [] (hH L (j_up (j_up m 87 x3.toNat 0) 86 0 (w32 (((j_up m 87 x3.toNat 0) 86 0) * (w32 (((j_up m 87 x3.toNat 0) 86 3) + 1)))))) else none else j_fin C 81 71 [some (jR 86), some (jR 4), some (jI x2), some (jI 0)] [] (hH L m) := by
  refine (S_iload_n rfl at_81_30).trans ?_
  refine (S_aload_n rfl at_81_31).trans ?_
  refine (S_getR (ka_86 L _) rfl (f_86_4 L _) at_81_32).trans ?_
  refine (H_get0 (ka_155 L _) rfl at_81_35).trans ?_
  refine (S_icmp_ge at_81_38).trans ?_
  refine ite_congr rfl (fun _ => ?_) (fun _ => ?_)
  · refine (S_aload_n rfl at_81_41).trans ?_
    refine (S_getR (ka_86 L _) rfl (f_86_5 L _) at_81_42).trans ?_
    refine (S_iload_n rfl at_81_45).trans ?_
    refine (S_iconst at_81_46).trans ?_
    refine (H_iastore (by omega) (ka_87 L _) at_81_47).trans ?_
    refine ite_congr rfl (fun hi => ?_) (fun _ => rfl)
    refine (S_aload_n rfl at_81_48).trans ?_
    refine (S_dup rfl at_81_49).trans ?_
    refine (H_get0 (ka_86 L _) rfl at_81_50).trans ?_
    refine (S_aload_n rfl at_81_53).trans ?_
    refine (H_get0 (ka_86 L _) rfl at_81_54).trans ?_
    refine (S_iconst at_81_57).trans ?_
    refine (S_iadd at_81_58).trans ?_
    refine (S_imul at_81_59).trans ?_
    refine (H_put0 (ka_86 L _) rfl at_81_60).trans ?_
    refine (S_iinc (l1 := [some (jR 86), some (jR 4), some (jI x2), some (jI (w32 (x3 + 1)))]) rfl rfl at_81_63).trans ?_
    refine (S_goto at_81_66).trans ?_
    rfl
  · refine (S_iconst at_81_69).trans ?_
    refine (S_istore_n (l1 := [some (jR 86), some (jR 4), some (jI x2), some (jI 0)]) rfl at_81_70).trans ?_
    rfl
theorem T81_71 {C : Nat → List j_V → j_H → Option j_Z} {L : Nat} {m : j_M0} {x2 : Int} {x3 : Int} : j_fin C 81 71 [some (jR 86), some (jR 4), some (jI x2), some (jI x3)] [] (hH L m) = if x3 < (m 155 1) then (C 13 [jR 155, jI x3, jI (m 155 0)] (hH L m)).bind fun z => j_fin C 81 102 [some (jR 86), some (jR 4), some (jI x2), some (jI x3)] (z.1.toList ++ [jI x3, jR 88]) z.2 else some (none, hH L m) := by
  refine (S_iload_n rfl at_81_71).trans ?_
  refine (S_aload_n rfl at_81_72).trans ?_
  refine (S_getR (ka_86 L _) rfl (f_86_4 L _) at_81_73).trans ?_
  refine (H_get0 (ka_155 L _) rfl at_81_76).trans ?_
  refine (S_icmp_ge at_81_79).trans ?_
  refine ite_congr rfl (fun _ => ?_) (fun _ => ?_)
  · refine (S_aload_n rfl at_81_82).trans ?_
    refine (S_getR (ka_86 L _) rfl (f_86_6 L _) at_81_83).trans ?_
    refine (S_iload_n rfl at_81_86).trans ?_
    refine (S_aload_n rfl at_81_87).trans ?_
    refine (S_getR (ka_86 L _) rfl (f_86_4 L _) at_81_88).trans ?_
    refine (S_iload_n rfl at_81_91).trans ?_
    refine (S_aload_n rfl at_81_92).trans ?_
    refine (S_getR (ka_86 L _) rfl (f_86_4 L _) at_81_93).trans ?_
    refine (H_get0 (ka_155 L _) rfl at_81_96).trans ?_
    refine (S_invv (b := 2) kn_13 rfl (ka_155 L _) (Nat.le_of_ble_eq_true rfl) at_81_99).trans ?_
    rfl
  · exact S_ret rfl at_81_109
