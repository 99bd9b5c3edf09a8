theorem T188_232_109_115 {C : Nat → List j_V → j_H → Option j_Z} {L : Nat} {m : j_M0} {x2 : Int} {x3 : Int} {x4 : Int} {y5 : Int} {x7 : Int} {o8 : Option j_V} {o9 : Option j_V} {t0 : Int} {t1 : Int} {t2 : Int} : j_fin C 188 232 [some (jR 109), some (jR 115), some (jI x2), some (jI x3), some (jI x4), some (jL y5), none, some (jI x7), o8, o9, none] [jL t2, jL t1, jL t0] (hH L m) = j_fin C 188 179 [some (jR 109), some (jR 115), some (jI x2), some (jI x3), some (jI x4), some (jL (w64 (t0 - (w64 (t1 * t2))))), none, some (jI (w32 (x7 + 1))), o8, o9, none] [] (hH L m) := by
  refine (S_lmul at_188_232).trans ?_
  refine (S_lsub at_188_233).trans ?_
  refine (S_lstore (l1 := [some (jR 109), some (jR 115), some (jI x2), some (jI x3), some (jI x4), some (jL (w64 (t0 - (w64 (t1 * t2))))), none, some (jI x7), o8, o9, none]) rfl at_188_234).trans ?_
  refine (S_iinc (l1 := [some (jR 109), some (jR 115), some (jI x2), some (jI x3), some (jI x4), some (jL (w64 (t0 - (w64 (t1 * t2))))), none, some (jI (w32 (x7 + 1))), o8, o9, none]) rfl rfl at_188_236).trans ?_
  refine (S_goto at_188_239).trans ?_
  rfl
theorem T188_260_109_115 {C : Nat → List j_V → j_H → Option j_Z} {L : Nat} {m : j_M0} {x2 : Int} {x3 : Int} {x4 : Int} {y5 : Int} {x7 : Int} {o8 : Option j_V} {o9 : Option j_V} {s0 : Int} : j_fin C 188 260 [some (jR 109), some (jR 115), some (jI x2), some (jI x3), some (jI x4), some (jL y5), none, some (jI x7), o8, o9, none] [jI s0] (hH L m) = if s0 = 0 then some (some (jI 0), hH L m) else some (some (jI 1), hH L m) := by
  refine (S_if_eq at_188_260).trans ?_
  refine ite_congr rfl (fun _ => ?_) (fun _ => ?_)
  · refine (S_iconst at_188_267).trans ?_
    exact (S_iretz rfl at_188_268).trans (if_pos (by decide))
  · refine (S_iconst at_188_263).trans ?_
    refine (S_goto at_188_264).trans ?_
    exact (S_iretz rfl at_188_268).trans (if_pos (by decide))
theorem T188_0_109_128 {C : Nat → List j_V → j_H → Option j_Z} {L : Nat} {m : j_M0} {x2 : Int} : j_fin C 188 0 [some (jR 109), some (jR 128), some (jI x2), none, none, none, none, none, none, none, none] [] (hH L m) = j_fin C 188 11 [some (jR 109), some (jR 128), some (jI x2), some (jI (m 128 16)), some (jI 1), some (jI 0), none, none, none, none, none] [] (hH L m) := by
  refine (S_aload_n rfl at_188_0).trans ?_
  refine (H_get0 (ka_128 L _) rfl at_188_1).trans ?_
  refine (S_istore_n (l1 := [some (jR 109), some (jR 128), some (jI x2), some (jI (m 128 16)), none, none, none, none, none, none, none]) rfl at_188_4).trans ?_
  refine (S_iconst at_188_5).trans ?_
  refine (S_istore (l1 := [some (jR 109), some (jR 128), some (jI x2), some (jI (m 128 16)), some (jI 1), none, none, none, none, none, none]) rfl at_188_6).trans ?_
  refine (S_iconst at_188_8).trans ?_
  refine (S_istore (l1 := [some (jR 109), some (jR 128), some (jI x2), some (jI (m 128 16)), some (jI 1), some (jI 0), none, none, none, none, none]) rfl at_188_9).trans ?_
  rfl
theorem T188_11_109_128 {C : Nat → List j_V → j_H → Option j_Z} {L : Nat} {m : j_M0} {x2 : Int} {x3 : Int} {x4 : Int} {x5 : Int} {o6 : Option j_V} {o8 : Option j_V} {o9 : Option j_V} : j_fin C 188 11 [some (jR 109), some (jR 128), some (jI x2), some (jI x3), some (jI x4), some (jI x5), o6, none, o8, o9, none] [] (hH L m) = if x5 < (m 128 14) then if 0 ≤ x2 ∧ x2 < 20 then if (m 135 x2.toNat) = x5 then j_fin C 188 41 [some (jR 109), some (jR 128), some (jI x2), some (jI x3), some (jI x4), some (jI x5), some (jL 1), none, some (jI 0), o9, none] [] (hH L m) else j_fin C 188 41 [some (jR 109), some (jR 128), some (jI x2), some (jI x3), some (jI x4), some (jI x5), some (jL 0), none, some (jI 0), o9, none] [] (hH L m) else none else if 0 ≤ x2 ∧ x2 < 20 then (C 265 [jL (m 130 x2.toNat), jL (m 128 13)] (hH L m)).bind fun z => j_fin C 188 174 [some (jR 109), some (jR 128), some (jI x2), some (jI x3), some (jI x4), some (jI x5), o6, none, o8, o9, none] (z.1.toList ++ []) z.2 else none := by
  refine (S_iload rfl at_188_11).trans ?_
  refine (S_aload_n rfl at_188_13).trans ?_
  refine (H_get0 (ka_128 L _) rfl at_188_14).trans ?_
  refine (S_icmp_ge at_188_17).trans ?_
  refine ite_congr rfl (fun _ => ?_) (fun _ => ?_)
  · refine (S_aload_n rfl at_188_20).trans ?_
    refine (S_getR (ka_128 L _) rfl (f_128_6 L _) at_188_21).trans ?_
    refine (S_iload_n rfl at_188_24).trans ?_
    refine (H_iaload (ka_135 L _) at_188_25).trans ?_
    refine ite_congr rfl (fun hi => ?_) (fun _ => rfl)
    refine (S_iload rfl at_188_26).trans ?_
    refine (S_icmp_ne at_188_28).trans ?_
    refine ite_congr rfl (fun _ => ?_) (fun _ => ?_)
    · refine (S_lconst at_188_31).trans ?_
      refine (S_goto at_188_32).trans ?_
      refine (S_lstore (l1 := [some (jR 109), some (jR 128), some (jI x2), some (jI x3), some (jI x4), some (jI x5), some (jL 1), none, o8, o9, none]) rfl at_188_36).trans ?_
      refine (S_iconst at_188_38).trans ?_
      refine (S_istore (l1 := [some (jR 109), some (jR 128), some (jI x2), some (jI x3), some (jI x4), some (jI x5), some (jL 1), none, some (jI 0), o9, none]) rfl at_188_39).trans ?_
      rfl
    · refine (S_lconst at_188_35).trans ?_
      refine (S_lstore (l1 := [some (jR 109), some (jR 128), some (jI x2), some (jI x3), some (jI x4), some (jI x5), some (jL 0), none, o8, o9, none]) rfl at_188_36).trans ?_
      refine (S_iconst at_188_38).trans ?_
      refine (S_istore (l1 := [some (jR 109), some (jR 128), some (jI x2), some (jI x3), some (jI x4), some (jI x5), some (jL 0), none, some (jI 0), o9, none]) rfl at_188_39).trans ?_
      rfl
  · refine (S_aload_n rfl at_188_161).trans ?_
    refine (S_getR (ka_128 L _) rfl (f_128_1 L _) at_188_162).trans ?_
    refine (S_iload_n rfl at_188_165).trans ?_
    refine (H_laload (ka_130 L _) at_188_166).trans ?_
    refine ite_congr rfl (fun hi => ?_) (fun _ => rfl)
    refine (S_aload_n rfl at_188_167).trans ?_
    refine (H_get1 (ka_128 L _) rfl at_188_168).trans ?_
    refine (S_invs (by decide) (Nat.le_of_ble_eq_true rfl) (Nat.le_of_ble_eq_true rfl) at_188_171).trans ?_
    rfl
theorem T188_41_109_128 {C : Nat → List j_V → j_H → Option j_Z} {L : Nat} {m : j_M0} {x2 : Int} {x3 : Int} {x4 : Int} {x5 : Int} {y6 : Int} {x8 : Int} {o9 : Option j_V} : j_fin C 188 41 [some (jR 109), some (jR 128), some (jI x2), some (jI x3), some (jI x4), some (jI x5), some (jL y6), none, some (jI x8), o9, none] [] (hH L m) = if x8 < (m 128 14) then if 0 ≤ (w32 ((w32 (5 * x2)) + x8)) ∧ (w32 ((w32 (5 * x2)) + x8)) < 100 then (C 265 [jL (m 129 (w32 ((w32 (5 * x2)) + x8)).toNat), jL (m 128 13)] (hH L m)).bind fun z => j_fin C 188 68 [some (jR 109), some (jR 128), some (jI x2), some (jI x3), some (jI x4), some (jI x5), some (jL y6), none, some (jI x8), o9, none] (z.1.toList ++ []) z.2 else none else if 0 ≤ (w32 ((w32 (5 * x3)) + x5)) ∧ (w32 ((w32 (5 * x3)) + x5)) < 60 then (C 179 [jL y6] (hH L (j_up m 137 (w32 ((w32 (5 * x3)) + x5)).toNat y6))).bind fun z => j_fin C 188 152 [some (jR 109), some (jR 128), some (jI x2), some (jI x3), some (jI x4), some (jI x5), some (jL y6), none, some (jI x8), o9, none] (z.1.toList ++ [jI x4]) z.2 else none := by
  refine (S_iload rfl at_188_41).trans ?_
  refine (S_aload_n rfl at_188_43).trans ?_
  refine (H_get0 (ka_128 L _) rfl at_188_44).trans ?_
  refine (S_icmp_ge at_188_47).trans ?_
  refine ite_congr rfl (fun _ => ?_) (fun _ => ?_)
  · refine (S_aload_n rfl at_188_50).trans ?_
    refine (S_getR (ka_128 L _) rfl (f_128_0 L _) at_188_51).trans ?_
    refine (S_iconst at_188_54).trans ?_
    refine (S_iload_n rfl at_188_55).trans ?_
    refine (S_imul at_188_56).trans ?_
    refine (S_iload rfl at_188_57).trans ?_
    refine (S_iadd at_188_59).trans ?_
    refine (H_laload (ka_129 L _) at_188_60).trans ?_
    refine ite_congr rfl (fun hi => ?_) (fun _ => rfl)
    refine (S_aload_n rfl at_188_61).trans ?_
    refine (H_get1 (ka_128 L _) rfl at_188_62).trans ?_
    refine (S_invs (by decide) (Nat.le_of_ble_eq_true rfl) (Nat.le_of_ble_eq_true rfl) at_188_65).trans ?_
    rfl
  · refine (S_aload_n rfl at_188_132).trans ?_
    refine (S_getR (ka_128 L _) rfl (f_128_8 L _) at_188_133).trans ?_
    refine (S_iconst at_188_136).trans ?_
    refine (S_iload_n rfl at_188_137).trans ?_
    refine (S_imul at_188_138).trans ?_
    refine (S_iload rfl at_188_139).trans ?_
    refine (S_iadd at_188_141).trans ?_
    refine (S_lload rfl at_188_142).trans ?_
    refine (H_lastore (by omega) (ka_137 L _) at_188_144).trans ?_
    refine ite_congr rfl (fun hi => ?_) (fun _ => rfl)
    refine (S_iload rfl at_188_145).trans ?_
    refine (S_lload rfl at_188_147).trans ?_
    refine (S_invs (by decide) (Nat.le_of_ble_eq_true rfl) (Nat.le_of_ble_eq_true rfl) at_188_149).trans ?_
    rfl
theorem T188_68_109_128 {C : Nat → List j_V → j_H → Option j_Z} {L : Nat} {m : j_M0} {x2 : Int} {x3 : Int} {x4 : Int} {x5 : Int} {y6 : Int} {x8 : Int} {o9 : Option j_V} {t0 : Int} : j_fin C 188 68 [some (jR 109), some (jR 128), some (jI x2), some (jI x3), some (jI x4), some (jI x5), some (jL y6), none, some (jI x8), o9, none] [jL t0] (hH L m) = if 0 ≤ x8 ∧ x8 < 5 then if (m 136 x8.toNat) < 10 then if 0 ≤ x8 ∧ x8 < 5 then if (m 136 x8.toNat) = x5 then j_fin C 188 41 [some (jR 109), some (jR 128), some (jI x2), some (jI x3), some (jI x4), some (jI x5), some (jL (w64 (y6 + t0))), none, some (jI (w32 (x8 + 1))), some (jL t0), none] [] (hH L m) else j_fin C 188 41 [some (jR 109), some (jR 128), some (jI x2), some (jI x3), some (jI x4), some (jI x5), some (jL (w64 (y6 + 0))), none, some (jI (w32 (x8 + 1))), some (jL t0), none] [] (hH L m) else none else if 0 ≤ x8 ∧ x8 < 5 then (C 186 [jR 109, jR 128, jI (m 136 x8.toNat), jI x5] (hH L m)).bind fun z => j_fin C 188 122 [some (jR 109), some (jR 128), some (jI x2), some (jI x3), some (jI x4), some (jI x5), some (jL y6), none, some (jI x8), some (jL t0), none] (z.1.toList ++ [jL (w64 (-t0)), jL y6]) z.2 else none else none := by
  refine (S_lstore (l1 := [some (jR 109), some (jR 128), some (jI x2), some (jI x3), some (jI x4), some (jI x5), some (jL y6), none, some (jI x8), some (jL t0), none]) rfl at_188_68).trans ?_
  refine (S_lload rfl at_188_70).trans ?_
  refine (S_aload_n rfl at_188_72).trans ?_
  refine (S_getR (ka_128 L _) rfl (f_128_7 L _) at_188_73).trans ?_
  refine (S_iload rfl at_188_76).trans ?_
  refine (H_iaload (ka_136 L _) at_188_78).trans ?_
  refine ite_congr rfl (fun hi => ?_) (fun _ => rfl)
  refine (S_bipush at_188_79).trans ?_
  refine (S_icmp_ge at_188_81).trans ?_
  refine ite_congr rfl (fun _ => ?_) (fun _ => ?_)
  · refine (S_aload_n rfl at_188_84).trans ?_
    refine (S_getR (ka_128 L _) rfl (f_128_7 L _) at_188_85).trans ?_
    refine (S_iload rfl at_188_88).trans ?_
    refine (H_iaload (ka_136 L _) at_188_90).trans ?_
    refine ite_congr rfl (fun hi => ?_) (fun _ => rfl)
    refine (S_iload rfl at_188_91).trans ?_
    refine (S_icmp_ne at_188_93).trans ?_
    refine ite_congr rfl (fun _ => ?_) (fun _ => ?_)
    · refine (S_lload rfl at_188_96).trans ?_
      refine (S_goto at_188_98).trans ?_
      refine (S_ladd at_188_123).trans ?_
      refine (S_lstore (l1 := [some (jR 109), some (jR 128), some (jI x2), some (jI x3), some (jI x4), some (jI x5), some (jL (w64 (y6 + t0))), none, some (jI x8), some (jL t0), none]) rfl at_188_124).trans ?_
      refine (S_iinc (l1 := [some (jR 109), some (jR 128), some (jI x2), some (jI x3), some (jI x4), some (jI x5), some (jL (w64 (y6 + t0))), none, some (jI (w32 (x8 + 1))), some (jL t0), none]) rfl rfl at_188_126).trans ?_
      refine (S_goto at_188_129).trans ?_
      rfl
    · refine (S_lconst at_188_101).trans ?_
      refine (S_goto at_188_102).trans ?_
      refine (S_ladd at_188_123).trans ?_
      refine (S_lstore (l1 := [some (jR 109), some (jR 128), some (jI x2), some (jI x3), some (jI x4), some (jI x5), some (jL (w64 (y6 + 0))), none, some (jI x8), some (jL t0), none]) rfl at_188_124).trans ?_
      refine (S_iinc (l1 := [some (jR 109), some (jR 128), some (jI x2), some (jI x3), some (jI x4), some (jI x5), some (jL (w64 (y6 + 0))), none, some (jI (w32 (x8 + 1))), some (jL t0), none]) rfl rfl at_188_126).trans ?_
      refine (S_goto at_188_129).trans ?_
      rfl
  · refine (S_lload rfl at_188_105).trans ?_
    refine (S_lneg at_188_107).trans ?_
    refine (S_aload_n rfl at_188_108).trans ?_
    refine (S_aload_n rfl at_188_109).trans ?_
    refine (S_aload_n rfl at_188_110).trans ?_
    refine (S_getR (ka_128 L _) rfl (f_128_7 L _) at_188_111).trans ?_
    refine (S_iload rfl at_188_114).trans ?_
    refine (H_iaload (ka_136 L _) at_188_116).trans ?_
    refine ite_congr rfl (fun hi => ?_) (fun _ => rfl)
    refine (S_iload rfl at_188_117).trans ?_
    refine (S_invv (b := 3) kn_186 rfl (ka_109 L _) (Nat.le_of_ble_eq_true rfl) at_188_119).trans ?_
    rfl
theorem T188_122_109_128 {C : Nat → List j_V → j_H → Option j_Z} {L : Nat} {m : j_M0} {x2 : Int} {x3 : Int} {x4 : Int} {x5 : Int} {y6 : Int} {x8 : Int} {y9 : Int} {t0 : Int} {t1 : Int} {t2 : Int} : j_fin C 188 122 [some (jR 109), some (jR 128), some (jI x2), some (jI x3), some (jI x4), some (jI x5), some (jL y6), none, some (jI x8), some (jL y9), none] [jL t2, jL t1, jL t0] (hH L m) = j_fin C 188 41 [some (jR 109), some (jR 128), some (jI x2), some (jI x3), some (jI x4), some (jI x5), some (jL (w64 (t0 + (w64 (t1 * t2))))), none, some (jI (w32 (x8 + 1))), some (jL y9), none] [] (hH L m) := by
  refine (S_lmul at_188_122).trans ?_
  refine (S_ladd at_188_123).trans ?_
  refine (S_lstore (l1 := [some (jR 109), some (jR 128), some (jI x2), some (jI x3), some (jI x4), some (jI x5), some (jL (w64 (t0 + (w64 (t1 * t2))))), none, some (jI x8), some (jL y9), none]) rfl at_188_124).trans ?_
  refine (S_iinc (l1 := [some (jR 109), some (jR 128), some (jI x2), some (jI x3), some (jI x4), some (jI x5), some (jL (w64 (t0 + (w64 (t1 * t2))))), none, some (jI (w32 (x8 + 1))), some (jL y9), none]) rfl rfl at_188_126).trans ?_
  refine (S_goto at_188_129).trans ?_
  rfl
theorem T188_152_109_128 {C : Nat → List j_V → j_H → Option j_Z} {L : Nat} {m : j_M0} {x2 : Int} {x3 : Int} {x4 : Int} {x5 : Int} {y6 : Int} {x8 : Int} {o9 : Option j_V} {s0 : Int} {s1 : Int} : j_fin C 188 152 [some (jR 109), some (jR 128), some (jI x2), some (jI x3), some (jI x4), some (jI x5), some (jL y6), none, some (jI x8), o9, none] [jI s1, jI s0] (hH L m) = j_fin C 188 11 [some (jR 109), some (jR 128), some (jI x2), some (jI x3), some (jI (j_and s0 s1)), some (jI (w32 (x5 + 1))), some (jL y6), none, some (jI x8), o9, none] [] (hH L m) := by
  refine (S_iand at_188_152).trans ?_
  refine (S_istore (l1 := [some (jR 109), some (jR 128), some (jI x2), some (jI x3), some (jI (j_and s0 s1)), some (jI x5), some (jL y6), none, some (jI x8), o9, none]) rfl at_188_153).trans ?_
  refine (S_iinc (l1 := [some (jR 109), some (jR 128), some (jI x2), some (jI x3), some (jI (j_and s0 s1)), some (jI (w32 (x5 + 1))), some (jL y6), none, some (jI x8), o9, none]) rfl rfl at_188_155).trans ?_
  refine (S_goto at_188_158).trans ?_
  rfl
theorem T188_174_109_128 {C : Nat → List j_V → j_H → Option j_Z} {L : Nat} {m : j_M0} {x2 : Int} {x3 : Int} {x4 : Int} {x5 : Int} {o6 : Option j_V} {o8 : Option j_V} {o9 : Option j_V} {t0 : Int} : j_fin C 188 174 [some (jR 109), some (jR 128), some (jI x2), some (jI x3), some (jI x4), some (jI x5), o6, none, o8, o9, none] [jL t0] (hH L m) = j_fin C 188 179 [some (jR 109), some (jR 128), some (jI x2), some (jI x3), some (jI x4), some (jL t0), none, some (jI 0), o8, o9, none] [] (hH L m) := by
  refine (S_lstore (l1 := [some (jR 109), some (jR 128), some (jI x2), some (jI x3), some (jI x4), some (jL t0), none, none, o8, o9, none]) rfl at_188_174).trans ?_
  refine (S_iconst at_188_176).trans ?_
  refine (S_istore (l1 := [some (jR 109), some (jR 128), some (jI x2), some (jI x3), some (jI x4), some (jL t0), none, some (jI 0), o8, o9, none]) rfl at_188_177).trans ?_
  rfl
theorem T188_179_109_128 {C : Nat → List j_V → j_H → Option j_Z} {L : Nat} {m : j_M0} {x2 : Int} {x3 : Int} {x4 : Int} {y5 : Int} {x7 : Int} {o8 : Option j_V} {o9 : Option j_V} : j_fin C 188 179 [some (jR 109), some (jR 128), some (jI x2), some (jI x3), some (jI x4), some (jL y5), none, some (jI x7), o8, o9, none] [] (hH L m) = if x7 < (m 128 14) then if 0 ≤ x7 ∧ x7 < 5 then if (m 136 x7.toNat) < 10 then j_fin C 188 179 [some (jR 109), some (jR 128), some (jI x2), some (jI x3), some (jI x4), some (jL y5), none, some (jI (w32 (x7 + 1))), o8, o9, none] [] (hH L m) else if 0 ≤ (w32 ((w32 (5 * x2)) + x7)) ∧ (w32 ((w32 (5 * x2)) + x7)) < 100 then (C 265 [jL (m 129 (w32 ((w32 (5 * x2)) + x7)).toNat), jL (m 128 13)] (hH L m)).bind fun z => j_fin C 188 220 [some (jR 109), some (jR 128), some (jI x2), some (jI x3), some (jI x4), some (jL y5), none, some (jI x7), o8, o9, none] (z.1.toList ++ [jL y5]) z.2 else none else none else if 0 ≤ x3 ∧ x3 < 12 then if x4 = 0 then some (some (jI 0), hH L (j_up m 138 x3.toNat y5)) else (C 179 [jL y5] (hH L (j_up m 138 x3.toNat y5))).bind fun z => j_fin C 188 260 [some (jR 109), some (jR 128), some (jI x2), some (jI x3), some (jI x4), some (jL y5), none, some (jI x7), o8, o9, none] (z.1.toList ++ []) z.2 else none := by
  refine (S_iload rfl at_188_179).trans ?_
  refine (S_aload_n rfl at_188_181).trans ?_
  refine (H_get0 (ka_128 L _) rfl at_188_182).trans ?_
  refine (S_icmp_ge at_188_185).trans ?_
  refine ite_congr rfl (fun _ => ?_) (fun _ => ?_)
  · refine (S_aload_n rfl at_188_188).trans ?_
    refine (S_getR (ka_128 L _) rfl (f_128_7 L _) at_188_189).trans ?_
    refine (S_iload rfl at_188_192).trans ?_
    refine (H_iaload (ka_136 L _) at_188_194).trans ?_
    refine ite_congr rfl (fun hi => ?_) (fun _ => rfl)
    refine (S_bipush at_188_195).trans ?_
    refine (S_icmp_lt at_188_197).trans ?_
    refine ite_congr rfl (fun _ => ?_) (fun _ => ?_)
    · refine (S_iinc (l1 := [some (jR 109), some (jR 128), some (jI x2), some (jI x3), some (jI x4), some (jL y5), none, some (jI (w32 (x7 + 1))), o8, o9, none]) rfl rfl at_188_236).trans ?_
      refine (S_goto at_188_239).trans ?_
      rfl
    · refine (S_lload rfl at_188_200).trans ?_
      refine (S_aload_n rfl at_188_202).trans ?_
      refine (S_getR (ka_128 L _) rfl (f_128_0 L _) at_188_203).trans ?_
      refine (S_iconst at_188_206).trans ?_
      refine (S_iload_n rfl at_188_207).trans ?_
      refine (S_imul at_188_208).trans ?_
      refine (S_iload rfl at_188_209).trans ?_
      refine (S_iadd at_188_211).trans ?_
      refine (H_laload (ka_129 L _) at_188_212).trans ?_
      refine ite_congr rfl (fun hi => ?_) (fun _ => rfl)
      refine (S_aload_n rfl at_188_213).trans ?_
      refine (H_get1 (ka_128 L _) rfl at_188_214).trans ?_
      refine (S_invs (by decide) (Nat.le_of_ble_eq_true rfl) (Nat.le_of_ble_eq_true rfl) at_188_217).trans ?_
      rfl
  · refine (S_aload_n rfl at_188_242).trans ?_
    refine (S_getR (ka_128 L _) rfl (f_128_9 L _) at_188_243).trans ?_
    refine (S_iload_n rfl at_188_246).trans ?_
    refine (S_lload rfl at_188_247).trans ?_
    refine (H_lastore (by omega) (ka_138 L _) at_188_249).trans ?_
    refine ite_congr rfl (fun hi => ?_) (fun _ => rfl)
    refine (S_iload rfl at_188_250).trans ?_
    refine (S_if_eq at_188_252).trans ?_
    refine ite_congr rfl (fun _ => ?_) (fun _ => ?_)
    · refine (S_iconst at_188_267).trans ?_
      exact (S_iretz rfl at_188_268).trans (if_pos (by decide))
    · refine (S_lload rfl at_188_255).trans ?_
      refine (S_invs (by decide) (Nat.le_of_ble_eq_true rfl) (Nat.le_of_ble_eq_true rfl) at_188_257).trans ?_
      rfl
theorem T188_220_109_128 {C : Nat → List j_V → j_H → Option j_Z} {L : Nat} {m : j_M0} {x2 : Int} {x3 : Int} {x4 : Int} {y5 : Int} {x7 : Int} {o8 : Option j_V} {o9 : Option j_V} {t0 : Int} {t1 : Int} : j_fin C 188 220 [some (jR 109), some (jR 128), some (jI x2), some (jI x3), some (jI x4), some (jL y5), none, some (jI x7), o8, o9, none] [jL t1, jL t0] (hH L m) = if 0 ≤ x7 ∧ x7 < 5 then (C 187 [jR 109, jR 128, jI (m 136 x7.toNat)] (hH L m)).bind fun z => j_fin C 188 232 [some (jR 109), some (jR 128), some (jI x2), some (jI x3), some (jI x4), some (jL y5), none, some (jI x7), o8, o9, none] (z.1.toList ++ [jL t1, jL t0]) z.2 else none := by
  refine (S_aload_n rfl at_188_220).trans ?_
  refine (S_aload_n rfl at_188_221).trans ?_
  refine (S_aload_n rfl at_188_222).trans ?_
  refine (S_getR (ka_128 L _) rfl (f_128_7 L _) at_188_223).trans ?_
  refine (S_iload rfl at_188_226).trans ?_
  refine (H_iaload (ka_136 L _) at_188_228).trans ?_
  refine ite_congr rfl (fun hi => ?_) (fun _ => rfl)
  refine (S_invv (b := 2) kn_187 rfl (ka_109 L _) (Nat.le_of_ble_eq_true rfl) at_188_229).trans ?_
  rfl
theorem T188_232_109_128 {C : Nat → List j_V → j_H → Option j_Z} {L : Nat} {m : j_M0} {x2 : Int} {x3 : Int} {x4 : Int} {y5 : Int} {x7 : Int} {o8 : Option j_V} {o9 : Option j_V} {t0 : Int} {t1 : Int} {t2 : Int} : j_fin C 188 232 [some (jR 109), some (jR 128), some (jI x2), some (jI x3), some (jI x4), some (jL y5), none, some (jI x7), o8, o9, none] [jL t2, jL t1, jL t0] (hH L m) = j_fin C 188 179 [some (jR 109), some (jR 128), some (jI x2), some (jI x3), some (jI x4), some (jL (w64 (t0 - (w64 (t1 * t2))))), none, some (jI (w32 (x7 + 1))), o8, o9, none] [] (hH L m) := by
  refine (S_lmul at_188_232).trans ?_
  refine (S_lsub at_188_233).trans ?_
  refine (S_lstore (l1 := [some (jR 109), some (jR 128), some (jI x2), some (jI x3), some (jI x4), some (jL (w64 (t0 - (w64 (t1 * t2))))), none, some (jI x7), o8, o9, none]) rfl at_188_234).trans ?_
  refine (S_iinc (l1 := [some (jR 109), some (jR 128), some (jI x2), some (jI x3), some (jI x4), some (jL (w64 (t0 - (w64 (t1 * t2))))), none, some (jI (w32 (x7 + 1))), o8, o9, none]) rfl rfl at_188_236).trans ?_
  refine (S_goto at_188_239).trans ?_
  rfl
theorem T188_260_109_128 {C : Nat → List j_V → j_H → Option j_Z} {L : Nat} {m : j_M0} {x2 : Int} {x3 : Int} {x4 : Int} {y5 : Int} {x7 : Int} {o8 : Option j_V} {o9 : Option j_V} {s0 : Int} : j_fin C 188 260 [some (jR 109), some (jR 128), some (jI x2), some (jI x3), some (jI x4), some (jL y5), none, some (jI x7), o8, o9, none] [jI s0] (hH L m) = if s0 = 0 then some (some (jI 0), hH L m) else some (some (jI 1), hH L m) := by
  refine (S_if_eq at_188_260).trans ?_
  refine ite_congr rfl (fun _ => ?_) (fun _ => ?_)
  · refine (S_iconst at_188_267).trans ?_
    exact (S_iretz rfl at_188_268).trans (if_pos (by decide))
  · refine (S_iconst at_188_263).trans ?_
    refine (S_goto at_188_264).trans ?_
    exact (S_iretz rfl at_188_268).trans (if_pos (by decide))
theorem T189_0_109_115 {C : Nat → List j_V → j_H → Option j_Z} {L : Nat} {m : j_M0} {x2 : Int} : j_fin C 189 0 [some (jR 109), some (jR 115), some (jI x2), none, none, none, none] [] (hH L m) = (C 188 [jR 109, jR 115, jI x2] (hH L m)).bind fun z => j_fin C 189 6 [some (jR 109), some (jR 115), some (jI x2), none, none, none, none] (z.1.toList ++ []) z.2 := by
  refine (S_aload_n rfl at_189_0).trans ?_
  refine (S_aload_n rfl at_189_1).trans ?_
  refine (S_iload_n rfl at_189_2).trans ?_
  refine (S_invv (b := 2) kn_188 rfl (ka_109 L _) (Nat.le_of_ble_eq_true rfl) at_189_3).trans ?_
  rfl
theorem T189_6_109_115 {C : Nat → List j_V → j_H → Option j_Z} {L : Nat} {m : j_M0} {x2 : Int} {s0 : Int} : j_fin C 189 6 [some (jR 109), some (jR 115), some (jI x2), none, none, none, none] [jI s0] (hH L m) = if s0 = 0 then some (some (jI 0), hH L m) else j_fin C 189 19 [some (jR 109), some (jR 115), some (jI x2), some (jI (m 115 16)), some (jI 0), none, none] [] (hH L m) := by
  refine (S_if_ne at_189_6).trans ?_
  refine ite_congr rfl (fun _ => ?_) (fun _ => ?_)
  · refine (S_iconst at_189_9).trans ?_
    exact (S_iretz rfl at_189_10).trans (if_pos (by decide))
  · refine (S_aload_n rfl at_189_11).trans ?_
    refine (H_get0 (ka_115 L _) rfl at_189_12).trans ?_
    refine (S_istore_n (l1 := [some (jR 109), some (jR 115), some (jI x2), some (jI (m 115 16)), none, none, none]) rfl at_189_15).trans ?_
    refine (S_iconst at_189_16).trans ?_
    refine (S_istore (l1 := [some (jR 109), some (jR 115), some (jI x2), some (jI (m 115 16)), some (jI 0), none, none]) rfl at_189_17).trans ?_
    rfl
theorem T189_19_109_115 {C : Nat → List j_V → j_H → Option j_Z} {L : Nat} {m : j_M0} {x2 : Int} {x3 : Int} {x4 : Int} : j_fin C 189 19 [some (jR 109), some (jR 115), some (jI x2), some (jI x3), some (jI x4), none, none] [] (hH L m) = if x4 < 20 then if 0 ≤ (w32 ((w32 (20 * x3)) + x4)) ∧ (w32 ((w32 (20 * x3)) + x4)) < 240 then j_fin C 189 19 [some (jR 109), some (jR 115), some (jI x2), some (jI x3), some (jI (w32 (x4 + 1))), none, none] [] (hH L (j_up m 126 (w32 ((w32 (20 * x3)) + x4)).toNat 0)) else none else if 0 ≤ x3 ∧ x3 < 12 then if 0 ≤ x2 ∧ x2 < 20 then (C 266 [jL ((j_up m 127 x3.toNat (m 115 13)) 117 x2.toNat), jL ((j_up m 127 x3.toNat (m 115 13)) 115 13)] (hH L (j_up m 127 x3.toNat (m 115 13)))).bind fun z => j_fin C 189 74 [some (jR 109), some (jR 115), some (jI x2), some (jI x3), some (jI x4), none, none] (z.1.toList ++ [jI (w32 (20 + x3)), jR 115, jR 109]) z.2 else none else none := by
  refine (S_iload rfl at_189_19).trans ?_
  refine (S_bipush at_189_21).trans ?_
  refine (S_icmp_ge at_189_23).trans ?_
  refine ite_congr rfl (fun _ => ?_) (fun _ => ?_)
  · refine (S_aload_n rfl at_189_26).trans ?_
    refine (S_getR (ka_115 L _) rfl (f_115_10 L _) at_189_27).trans ?_
    refine (S_bipush at_189_30).trans ?_
    refine (S_iload_n rfl at_189_32).trans ?_
    refine (S_imul at_189_33).trans ?_
    refine (S_iload rfl at_189_34).trans ?_
    refine (S_iadd at_189_36).trans ?_
    refine (S_lconst at_189_37).trans ?_
    refine (H_lastore (by omega) (ka_126 L _) at_189_38).trans ?_
    refine ite_congr rfl (fun hi => ?_) (fun _ => rfl)
    refine (S_iinc (l1 := [some (jR 109), some (jR 115), some (jI x2), some (jI x3), some (jI (w32 (x4 + 1))), none, none]) rfl rfl at_189_39).trans ?_
    refine (S_goto at_189_42).trans ?_
    rfl
  · refine (S_aload_n rfl at_189_45).trans ?_
    refine (S_getR (ka_115 L _) rfl (f_115_11 L _) at_189_46).trans ?_
    refine (S_iload_n rfl at_189_49).trans ?_
    refine (S_aload_n rfl at_189_50).trans ?_
    refine (H_get1 (ka_115 L _) rfl at_189_51).trans ?_
    refine (H_lastore (by omega) (ka_127 L _) at_189_54).trans ?_
    refine ite_congr rfl (fun hi => ?_) (fun _ => rfl)
    refine (S_aload_n rfl at_189_55).trans ?_
    refine (S_aload_n rfl at_189_56).trans ?_
    refine (S_bipush at_189_57).trans ?_
    refine (S_iload_n rfl at_189_59).trans ?_
    refine (S_iadd at_189_60).trans ?_
    refine (S_aload_n rfl at_189_61).trans ?_
    refine (S_getR (ka_115 L _) rfl (f_115_1 L _) at_189_62).trans ?_
    refine (S_iload_n rfl at_189_65).trans ?_
    refine (H_laload (ka_117 L _) at_189_66).trans ?_
    refine ite_congr rfl (fun hi => ?_) (fun _ => rfl)
    refine (S_aload_n rfl at_189_67).trans ?_
    refine (H_get1 (ka_115 L _) rfl at_189_68).trans ?_
    refine (S_invs (by decide) (Nat.le_of_ble_eq_true rfl) (Nat.le_of_ble_eq_true rfl) at_189_71).trans ?_
    rfl
theorem T189_74_109_115 {C : Nat → List j_V → j_H → Option j_Z} {L : Nat} {m : j_M0} {x2 : Int} {x3 : Int} {x4 : Int} {s2 : Int} {t3 : Int} : j_fin C 189 74 [some (jR 109), some (jR 115), some (jI x2), some (jI x3), some (jI x4), none, none] [jL t3, jI s2, jR 115, jR 109] (hH L m) = (C 177 [jR 109, jR 115, jI s2, jL (w64 (-t3))] (hH L m)).bind fun z => j_fin C 189 78 [some (jR 109), some (jR 115), some (jI x2), some (jI x3), some (jI x4), none, none] (z.1.toList ++ []) z.2 := by
  refine (S_lneg at_189_74).trans ?_
  refine (S_invv (b := 3) kn_177 rfl (ka_109 L _) (Nat.le_of_ble_eq_true rfl) at_189_75).trans ?_
  rfl
theorem T189_78_109_115 {C : Nat → List j_V → j_H → Option j_Z} {L : Nat} {m : j_M0} {x2 : Int} {x3 : Int} {x4 : Int} : j_fin C 189 78 [some (jR 109), some (jR 115), some (jI x2), some (jI x3), some (jI x4), none, none] [] (hH L m) = j_fin C 189 81 [some (jR 109), some (jR 115), some (jI x2), some (jI x3), some (jI 0), none, none] [] (hH L m) := by
  refine (S_iconst at_189_78).trans ?_
  refine (S_istore (l1 := [some (jR 109), some (jR 115), some (jI x2), some (jI x3), some (jI 0), none, none]) rfl at_189_79).trans ?_
  rfl
theorem T189_81_109_115 {C : Nat → List j_V → j_H → Option j_Z} {L : Nat} {m : j_M0} {x2 : Int} {x3 : Int} {x4 : Int} {o5 : Option j_V} : j_fin C 189 81 [some (jR 109), some (jR 115), some (jI x2), some (jI x3), some (jI x4), o5, none] [] (hH L m) = if x4 < (m 115 14) then if 0 ≤ (w32 ((w32 (5 * x2)) + x4)) ∧ (w32 ((w32 (5 * x2)) + x4)) < 100 then (C 266 [jL (m 116 (w32 ((w32 (5 * x2)) + x4)).toNat), jL (m 115 13)] (hH L m)).bind fun z => j_fin C 189 108 [some (jR 109), some (jR 115), some (jI x2), some (jI x3), some (jI x4), o5, none] (z.1.toList ++ []) z.2 else none else some (some (jI 1), hH L (j_up m 115 16 (w32 ((m 115 16) + 1)))) := by
  refine (S_iload rfl at_189_81).trans ?_
  refine (S_aload_n rfl at_189_83).trans ?_
  refine (H_get0 (ka_115 L _) rfl at_189_84).trans ?_
  refine (S_icmp_ge at_189_87).trans ?_
  refine ite_congr rfl (fun _ => ?_) (fun _ => ?_)
  · refine (S_aload_n rfl at_189_90).trans ?_
    refine (S_getR (ka_115 L _) rfl (f_115_0 L _) at_189_91).trans ?_
    refine (S_iconst at_189_94).trans ?_
    refine (S_iload_n rfl at_189_95).trans ?_
    refine (S_imul at_189_96).trans ?_
    refine (S_iload rfl at_189_97).trans ?_
    refine (S_iadd at_189_99).trans ?_
    refine (H_laload (ka_116 L _) at_189_100).trans ?_
    refine ite_congr rfl (fun hi => ?_) (fun _ => rfl)
    refine (S_aload_n rfl at_189_101).trans ?_
    refine (H_get1 (ka_115 L _) rfl at_189_102).trans ?_
    refine (S_invs (by decide) (Nat.le_of_ble_eq_true rfl) (Nat.le_of_ble_eq_true rfl) at_189_105).trans ?_
    rfl
  · refine (S_aload_n rfl at_189_169).trans ?_
    refine (S_dup rfl at_189_170).trans ?_
    refine (H_get0 (ka_115 L _) rfl at_189_171).trans ?_
    refine (S_iconst at_189_174).trans ?_
    refine (S_iadd at_189_175).trans ?_
    refine (H_put0 (ka_115 L _) rfl at_189_176).trans ?_
    refine (S_iconst at_189_179).trans ?_
    exact (S_iretz rfl at_189_180).trans (if_pos (by decide))
theorem T189_108_109_115 {C : Nat → List j_V → j_H → Option j_Z} {L : Nat} {m : j_M0} {x2 : Int} {x3 : Int} {x4 : Int} {o5 : Option j_V} {t0 : Int} : j_fin C 189 108 [some (jR 109), some (jR 115), some (jI x2), some (jI x3), some (jI x4), o5, none] [jL t0] (hH L m) = if 0 ≤ (w32 ((w32 (5 * (w32 ((m 115 15) - 1)))) + x4)) ∧ (w32 ((w32 (5 * (w32 ((m 115 15) - 1)))) + x4)) < 100 then if 0 ≤ x4 ∧ x4 < 5 then if ((j_up m 116 (w32 ((w32 (5 * (w32 ((m 115 15) - 1)))) + x4)).toNat (w64 (-t0))) 123 x4.toNat) < 10 then j_fin C 189 81 [some (jR 109), some (jR 115), some (jI x2), some (jI x3), some (jI (w32 (x4 + 1))), some (jL t0), none] [] (hH L (j_up m 116 (w32 ((w32 (5 * (w32 ((m 115 15) - 1)))) + x4)).toNat (w64 (-t0)))) else if 0 ≤ x4 ∧ x4 < 5 then (C 190 [jI ((j_up m 116 (w32 ((w32 (5 * (w32 ((m 115 15) - 1)))) + x4)).toNat (w64 (-t0))) 123 x4.toNat)] (hH L (j_up m 116 (w32 ((w32 (5 * (w32 ((m 115 15) - 1)))) + x4)).toNat (w64 (-t0))))).bind fun z => j_fin C 189 159 [some (jR 109), some (jR 115), some (jI x2), some (jI x3), some (jI x4), some (jL t0), none] (z.1.toList ++ [jI (w32 (20 * x3)), jR 126]) z.2 else none else none else none := by
  refine (S_lstore (l1 := [some (jR 109), some (jR 115), some (jI x2), some (jI x3), some (jI x4), some (jL t0), none]) rfl at_189_108).trans ?_
  refine (S_aload_n rfl at_189_110).trans ?_
  refine (S_getR (ka_115 L _) rfl (f_115_0 L _) at_189_111).trans ?_
  refine (S_iconst at_189_114).trans ?_
  refine (S_aload_n rfl at_189_115).trans ?_
  refine (H_get0 (ka_115 L _) rfl at_189_116).trans ?_
  refine (S_iconst at_189_119).trans ?_
  refine (S_isub at_189_120).trans ?_
  refine (S_imul at_189_121).trans ?_
  refine (S_iload rfl at_189_122).trans ?_
  refine (S_iadd at_189_124).trans ?_
  refine (S_lload rfl at_189_125).trans ?_
  refine (S_lneg at_189_127).trans ?_
  refine (H_lastore (by omega) (ka_116 L _) at_189_128).trans ?_
  refine ite_congr rfl (fun hi => ?_) (fun _ => rfl)
  refine (S_aload_n rfl at_189_129).trans ?_
  refine (S_getR (ka_115 L _) rfl (f_115_7 L _) at_189_130).trans ?_
  refine (S_iload rfl at_189_133).trans ?_
  refine (H_iaload (ka_123 L _) at_189_135).trans ?_
  refine ite_congr rfl (fun hi => ?_) (fun _ => rfl)
  refine (S_bipush at_189_136).trans ?_
  refine (S_icmp_lt at_189_138).trans ?_
  refine ite_congr rfl (fun _ => ?_) (fun _ => ?_)
  · refine (S_iinc (l1 := [some (jR 109), some (jR 115), some (jI x2), some (jI x3), some (jI (w32 (x4 + 1))), some (jL t0), none]) rfl rfl at_189_163).trans ?_
    refine (S_goto at_189_166).trans ?_
    rfl
  · refine (S_aload_n rfl at_189_141).trans ?_
    refine (S_getR (ka_115 L _) rfl (f_115_10 L _) at_189_142).trans ?_
    refine (S_bipush at_189_145).trans ?_
    refine (S_iload_n rfl at_189_147).trans ?_
    refine (S_imul at_189_148).trans ?_
    refine (S_aload_n rfl at_189_149).trans ?_
    refine (S_getR (ka_115 L _) rfl (f_115_7 L _) at_189_150).trans ?_
    refine (S_iload rfl at_189_153).trans ?_
    refine (H_iaload (ka_123 L _) at_189_155).trans ?_
    refine ite_congr rfl (fun hi => ?_) (fun _ => rfl)
    refine (S_invs (by decide) (Nat.le_of_ble_eq_true rfl) (Nat.le_of_ble_eq_true rfl) at_189_156).trans ?_
    rfl
theorem T189_159_109_115 {C : Nat → List j_V → j_H → Option j_Z} {L : Nat} {m : j_M0} {x2 : Int} {x3 : Int} {x4 : Int} {y5 : Int} {s1 : Int} {s2 : Int} : j_fin C 189 159 [some (jR 109), some (jR 115), some (jI x2), some (jI x3), some (jI x4), some (jL y5), none] [jI s2, jI s1, jR 126] (hH L m) = if 0 ≤ (w32 (s1 + s2)) ∧ (w32 (s1 + s2)) < 240 then j_fin C 189 81 [some (jR 109), some (jR 115), some (jI x2), some (jI x3), some (jI (w32 (x4 + 1))), some (jL y5), none] [] (hH L (j_up m 126 (w32 (s1 + s2)).toNat y5)) else none := by
  refine (S_iadd at_189_159).trans ?_
  refine (S_lload rfl at_189_160).trans ?_
  refine (H_lastore (by omega) (ka_126 L _) at_189_162).trans ?_
  refine ite_congr rfl (fun hi => ?_) (fun _ => rfl)
  refine (S_iinc (l1 := [some (jR 109), some (jR 115), some (jI x2), some (jI x3), some (jI (w32 (x4 + 1))), some (jL y5), none]) rfl rfl at_189_163).trans ?_
  refine (S_goto at_189_166).trans ?_
  rfl
theorem T189_0_109_128 {C : Nat → List j_V → j_H → Option j_Z} {L : Nat} {m : j_M0} {x2 : Int} : j_fin C 189 0 [some (jR 109), some (jR 128), some (jI x2), none, none, none, none] [] (hH L m) = (C 188 [jR 109, jR 128, jI x2] (hH L m)).bind fun z => j_fin C 189 6 [some (jR 109), some (jR 128), some (jI x2), none, none, none, none] (z.1.toList ++ []) z.2 := by
  refine (S_aload_n rfl at_189_0).trans ?_
  refine (S_aload_n rfl at_189_1).trans ?_
  refine (S_iload_n rfl at_189_2).trans ?_
  refine (S_invv (b := 2) kn_188 rfl (ka_109 L _) (Nat.le_of_ble_eq_true rfl) at_189_3).trans ?_
  rfl
theorem T189_6_109_128 {C : Nat → List j_V → j_H → Option j_Z} {L : Nat} {m : j_M0} {x2 : Int} {s0 : Int} : j_fin C 189 6 [some (jR 109), some (jR 128), some (jI x2), none, none, none, none] [jI s0] (hH L m) = if s0 = 0 then some (some (jI 0), hH L m) else j_fin C 189 19 [some (jR 109), some (jR 128), some (jI x2), some (jI (m 128 16)), some (jI 0), none, none] [] (hH L m) := by
  refine (S_if_ne at_189_6).trans ?_
  refine ite_congr rfl (fun _ => ?_) (fun _ => ?_)
  · refine (S_iconst at_189_9).trans ?_
    exact (S_iretz rfl at_189_10).trans (if_pos (by decide))
  · refine (S_aload_n rfl at_189_11).trans ?_
    refine (H_get0 (ka_128 L _) rfl at_189_12).trans ?_
    refine (S_istore_n (l1 := [some (jR 109), some (jR 128), some (jI x2), some (jI (m 128 16)), none, none, none]) rfl at_189_15).trans ?_
    refine (S_iconst at_189_16).trans ?_
    refine (S_istore (l1 := [some (jR 109), some (jR 128), some (jI x2), some (jI (m 128 16)), some (jI 0), none, none]) rfl at_189_17).trans ?_
    rfl
theorem T189_19_109_128 {C : Nat → List j_V → j_H → Option j_Z} {L : Nat} {m : j_M0} {x2 : Int} {x3 : Int} {x4 : Int} : j_fin C 189 19 [some (jR 109), some (jR 128), some (jI x2), some (jI x3), some (jI x4), none, none] [] (hH L m) = if x4 < 20 then if 0 ≤ (w32 ((w32 (20 * x3)) + x4)) ∧ (w32 ((w32 (20 * x3)) + x4)) < 240 then j_fin C 189 19 [some (jR 109), some (jR 128), some (jI x2), some (jI x3), some (jI (w32 (x4 + 1))), none, none] [] (hH L (j_up m 139 (w32 ((w32 (20 * x3)) + x4)).toNat 0)) else none else if 0 ≤ x3 ∧ x3 < 12 then if 0 ≤ x2 ∧ x2 < 20 then (C 266 [jL ((j_up m 140 x3.toNat (m 128 13)) 130 x2.toNat), jL ((j_up m 140 x3.toNat (m 128 13)) 128 13)] (hH L (j_up m 140 x3.toNat (m 128 13)))).bind fun z => j_fin C 189 74 [some (jR 109), some (jR 128), some (jI x2), some (jI x3), some (jI x4), none, none] (z.1.toList ++ [jI (w32 (20 + x3)), jR 128, jR 109]) z.2 else none else none := by
  refine (S_iload rfl at_189_19).trans ?_
  refine (S_bipush at_189_21).trans ?_
  refine (S_icmp_ge at_189_23).trans ?_
  refine ite_congr rfl (fun _ => ?_) (fun _ => ?_)
  · refine (S_aload_n rfl at_189_26).trans ?_
    refine (S_getR (ka_128 L _) rfl (f_128_10 L _) at_189_27).trans ?_
    refine (S_bipush at_189_30).trans ?_
    refine (S_iload_n rfl at_189_32).trans ?_
    refine (S_imul at_189_33).trans ?_
    refine (S_iload rfl at_189_34).trans ?_
    refine (S_iadd at_189_36).trans ?_
    refine (S_lconst at_189_37).trans ?_
    refine (H_lastore (by omega) (ka_139 L _) at_189_38).trans ?_
    refine ite_congr rfl (fun hi => ?_) (fun _ => rfl)
    refine (S_iinc (l1 := [some (jR 109), some (jR 128), some (jI x2), some (jI x3), some (jI (w32 (x4 + 1))), none, none]) rfl rfl at_189_39).trans ?_
    refine (S_goto at_189_42).trans ?_
    rfl
  · refine (S_aload_n rfl at_189_45).trans ?_
    refine (S_getR (ka_128 L _) rfl (f_128_11 L _) at_189_46).trans ?_
    refine (S_iload_n rfl at_189_49).trans ?_
    refine (S_aload_n rfl at_189_50).trans ?_
    refine (H_get1 (ka_128 L _) rfl at_189_51).trans ?_
    refine (H_lastore (by omega) (ka_140 L _) at_189_54).trans ?_
    refine ite_congr rfl (fun hi => ?_) (fun _ => rfl)
    refine (S_aload_n rfl at_189_55).trans ?_
    refine (S_aload_n rfl at_189_56).trans ?_
    refine (S_bipush at_189_57).trans ?_
    refine (S_iload_n rfl at_189_59).trans ?_
    refine (S_iadd at_189_60).trans ?_
    refine (S_aload_n rfl at_189_61).trans ?_
    refine (S_getR (ka_128 L _) rfl (f_128_1 L _) at_189_62).trans ?_
    refine (S_iload_n rfl at_189_65).trans ?_
    refine (H_laload (ka_130 L _) at_189_66).trans ?_
    refine ite_congr rfl (fun hi => ?_) (fun _ => rfl)
    refine (S_aload_n rfl at_189_67).trans ?_
    refine (H_get1 (ka_128 L _) rfl at_189_68).trans ?_
    refine (S_invs (by decide) (Nat.le_of_ble_eq_true rfl) (Nat.le_of_ble_eq_true rfl) at_189_71).trans ?_
    rfl
theorem T189_74_109_128 {C : Nat → List j_V → j_H → Option j_Z} {L : Nat} {m : j_M0} {x2 : Int} {x3 : Int} {x4 : Int} {s2 : Int} {t3 : Int} : j_fin C 189 74 [some (jR 109), some (jR 128), some (jI x2), some (jI x3), some (jI x4), none, none] [jL t3, jI s2, jR 128, jR 109] (hH L m) = (C 177 [jR 109, jR 128, jI s2, jL (w64 (-t3))] (hH L m)).bind fun z => j_fin C 189 78 [some (jR 109), some (jR 128), some (jI x2), some (jI x3), some (jI x4), none, none] (z.1.toList ++ []) z.2 := by
  refine (S_lneg at_189_74).trans ?_
  refine (S_invv (b := 3) kn_177 rfl (ka_109 L _) (Nat.le_of_ble_eq_true rfl) at_189_75).trans ?_
  rfl
theorem T189_78_109_128 {C : Nat → List j_V → j_H → Option j_Z} {L : Nat} {m : j_M0} {x2 : Int} {x3 : Int} {x4 : Int} : j_fin C 189 78 [some (jR 109), some (jR 128), some (jI x2), some (jI x3), some (jI x4), none, none] [] (hH L m) = j_fin C 189 81 [some (jR 109), some (jR 128), some (jI x2), some (jI x3), some (jI 0), none, none] [] (hH L m) := by
  refine (S_iconst at_189_78).trans ?_
  refine (S_istore (l1 := [some (jR 109), some (jR 128), some (jI x2), some (jI x3), some (jI 0), none, none]) rfl at_189_79).trans ?_
  rfl
theorem T189_81_109_128 {C : Nat → List j_V → j_H → Option j_Z} {L : Nat} {m : j_M0} {x2 : Int} {x3 : Int} {x4 : Int} {o5 : Option j_V} : j_fin C 189 81 [some (jR 109), some (jR 128), some (jI x2), some (jI x3), some (jI x4), o5, none] [] (hH L m) = if x4 < (m 128 14) then if 0 ≤ (w32 ((w32 (5 * x2)) + x4)) ∧ (w32 ((w32 (5 * x2)) + x4)) < 100 then (C 266 [jL (m 129 (w32 ((w32 (5 * x2)) + x4)).toNat), jL (m 128 13)] (hH L m)).bind fun z => j_fin C 189 108 [some (jR 109), some (jR 128), some (jI x2), some (jI x3), some (jI x4), o5, none] (z.1.toList ++ []) z.2 else none else some (some (jI 1), hH L (j_up m 128 16 (w32 ((m 128 16) + 1)))) := by
  refine (S_iload rfl at_189_81).trans ?_
  refine (S_aload_n rfl at_189_83).trans ?_
  refine (H_get0 (ka_128 L _) rfl at_189_84).trans ?_
  refine (S_icmp_ge at_189_87).trans ?_
  refine ite_congr rfl (fun _ => ?_) (fun _ => ?_)
  · refine (S_aload_n rfl at_189_90).trans ?_
    refine (S_getR (ka_128 L _) rfl (f_128_0 L _) at_189_91).trans ?_
    refine (S_iconst at_189_94).trans ?_
    refine (S_iload_n rfl at_189_95).trans ?_
    refine (S_imul at_189_96).trans ?_
    refine (S_iload rfl at_189_97).trans ?_
    refine (S_iadd at_189_99).trans ?_
    refine (H_laload (ka_129 L _) at_189_100).trans ?_
    refine ite_congr rfl (fun hi => ?_) (fun _ => rfl)
    refine (S_aload_n rfl at_189_101).trans ?_
    refine (H_get1 (ka_128 L _) rfl at_189_102).trans ?_
    refine (S_invs (by decide) (Nat.le_of_ble_eq_true rfl) (Nat.le_of_ble_eq_true rfl) at_189_105).trans ?_
    rfl
  · refine (S_aload_n rfl at_189_169).trans ?_
    refine (S_dup rfl at_189_170).trans ?_
    refine (H_get0 (ka_128 L _) rfl at_189_171).trans ?_
    refine (S_iconst at_189_174).trans ?_
    refine (S_iadd at_189_175).trans ?_
    refine (H_put0 (ka_128 L _) rfl at_189_176).trans ?_
    refine (S_iconst at_189_179).trans ?_
    exact (S_iretz rfl at_189_180).trans (if_pos (by decide))
theorem T189_108_109_128 {C : Nat → List j_V → j_H → Option j_Z} {L : Nat} {m : j_M0} {x2 : Int} {x3 : Int} {x4 : Int} {o5 : Option j_V} {t0 : Int} : j_fin C 189 108 [some (jR 109), some (jR 128), some (jI x2), some (jI x3), some (jI x4), o5, none] [jL t0] (hH L m) = if 0 ≤ (w32 ((w32 (5 * (w32 ((m 128 15) - 1)))) + x4)) ∧ (w32 ((w32 (5 * (w32 ((m 128 15) - 1)))) + x4)) < 100 then if 0 ≤ x4 ∧ x4 < 5 then if ((j_up m 129 (w32 ((w32 (5 * (w32 ((m 128 15) - 1)))) + x4)).toNat (w64 (-t0))) 136 x4.toNat) < 10 then j_fin C 189 81 [some (jR 109), some (jR 128), some (jI x2), some (jI x3), some (jI (w32 (x4 + 1))), some (jL t0), none] [] (hH L (j_up m 129 (w32 ((w32 (5 * (w32 ((m 128 15) - 1)))) + x4)).toNat (w64 (-t0)))) else if 0 ≤ x4 ∧ x4 < 5 then (C 190 [jI ((j_up m 129 (w32 ((w32 (5 * (w32 ((m 128 15) - 1)))) + x4)).toNat (w64 (-t0))) 136 x4.toNat)] (hH L (j_up m 129 (w32 ((w32 (5 * (w32 ((m 128 15) - 1)))) + x4)).toNat (w64 (-t0))))).bind fun z => j_fin C 189 159 [some (jR 109), some (jR 128), some (jI x2), some (jI x3), some (jI x4), some (jL t0), none] (z.1.toList ++ [jI (w32 (20 * x3)), jR 139]) z.2 else none else none else none := by
  refine (S_lstore (l1 := [some (jR 109), some (jR 128), some (jI x2), some (jI x3), some (jI x4), some (jL t0), none]) rfl at_189_108).trans ?_
  refine (S_aload_n rfl at_189_110).trans ?_
  refine (S_getR (ka_128 L _) rfl (f_128_0 L _) at_189_111).trans ?_
  refine (S_iconst at_189_114).trans ?_
  refine (S_aload_n rfl at_189_115).trans ?_
  refine (H_get0 (ka_128 L _) rfl at_189_116).trans ?_
  refine (S_iconst at_189_119).trans ?_
  refine (S_isub at_189_120).trans ?_
  refine (S_imul at_189_121).trans ?_
  refine (S_iload rfl at_189_122).trans ?_
  refine (S_iadd at_189_124).trans ?_
  refine (S_lload rfl at_189_125).trans ?_
  refine (S_lneg at_189_127).trans ?_
  refine (H_lastore (by omega) (ka_129 L _) at_189_128).trans ?_
  refine ite_congr rfl (fun hi => ?_) (fun _ => rfl)
  refine (S_aload_n rfl at_189_129).trans ?_
  refine (S_getR (ka_128 L _) rfl (f_128_7 L _) at_189_130).trans ?_
  refine (S_iload rfl at_189_133).trans ?_
  refine (H_iaload (ka_136 L _) at_189_135).trans ?_
  refine ite_congr rfl (fun hi => ?_) (fun _ => rfl)
  refine (S_bipush at_189_136).trans ?_
  refine (S_icmp_lt at_189_138).trans ?_
  refine ite_congr rfl (fun _ => ?_) (fun _ => ?_)
  · refine (S_iinc (l1 := [some (jR 109), some (jR 128), some (jI x2), some (jI x3), some (jI (w32 (x4 + 1))), some (jL t0), none]) rfl rfl at_189_163).trans ?_
    refine (S_goto at_189_166).trans ?_
    rfl
  · refine (S_aload_n rfl at_189_141).trans ?_
    refine (S_getR (ka_128 L _) rfl (f_128_10 L _) at_189_142).trans ?_
    refine (S_bipush at_189_145).trans ?_
    refine (S_iload_n rfl at_189_147).trans ?_
    refine (S_imul at_189_148).trans ?_
    refine (S_aload_n rfl at_189_149).trans ?_
    refine (S_getR (ka_128 L _) rfl (f_128_7 L _) at_189_150).trans ?_
    refine (S_iload rfl at_189_153).trans ?_
    refine (H_iaload (ka_136 L _) at_189_155).trans ?_
    refine ite_congr rfl (fun hi => ?_) (fun _ => rfl)
    refine (S_invs (by decide) (Nat.le_of_ble_eq_true rfl) (Nat.le_of_ble_eq_true rfl) at_189_156).trans ?_
    rfl
theorem T189_159_109_128 {C : Nat → List j_V → j_H → Option j_Z} {L : Nat} {m : j_M0} {x2 : Int} {x3 : Int} {x4 : Int} {y5 : Int} {s1 : Int} {s2 : Int} : j_fin C 189 159 [some (jR 109), some (jR 128), some (jI x2), some (jI x3), some (jI x4), some (jL y5), none] [jI s2, jI s1, jR 139] (hH L m) = if 0 ≤ (w32 (s1 + s2)) ∧ (w32 (s1 + s2)) < 240 then j_fin C 189 81 [some (jR 109), some (jR 128), some (jI x2), some (jI x3), some (jI (w32 (x4 + 1))), some (jL y5), none] [] (hH L (j_up m 139 (w32 (s1 + s2)).toNat y5)) else none := by
  refine (S_iadd at_189_159).trans ?_
  refine (S_lload rfl at_189_160).trans ?_
  refine (H_lastore (by omega) (ka_139 L _) at_189_162).trans ?_
  refine ite_congr rfl (fun hi => ?_) (fun _ => rfl)
  refine (S_iinc (l1 := [some (jR 109), some (jR 128), some (jI x2), some (jI x3), some (jI (w32 (x4 + 1))), some (jL y5), none]) rfl rfl at_189_163).trans ?_
  refine (S_goto at_189_166).trans ?_
  rfl
theorem T190_0 {C : Nat → List j_V → j_H → Option j_Z} {L : Nat} {m : j_M0} {x0 : Int} : j_fin C 190 0 [some (jI x0)] [] (hH L m) = if x0 < 20 then some (some (jI (w32 (x0 - 10))), hH L m) else some (some (jI (w32 ((w32 (8 + x0)) - 20))), hH L m) := by
  refine (S_iload_n rfl at_190_0).trans ?_
  refine (S_bipush at_190_1).trans ?_
  refine (S_icmp_ge at_190_3).trans ?_
  refine ite_congr rfl (fun _ => ?_) (fun _ => ?_)
  · refine (S_iload_n rfl at_190_6).trans ?_
    refine (S_bipush at_190_7).trans ?_
    refine (S_isub at_190_9).trans ?_
    refine (S_goto at_190_10).trans ?_
    exact S_ireti rfl at_190_20
  · refine (S_bipush at_190_13).trans ?_
    refine (S_iload_n rfl at_190_15).trans ?_
    refine (S_iadd at_190_16).trans ?_
    refine (S_bipush at_190_17).trans ?_
    refine (S_isub at_190_19).trans ?_
    exact S_ireti rfl at_190_20
theorem T191_0_109_115 {C : Nat → List j_V → j_H → Option j_Z} {L : Nat} {m : j_M0} {x2 : Int} : j_fin C 191 0 [some (jR 109), some (jR 115), some (jI x2), none, none] [] (hH L m) = (C 178 [jR 109, jR 115] (hH L m)).bind fun z => j_fin C 191 5 [some (jR 109), some (jR 115), some (jI x2), none, none] (z.1.toList ++ []) z.2 := by
  refine (S_aload_n rfl at_191_0).trans ?_
  refine (S_aload_n rfl at_191_1).trans ?_
  refine (S_invv (b := 1) kn_178 rfl (ka_109 L _) (Nat.le_of_ble_eq_true rfl) at_191_2).trans ?_
  rfl
theorem T191_5_109_115 {C : Nat → List j_V → j_H → Option j_Z} {L : Nat} {m : j_M0} {x2 : Int} : j_fin C 191 5 [some (jR 109), some (jR 115), some (jI x2), none, none] [] (hH L m) = (C 183 [jR 109, jR 115] (hH L m)).bind fun z => j_fin C 191 10 [some (jR 109), some (jR 115), some (jI x2), none, none] (z.1.toList ++ []) z.2 := by
  refine (S_aload_n rfl at_191_5).trans ?_
  refine (S_aload_n rfl at_191_6).trans ?_
  refine (S_invv (b := 1) kn_183 rfl (ka_109 L _) (Nat.le_of_ble_eq_true rfl) at_191_7).trans ?_
  rfl
theorem T191_10_109_115 {C : Nat → List j_V → j_H → Option j_Z} {L : Nat} {m : j_M0} {x2 : Int} {s0 : Int} : j_fin C 191 10 [some (jR 109), some (jR 115), some (jI x2), none, none] [jI s0] (hH L m) = j_fin C 191 11 [some (jR 109), some (jR 115), some (jI x2), some (jI s0), none] [] (hH L m) := by
  refine (S_istore_n (l1 := [some (jR 109), some (jR 115), some (jI x2), some (jI s0), none]) rfl at_191_10).trans ?_
  rfl
theorem T191_11_109_115 {C : Nat → List j_V → j_H → Option j_Z} {L : Nat} {m : j_M0} {x2 : Int} {x3 : Int} {o4 : Option j_V} : j_fin C 191 11 [some (jR 109), some (jR 115), some (jI x2), some (jI x3), o4] [] (hH L m) = if x3 = 1 then (C 185 [jR 109, jR 115] (hH L m)).bind fun z => j_fin C 191 21 [some (jR 109), some (jR 115), some (jI x2), some (jI x3), o4] (z.1.toList ++ []) z.2 else some (some (jI x3), hH L m) := by
  refine (S_iload_n rfl at_191_11).trans ?_
  refine (S_iconst at_191_12).trans ?_
  refine (S_icmp_ne at_191_13).trans ?_
  refine ite_congr rfl (fun _ => ?_) (fun _ => ?_)
  · refine (S_aload_n rfl at_191_16).trans ?_
    refine (S_aload_n rfl at_191_17).trans ?_
    refine (S_invv (b := 1) kn_185 rfl (ka_109 L _) (Nat.le_of_ble_eq_true rfl) at_191_18).trans ?_
    rfl
  · refine (S_iload_n rfl at_191_80).trans ?_
    exact S_ireti rfl at_191_81
theorem T191_21_109_115 {C : Nat → List j_V → j_H → Option j_Z} {L : Nat} {m : j_M0} {x2 : Int} {x3 : Int} {o4 : Option j_V} {s0 : Int} : j_fin C 191 21 [some (jR 109), some (jR 115), some (jI x2), some (jI x3), o4] [jI s0] (hH L m) = if s0 < 0 then if ((j_up m 115 19 1) 115 19) = 0 then if ((j_up m 115 19 1) 115 16) = x2 then some (some (jI 2), hH L (j_up m 115 19 1)) else (C 189 [jR 109, jR 115, jI s0] (hH L (j_up m 115 19 1))).bind fun z => j_fin C 191 63 [some (jR 109), some (jR 115), some (jI x2), some (jI x3), some (jI s0)] (z.1.toList ++ []) z.2 else some (some (jI 1), hH L (j_up m 115 19 1)) else if ((j_up m 115 19 0) 115 19) = 0 then if ((j_up m 115 19 0) 115 16) = x2 then some (some (jI 2), hH L (j_up m 115 19 0)) else (C 189 [jR 109, jR 115, jI s0] (hH L (j_up m 115 19 0))).bind fun z => j_fin C 191 63 [some (jR 109), some (jR 115), some (jI x2), some (jI x3), some (jI s0)] (z.1.toList ++ []) z.2 else some (some (jI 1), hH L (j_up m 115 19 0)) := by
  refine (S_istore (l1 := [some (jR 109), some (jR 115), some (jI x2), some (jI x3), some (jI s0)]) rfl at_191_21).trans ?_
  refine (S_aload_n rfl at_191_23).trans ?_
  refine (S_iload rfl at_191_24).trans ?_
  refine (S_if_ge at_191_26).trans ?_
  refine ite_congr rfl (fun _ => ?_) (fun _ => ?_)
  · refine (S_iconst at_191_29).trans ?_
    refine (S_goto at_191_30).trans ?_
    refine (H_put2 (ka_115 L _) rfl at_191_34).trans ?_
    refine (if_pos (by decide)).trans ?_
    refine (S_aload_n rfl at_191_37).trans ?_
    refine (H_get2 (ka_115 L _) rfl at_191_38).trans ?_
    refine (S_if_eq at_191_41).trans ?_
    refine ite_congr rfl (fun _ => ?_) (fun _ => ?_)
    · refine (S_aload_n rfl at_191_46).trans ?_
      refine (H_get0 (ka_115 L _) rfl at_191_47).trans ?_
      refine (S_iload_n rfl at_191_50).trans ?_
      refine (S_icmp_ne at_191_51).trans ?_
      refine ite_congr rfl (fun _ => ?_) (fun _ => ?_)
      · refine (S_iconst at_191_54).trans ?_
        exact S_ireti rfl at_191_55
      · refine (S_aload_n rfl at_191_56).trans ?_
        refine (S_aload_n rfl at_191_57).trans ?_
        refine (S_iload rfl at_191_58).trans ?_
        refine (S_invv (b := 2) kn_189 rfl (ka_109 L _) (Nat.le_of_ble_eq_true rfl) at_191_60).trans ?_
        rfl
    · refine (S_iconst at_191_44).trans ?_
      exact S_ireti rfl at_191_45
  · refine (S_iconst at_191_33).trans ?_
    refine (H_put2 (ka_115 L _) rfl at_191_34).trans ?_
    refine (if_pos (by decide)).trans ?_
    refine (S_aload_n rfl at_191_37).trans ?_
    refine (H_get2 (ka_115 L _) rfl at_191_38).trans ?_
    refine (S_if_eq at_191_41).trans ?_
    refine ite_congr rfl (fun _ => ?_) (fun _ => ?_)
    · refine (S_aload_n rfl at_191_46).trans ?_
      refine (H_get0 (ka_115 L _) rfl at_191_47).trans ?_
      refine (S_iload_n rfl at_191_50).trans ?_
      refine (S_icmp_ne at_191_51).trans ?_
      refine ite_congr rfl (fun _ => ?_) (fun _ => ?_)
      · refine (S_iconst at_191_54).trans ?_
        exact S_ireti rfl at_191_55
      · refine (S_aload_n rfl at_191_56).trans ?_
        refine (S_aload_n rfl at_191_57).trans ?_
        refine (S_iload rfl at_191_58).trans ?_
        refine (S_invv (b := 2) kn_189 rfl (ka_109 L _) (Nat.le_of_ble_eq_true rfl) at_191_60).trans ?_
        rfl
    · refine (S_iconst at_191_44).trans ?_
      exact S_ireti rfl at_191_45
theorem T191_63_109_115 {C : Nat → List j_V → j_H → Option j_Z} {L : Nat} {m : j_M0} {x2 : Int} {x3 : Int} {x4 : Int} {s0 : Int} : j_fin C 191 63 [some (jR 109), some (jR 115), some (jI x2), some (jI x3), some (jI x4)] [jI s0] (hH L m) = if s0 = 0 then j_fin C 191 11 [some (jR 109), some (jR 115), some (jI x2), some (jI (-6)), some (jI x4)] [] (hH L m) else (C 183 [jR 109, jR 115] (hH L m)).bind fun z => j_fin C 191 71 [some (jR 109), some (jR 115), some (jI x2), some (jI x3), some (jI x4)] (z.1.toList ++ []) z.2 := by
  refine (S_if_eq at_191_63).trans ?_
  refine ite_congr rfl (fun _ => ?_) (fun _ => ?_)
  · refine (S_bipush at_191_74).trans ?_
    refine (S_istore_n (l1 := [some (jR 109), some (jR 115), some (jI x2), some (jI (-6)), some (jI x4)]) rfl at_191_76).trans ?_
    refine (S_goto at_191_77).trans ?_
    rfl
  · refine (S_aload_n rfl at_191_66).trans ?_
    refine (S_aload_n rfl at_191_67).trans ?_
    refine (S_invv (b := 1) kn_183 rfl (ka_109 L _) (Nat.le_of_ble_eq_true rfl) at_191_68).trans ?_
    rfl
theorem T191_71_109_115 {C : Nat → List j_V → j_H → Option j_Z} {L : Nat} {m : j_M0} {x2 : Int} {x3 : Int} {x4 : Int} {s0 : Int} : j_fin C 191 71 [some (jR 109), some (jR 115), some (jI x2), some (jI x3), some (jI x4)] [jI s0] (hH L m) = j_fin C 191 11 [some (jR 109), some (jR 115), some (jI x2), some (jI s0), some (jI x4)] [] (hH L m) := by
  refine (S_goto at_191_71).trans ?_
  refine (S_istore_n (l1 := [some (jR 109), some (jR 115), some (jI x2), some (jI s0), some (jI x4)]) rfl at_191_76).trans ?_
  refine (S_goto at_191_77).trans ?_
  rfl
theorem T191_0_109_128 {C : Nat → List j_V → j_H → Option j_Z} {L : Nat} {m : j_M0} {x2 : Int} : j_fin C 191 0 [some (jR 109), some (jR 128), some (jI x2), none, none] [] (hH L m) = (C 178 [jR 109, jR 128] (hH L m)).bind fun z => j_fin C 191 5 [some (jR 109), some (jR 128), some (jI x2), none, none] (z.1.toList ++ []) z.2 := by
  refine (S_aload_n rfl at_191_0).trans ?_
  refine (S_aload_n rfl at_191_1).trans ?_
  refine (S_invv (b := 1) kn_178 rfl (ka_109 L _) (Nat.le_of_ble_eq_true rfl) at_191_2).trans ?_
  rfl
theorem T191_5_109_128 {C : Nat → List j_V → j_H → Option j_Z} {L : Nat} {m : j_M0} {x2 : Int} : j_fin C 191 5 [some (jR 109), some (jR 128), some (jI x2), none, none] [] (hH L m) = (C 183 [jR 109, jR 128] (hH L m)).bind fun z => j_fin C 191 10 [some (jR 109), some (jR 128), some (jI x2), none, none] (z.1.toList ++ []) z.2 := by
  refine (S_aload_n rfl at_191_5).trans ?_
  refine (S_aload_n rfl at_191_6).trans ?_
  refine (S_invv (b := 1) kn_183 rfl (ka_109 L _) (Nat.le_of_ble_eq_true rfl) at_191_7).trans ?_
  rfl
theorem T191_10_109_128 {C : Nat → List j_V → j_H → Option j_Z} {L : Nat} {m : j_M0} {x2 : Int} {s0 : Int} : j_fin C 191 10 [some (jR 109), some (jR 128), some (jI x2), none, none] [jI s0] (hH L m) = j_fin C 191 11 [some (jR 109), some (jR 128), some (jI x2), some (jI s0), none] [] (hH L m) := by
  refine (S_istore_n (l1 := [some (jR 109), some (jR 128), some (jI x2), some (jI s0), none]) rfl at_191_10).trans ?_
  rfl
theorem T191_11_109_128 {C : Nat → List j_V → j_H → Option j_Z} {L : Nat} {m : j_M0} {x2 : Int} {x3 : Int} {o4 : Option j_V} : j_fin C 191 11 [some (jR 109), some (jR 128), some (jI x2), some (jI x3), o4] [] (hH L m) = if x3 = 1 then (C 185 [jR 109, jR 128] (hH L m)).bind fun z => j_fin C 191 21 [some (jR 109), some (jR 128), some (jI x2), some (jI x3), o4] (z.1.toList ++ []) z.2 else some (some (jI x3), hH L m) := by
  refine (S_iload_n rfl at_191_11).trans ?_
  refine (S_iconst at_191_12).trans ?_
  refine (S_icmp_ne at_191_13).trans ?_
  refine ite_congr rfl (fun _ => ?_) (fun _ => ?_)
  · refine (S_aload_n rfl at_191_16).trans ?_
    refine (S_aload_n rfl at_191_17).trans ?_
    refine (S_invv (b := 1) kn_185 rfl (ka_109 L _) (Nat.le_of_ble_eq_true rfl) at_191_18).trans ?_
    rfl
  · refine (S_iload_n rfl at_191_80).trans ?_
    exact S_ireti rfl at_191_81
theorem T191_21_109_128 {C : Nat → List j_V → j_H → Option j_Z} {L : Nat} {m : j_M0} {x2 : Int} {x3 : Int} {o4 : Option j_V} {s0 : Int} : j_fin C 191 21 [some (jR 109), some (jR 128), some (jI x2), some (jI x3), o4] [jI s0] (hH L m) = if s0 < 0 then if ((j_up m 128 19 1) 128 19) = 0 then if ((j_up m 128 19 1) 128 16) = x2 then some (some (jI 2), hH L (j_up m 128 19 1)) else (C 189 [jR 109, jR 128, jI s0] (hH L (j_up m 128 19 1))).bind fun z => j_fin C 191 63 [some (jR 109), some (jR 128), some (jI x2), some (jI x3), some (jI s0)] (z.1.toList ++ []) z.2 else some (some (jI 1), hH L (j_up m 128 19 1)) else if ((j_up m 128 19 0) 128 19) = 0 then if ((j_up m 128 19 0) 128 16) = x2 then some (some (jI 2), hH L (j_up m 128 19 0)) else (C 189 [jR 109, jR 128, jI s0] (hH L (j_up m 128 19 0))).bind fun z => j_fin C 191 63 [some (jR 109), some (jR 128), some (jI x2), some (jI x3), some (jI s0)] (z.1.toList ++ []) z.2 else some (some (jI 1), hH L (j_up m 128 19 0)) := by
  refine (S_istore (l1 := [some (jR 109), some (jR 128), some (jI x2), some (jI x3), some (jI s0)]) rfl at_191_21).trans ?_
  refine (S_aload_n rfl at_191_23).trans ?_
  refine (S_iload rfl at_191_24).trans ?_
  refine (S_if_ge at_191_26).trans ?_
  refine ite_congr rfl (fun _ => ?_) (fun _ => ?_)
  · refine (S_iconst at_191_29).trans ?_
    refine (S_goto at_191_30).trans ?_
    refine (H_put2 (ka_128 L _) rfl at_191_34).trans ?_
    refine (if_pos (by decide)).trans ?_
    refine (S_aload_n rfl at_191_37).trans ?_
    refine (H_get2 (ka_128 L _) rfl at_191_38).trans ?_
    refine (S_if_eq at_191_41).trans ?_
    refine ite_congr rfl (fun _ => ?_) (fun _ => ?_)
    · refine (S_aload_n rfl at_191_46).trans ?_
      refine (H_get0 (ka_128 L _) rfl at_191_47).trans ?_
      refine (S_iload_n rfl at_191_50).trans ?_
      refine (S_icmp_ne at_191_51).trans ?_
      refine ite_congr rfl (fun _ => ?_) (fun _ => ?_)
      · refine (S_iconst at_191_54).trans ?_
        exact S_ireti rfl at_191_55
      · refine (S_aload_n rfl at_191_56).trans ?_
        refine (S_aload_n rfl at_191_57).trans ?_
        refine (S_iload rfl at_191_58).trans ?_
        refine (S_invv (b := 2) kn_189 rfl (ka_109 L _) (Nat.le_of_ble_eq_true rfl) at_191_60).trans ?_
        rfl
    · refine (S_iconst at_191_44).trans ?_
      exact S_ireti rfl at_191_45
  · refine (S_iconst at_191_33).trans ?_
    refine (H_put2 (ka_128 L _) rfl at_191_34).trans ?_
    refine (if_pos (by decide)).trans ?_
    refine (S_aload_n rfl at_191_37).trans ?_
    refine (H_get2 (ka_128 L _) rfl at_191_38).trans ?_
    refine (S_if_eq at_191_41).trans ?_
    refine ite_congr rfl (fun _ => ?_) (fun _ => ?_)
    · refine (S_aload_n rfl at_191_46).trans ?_
      refine (H_get0 (ka_128 L _) rfl at_191_47).trans ?_
      refine (S_iload_n rfl at_191_50).trans ?_
      refine (S_icmp_ne at_191_51).trans ?_
      refine ite_congr rfl (fun _ => ?_) (fun _ => ?_)
      · refine (S_iconst at_191_54).trans ?_
        exact S_ireti rfl at_191_55
      · refine (S_aload_n rfl at_191_56).trans ?_
        refine (S_aload_n rfl at_191_57).trans ?_
        refine (S_iload rfl at_191_58).trans ?_
        refine (S_invv (b := 2) kn_189 rfl (ka_109 L _) (Nat.le_of_ble_eq_true rfl) at_191_60).trans ?_
        rfl
    · refine (S_iconst at_191_44).trans ?_
      exact S_ireti rfl at_191_45
theorem T191_63_109_128 {C : Nat → List j_V → j_H → Option j_Z} {L : Nat} {m : j_M0} {x2 : Int} {x3 : Int} {x4 : Int} {s0 : Int} : j_fin C 191 63 [some (jR 109), some (jR 128), some (jI x2), some (jI x3), some (jI x4)] [jI s0] (hH L m) = if s0 = 0 then j_fin C 191 11 [some (jR 109), some (jR 128), some (jI x2), some (jI (-6)), some (jI x4)] [] (hH L m) else (C 183 [jR 109, jR 128] (hH L m)).bind fun z => j_fin C 191 71 [some (jR 109), some (jR 128), some (jI x2), some (jI x3), some (jI x4)] (z.1.toList ++ []) z.2 := by
  refine (S_if_eq at_191_63).trans ?_
  refine ite_congr rfl (fun _ => ?_) (fun _ => ?_)
  · refine (S_bipush at_191_74).trans ?_
    refine (S_istore_n (l1 := [some (jR 109), some (jR 128), some (jI x2), some (jI (-6)), some (jI x4)]) rfl at_191_76).trans ?_
    refine (S_goto at_191_77).trans ?_
    rfl
  · refine (S_aload_n rfl at_191_66).trans ?_
    refine (S_aload_n rfl at_191_67).trans ?_
    refine (S_invv (b := 1) kn_183 rfl (ka_109 L _) (Nat.le_of_ble_eq_true rfl) at_191_68).trans ?_
    rfl
theorem T191_71_109_128 {C : Nat → List j_V → j_H → Option j_Z} {L : Nat} {m : j_M0} {x2 : Int} {x3 : Int} {x4 : Int} {s0 : Int} : j_fin C 191 71 [some (jR 109), some (jR 128), some (jI x2), some (jI x3), some (jI x4)] [jI s0] (hH L m) = j_fin C 191 11 [some (jR 109), some (jR 128), some (jI x2), some (jI s0), some (jI x4)] [] (hH L m) := by
  refine (S_goto at_191_71).trans ?_
  refine (S_istore_n (l1 := [some (jR 109), some (jR 128), some (jI x2), some (jI s0), some (jI x4)]) rfl at_191_76).trans ?_
  refine (S_goto at_191_77).trans ?_
  rfl
theorem T192_0 {C : Nat → List j_V → j_H → Option j_Z} {L : Nat} {m : j_M0} : j_fin C 192 0 [some (jR 109), none] [] (hH L m) = (C 191 [jR 109, jR 128, jI 12] (hH L m)).bind fun z => j_fin C 192 10 [some (jR 109), none] (z.1.toList ++ []) z.2 := by
  refine (S_aload_n rfl at_192_0).trans ?_
  refine (S_aload_n rfl at_192_1).trans ?_
  refine (S_getR (ka_109 L _) rfl (f_109_10 L _) at_192_2).trans ?_
  refine (S_bipush at_192_5).trans ?_
  refine (S_invv (b := 2) kn_191 rfl (ka_109 L _) (Nat.le_of_ble_eq_true rfl) at_192_7).trans ?_
  rfl
theorem T192_10 {C : Nat → List j_V → j_H → Option j_Z} {L : Nat} {m : j_M0} {s0 : Int} : j_fin C 192 10 [some (jR 109), none] [jI s0] (hH L m) = if s0 = 1 then if m 128 13 = 0 then none else some (some (jI (w32 (w64 (Int.tdiv (m 128 12) (m 128 13))))), hH L m) else if s0 = 0 then some (some (jI (-5)), hH L m) else some (some (jI (-6)), hH L m) := by
  refine (S_istore_n (l1 := [some (jR 109), some (jI s0)]) rfl at_192_10).trans ?_
  refine (S_iload_n rfl at_192_11).trans ?_
  refine (S_iconst at_192_12).trans ?_
  refine (S_icmp_ne at_192_13).trans ?_
  refine ite_congr rfl (fun _ => ?_) (fun _ => ?_)
  · refine (S_aload_n rfl at_192_16).trans ?_
    refine (S_getR (ka_109 L _) rfl (f_109_10 L _) at_192_17).trans ?_
    refine (H_get1 (ka_128 L _) rfl at_192_20).trans ?_
    refine (S_aload_n rfl at_192_23).trans ?_
    refine (S_getR (ka_109 L _) rfl (f_109_10 L _) at_192_24).trans ?_
    refine (H_get1 (ka_128 L _) rfl at_192_27).trans ?_
    refine (S_ldiv at_192_30).trans ?_
    refine ite_congr rfl (fun _ => rfl) (fun hz => ?_)
    refine (S_l2i at_192_31).trans ?_
    refine (S_goto at_192_32).trans ?_
    exact S_ireti rfl at_192_46
  · refine (S_iload_n rfl at_192_35).trans ?_
    refine (S_if_ne at_192_36).trans ?_
    refine ite_congr rfl (fun _ => ?_) (fun _ => ?_)
    · refine (S_bipush at_192_39).trans ?_
      refine (S_goto at_192_41).trans ?_
      exact S_ireti rfl at_192_46
    · refine (S_bipush at_192_44).trans ?_
      exact S_ireti rfl at_192_46
theorem T193_0 {C : Nat → List j_V → j_H → Option j_Z} {L : Nat} {m : j_M0} {x1 : Int} : j_fin C 193 0 [some (jR 109), some (jI x1)] [] (hH L m) = (C 150 [jL x1, jL 0, jL 12] (hH L m)).bind fun z => j_fin C 193 9 [some (jR 109), some (jI x1)] (z.1.toList ++ []) z.2 := by
  refine (S_iload_n rfl at_193_0).trans ?_
  refine (S_i2l at_193_1).trans ?_
  refine (S_lconst at_193_2).trans ?_
  refine (S_ldc2_w at_193_3).trans ?_
  refine (S_invs (by decide) (Nat.le_of_ble_eq_true rfl) (Nat.le_of_ble_eq_true rfl) at_193_6).trans ?_
  rfl
theorem T193_9 {C : Nat → List j_V → j_H → Option j_Z} {L : Nat} {m : j_M0} {x1 : Int} {s0 : Int} : j_fin C 193 9 [some (jR 109), some (jI x1)] [jI s0] (hH L m) = if s0 = 0 then some (some (jI (-2)), hH L m) else (C 191 [jR 109, jR 115, jI x1] (hH L m)).bind fun z => j_fin C 193 21 [some (jR 109), some (jI x1)] (z.1.toList ++ []) z.2 := by
  refine (S_if_eq at_193_9).trans ?_
  refine ite_congr rfl (fun _ => ?_) (fun _ => ?_)
  · refine (S_bipush at_193_24).trans ?_
    exact S_ireti rfl at_193_26
  · refine (S_aload_n rfl at_193_12).trans ?_
    refine (S_aload_n rfl at_193_13).trans ?_
    refine (S_getR (ka_109 L _) rfl (f_109_9 L _) at_193_14).trans ?_
    refine (S_iload_n rfl at_193_17).trans ?_
    refine (S_invv (b := 2) kn_191 rfl (ka_109 L _) (Nat.le_of_ble_eq_true rfl) at_193_18).trans ?_
    rfl
theorem T193_21 {C : Nat → List j_V → j_H → Option j_Z} {L : Nat} {m : j_M0} {x1 : Int} {s0 : Int} : j_fin C 193 21 [some (jR 109), some (jI x1)] [jI s0] (hH L m) = some (some (jI s0), hH L m) := by
  refine (S_goto at_193_21).trans ?_
  exact S_ireti rfl at_193_26
theorem T194_0 {C : Nat → List j_V → j_H → Option j_Z} {L : Nat} {m : j_M0} {x1 : Int} {x2 : Int} : j_fin C 194 0 [some (jR 109), some (jI x1), some (jI x2)] [] (hH L m) = if (m 115 18) = 0 then some (some (jL (-9223372036854775808)), hH L m) else (C 150 [jL x1, jL (-2), jL (w32 ((m 115 15) - 1))] (hH L m)).bind fun z => j_fin C 194 28 [some (jR 109), some (jI x1), some (jI x2)] (z.1.toList ++ []) z.2 := by
  refine (S_aload_n rfl at_194_0).trans ?_
  refine (S_getR (ka_109 L _) rfl (f_109_9 L _) at_194_1).trans ?_
  refine (H_get2 (ka_115 L _) rfl at_194_4).trans ?_
  refine (S_if_eq at_194_7).trans ?_
  refine ite_congr rfl (fun _ => ?_) (fun _ => ?_)
  · refine (S_ldc2_w at_194_63).trans ?_
    exact S_lret rfl at_194_66
  · refine (S_iload_n rfl at_194_10).trans ?_
    refine (S_i2l at_194_11).trans ?_
    refine (S_ldc2_w at_194_12).trans ?_
    refine (S_aload_n rfl at_194_15).trans ?_
    refine (S_getR (ka_109 L _) rfl (f_109_9 L _) at_194_16).trans ?_
    refine (H_get0 (ka_115 L _) rfl at_194_19).trans ?_
    refine (S_iconst at_194_22).trans ?_
    refine (S_isub at_194_23).trans ?_
    refine (S_i2l at_194_24).trans ?_
    refine (S_invs (by decide) (Nat.le_of_ble_eq_true rfl) (Nat.le_of_ble_eq_true rfl) at_194_25).trans ?_
    rfl
theorem T194_28 {C : Nat → List j_V → j_H → Option j_Z} {L : Nat} {m : j_M0} {x1 : Int} {x2 : Int} {s0 : Int} : j_fin C 194 28 [some (jR 109), some (jI x1), some (jI x2)] [jI s0] (hH L m) = if s0 = 0 then some (some (jL (-9223372036854775808)), hH L m) else if x1 = (-2) then (C 151 [jR 109] (hH L m)).bind fun z => j_fin C 194 44 [some (jR 109), some (jI x1), some (jI x2)] (z.1.toList ++ [jL 0, jL x2]) z.2 else (C 151 [jR 109] (hH L m)).bind fun z => j_fin C 194 54 [some (jR 109), some (jI x1), some (jI x2)] (z.1.toList ++ [jL 0, jL x2]) z.2 := by
  refine (S_if_eq at_194_28).trans ?_
  refine ite_congr rfl (fun _ => ?_) (fun _ => ?_)
  · refine (S_ldc2_w at_194_63).trans ?_
    exact S_lret rfl at_194_66
  · refine (S_iload_n rfl at_194_31).trans ?_
    refine (S_i2l at_194_32).trans ?_
    refine (S_lconst at_194_33).trans ?_
    refine (S_iload_n rfl at_194_34).trans ?_
    refine (S_bipush at_194_35).trans ?_
    refine (S_icmp_ne at_194_37).trans ?_
    refine ite_congr rfl (fun _ => ?_) (fun _ => ?_)
    · refine (S_aload_n rfl at_194_40).trans ?_
      refine (S_invv (b := 0) kn_151 rfl (ka_109 L _) (Nat.le_of_ble_eq_true rfl) at_194_41).trans ?_
      rfl
    · refine (S_aload_n rfl at_194_50).trans ?_
      refine (S_invv (b := 0) kn_151 rfl (ka_109 L _) (Nat.le_of_ble_eq_true rfl) at_194_51).trans ?_
      rfl
theorem T194_44 {C : Nat → List j_V → j_H → Option j_Z} {L : Nat} {m : j_M0} {x1 : Int} {x2 : Int} {t0 : Int} {t1 : Int} {s2 : Int} : j_fin C 194 44 [some (jR 109), some (jI x1), some (jI x2)] [jI s2, jL t1, jL t0] (hH L m) = (C 150 [jL t0, jL t1, jL (w32 (s2 - 1))] (hH L m)).bind fun z => j_fin C 194 60 [some (jR 109), some (jI x1), some (jI x2)] (z.1.toList ++ []) z.2 := by
  refine (S_iconst at_194_44).trans ?_
  refine (S_isub at_194_45).trans ?_
  refine (S_i2l at_194_46).trans ?_
  refine (S_goto at_194_47).trans ?_
  refine (S_invs (by decide) (Nat.le_of_ble_eq_true rfl) (Nat.le_of_ble_eq_true rfl) at_194_57).trans ?_
  rfl
theorem T194_54 {C : Nat → List j_V → j_H → Option j_Z} {L : Nat} {m : j_M0} {x1 : Int} {x2 : Int} {t0 : Int} {t1 : Int} {s2 : Int} : j_fin C 194 54 [some (jR 109), some (jI x1), some (jI x2)] [jI s2, jL t1, jL t0] (hH L m) = (C 150 [jL t0, jL t1, jL (w32 (s2 + 1))] (hH L m)).bind fun z => j_fin C 194 60 [some (jR 109), some (jI x1), some (jI x2)] (z.1.toList ++ []) z.2 := by
  refine (S_iconst at_194_54).trans ?_
  refine (S_iadd at_194_55).trans ?_
  refine (S_i2l at_194_56).trans ?_
  refine (S_invs (by decide) (Nat.le_of_ble_eq_true rfl) (Nat.le_of_ble_eq_true rfl) at_194_57).trans ?_
  rfl
theorem T194_60 {C : Nat → List j_V → j_H → Option j_Z} {L : Nat} {m : j_M0} {x1 : Int} {x2 : Int} {s0 : Int} : j_fin C 194 60 [some (jR 109), some (jI x1), some (jI x2)] [jI s0] (hH L m) = if s0 = 0 then some (some (jL (-9223372036854775808)), hH L m) else (C 151 [jR 109] (hH L m)).bind fun z => j_fin C 194 72 [some (jR 109), some (jI x1), some (jI x2)] (z.1.toList ++ [jI x2]) z.2 := by
  refine (S_if_ne at_194_60).trans ?_
  refine ite_congr rfl (fun _ => ?_) (fun _ => ?_)
  · refine (S_ldc2_w at_194_63).trans ?_
    exact S_lret rfl at_194_66
  · refine (S_iload_n rfl at_194_67).trans ?_
    refine (S_aload_n rfl at_194_68).trans ?_
    refine (S_invv (b := 0) kn_151 rfl (ka_109 L _) (Nat.le_of_ble_eq_true rfl) at_194_69).trans ?_
    rfl
theorem T194_72 {C : Nat → List j_V → j_H → Option j_Z} {L : Nat} {m : j_M0} {x1 : Int} {x2 : Int} {s0 : Int} {s1 : Int} : j_fin C 194 72 [some (jR 109), some (jI x1), some (jI x2)] [jI s1, jI s0] (hH L m) = if s0 = s1 then if x1 < 0 then some (some (jL (m 115 12)), hH L m) else if 0 ≤ x1 ∧ x1 < 20 then some (some (jL (m 117 x1.toNat)), hH L m) else none else (C 151 [jR 109] (hH L m)).bind fun z => j_fin C 194 104 [some (jR 109), some (jI x1), some (jI x2)] (z.1.toList ++ [jI x2]) z.2 := by
  refine (S_icmp_ne at_194_72).trans ?_
  refine ite_congr rfl (fun _ => ?_) (fun _ => ?_)
  · refine (S_iload_n rfl at_194_75).trans ?_
    refine (S_if_ge at_194_76).trans ?_
    refine ite_congr rfl (fun _ => ?_) (fun _ => ?_)
    · refine (S_aload_n rfl at_194_79).trans ?_
      refine (S_getR (ka_109 L _) rfl (f_109_9 L _) at_194_80).trans ?_
      refine (H_get1 (ka_115 L _) rfl at_194_83).trans ?_
      refine (S_goto at_194_86).trans ?_
      exact S_lret rfl at_194_98
    · refine (S_aload_n rfl at_194_89).trans ?_
      refine (S_getR (ka_109 L _) rfl (f_109_9 L _) at_194_90).trans ?_
      refine (S_getR (ka_115 L _) rfl (f_115_1 L _) at_194_93).trans ?_
      refine (S_iload_n rfl at_194_96).trans ?_
      refine (H_laload (ka_117 L _) at_194_97).trans ?_
      refine ite_congr rfl (fun hi => ?_) (fun _ => rfl)
      exact S_lret rfl at_194_98
  · refine (S_iload_n rfl at_194_99).trans ?_
    refine (S_aload_n rfl at_194_100).trans ?_
    refine (S_invv (b := 0) kn_151 rfl (ka_109 L _) (Nat.le_of_ble_eq_true rfl) at_194_101).trans ?_
    rfl
theorem T194_104 {C : Nat → List j_V → j_H → Option j_Z} {L : Nat} {m : j_M0} {x1 : Int} {x2 : Int} {s0 : Int} {s1 : Int} : j_fin C 194 104 [some (jR 109), some (jI x1), some (jI x2)] [jI s1, jI s0] (hH L m) = if s1 < s0 then if x1 < 0 then some (some (jL (m 115 13)), hH L m) else if 0 ≤ x1 ∧ x1 < 20 then some (some (jL (m 122 x1.toNat)), hH L m) else none else if x1 = (-2) then if 0 ≤ x2 ∧ x2 < 5 then some (some (jL (m 123 x2.toNat)), hH L m) else none else if x1 = (-1) then if 0 ≤ x2 ∧ x2 < 5 then some (some (jL (m 118 x2.toNat)), hH L m) else none else if 0 ≤ (w32 ((w32 (5 * x1)) + x2)) ∧ (w32 ((w32 (5 * x1)) + x2)) < 100 then some (some (jL (m 116 (w32 ((w32 (5 * x1)) + x2)).toNat)), hH L m) else none := by
  refine (S_icmp_le at_194_104).trans ?_
  refine ite_congr rfl (fun _ => ?_) (fun _ => ?_)
  · refine (S_iload_n rfl at_194_107).trans ?_
    refine (S_if_ge at_194_108).trans ?_
    refine ite_congr rfl (fun _ => ?_) (fun _ => ?_)
    · refine (S_aload_n rfl at_194_111).trans ?_
      refine (S_getR (ka_109 L _) rfl (f_109_9 L _) at_194_112).trans ?_
      refine (H_get1 (ka_115 L _) rfl at_194_115).trans ?_
      refine (S_goto at_194_118).trans ?_
      exact S_lret rfl at_194_131
    · refine (S_aload_n rfl at_194_121).trans ?_
      refine (S_getR (ka_109 L _) rfl (f_109_9 L _) at_194_122).trans ?_
      refine (S_getR (ka_115 L _) rfl (f_115_6 L _) at_194_125).trans ?_
      refine (S_iload_n rfl at_194_128).trans ?_
      refine (H_iaload (ka_122 L _) at_194_129).trans ?_
      refine ite_congr rfl (fun hi => ?_) (fun _ => rfl)
      refine (S_i2l at_194_130).trans ?_
      exact S_lret rfl at_194_131
  · refine (S_iload_n rfl at_194_132).trans ?_
    refine (S_bipush at_194_133).trans ?_
    refine (S_icmp_ne at_194_135).trans ?_
    refine ite_congr rfl (fun _ => ?_) (fun _ => ?_)
    · refine (S_aload_n rfl at_194_138).trans ?_
      refine (S_getR (ka_109 L _) rfl (f_109_9 L _) at_194_139).trans ?_
      refine (S_getR (ka_115 L _) rfl (f_115_7 L _) at_194_142).trans ?_
      refine (S_iload_n rfl at_194_145).trans ?_
      refine (H_iaload (ka_123 L _) at_194_146).trans ?_
      refine ite_congr rfl (fun hi => ?_) (fun _ => rfl)
      refine (S_i2l at_194_147).trans ?_
      refine (S_goto at_194_148).trans ?_
      exact S_lret rfl at_194_181
    · refine (S_iload_n rfl at_194_151).trans ?_
      refine (S_iconst at_194_152).trans ?_
      refine (S_icmp_ne at_194_153).trans ?_
      refine ite_congr rfl (fun _ => ?_) (fun _ => ?_)
      · refine (S_aload_n rfl at_194_156).trans ?_
        refine (S_getR (ka_109 L _) rfl (f_109_9 L _) at_194_157).trans ?_
        refine (S_getR (ka_115 L _) rfl (f_115_2 L _) at_194_160).trans ?_
        refine (S_iload_n rfl at_194_163).trans ?_
        refine (H_laload (ka_118 L _) at_194_164).trans ?_
        refine ite_congr rfl (fun hi => ?_) (fun _ => rfl)
        refine (S_goto at_194_165).trans ?_
        exact S_lret rfl at_194_181
      · refine (S_aload_n rfl at_194_168).trans ?_
        refine (S_getR (ka_109 L _) rfl (f_109_9 L _) at_194_169).trans ?_
        refine (S_getR (ka_115 L _) rfl (f_115_0 L _) at_194_172).trans ?_
        refine (S_iconst at_194_175).trans ?_
        refine (S_iload_n rfl at_194_176).trans ?_
        refine (S_imul at_194_177).trans ?_
        refine (S_iload_n rfl at_194_178).trans ?_
        refine (S_iadd at_194_179).trans ?_
        refine (H_laload (ka_116 L _) at_194_180).trans ?_
        refine ite_congr rfl (fun hi => ?_) (fun _ => rfl)
        exact S_lret rfl at_194_181
theorem T195_0 {C : Nat → List j_V → j_H → Option j_Z} {L : Nat} {m : j_M0} {y0 : Int} {y2 : Int} {x4 : Int} : j_fin C 195 0 [some (jL y0), none, some (jL y2), none, some (jI x4), none, none, none, none, none, none] [] (hH L m) = if (j_cmp y0 0) < 0 then j_fin C 195 17 [some (jL y0), none, some (jL y2), none, some (jI x4), some (jL (w64 (-y0))), none, some (jL y2), none, none, none] [] (hH L m) else j_fin C 195 17 [some (jL y0), none, some (jL y2), none, some (jI x4), some (jL y0), none, some (jL y2), none, none, none] [] (hH L m) := by
  refine (S_lload_n rfl at_195_0).trans ?_
  refine (S_lconst at_195_1).trans ?_
  refine (S_lcmp at_195_2).trans ?_
  refine (S_if_ge at_195_3).trans ?_
  refine ite_congr rfl (fun _ => ?_) (fun _ => ?_)
  · refine (S_lload_n rfl at_195_6).trans ?_
    refine (S_lneg at_195_7).trans ?_
    refine (S_goto at_195_8).trans ?_
    refine (S_lstore (l1 := [some (jL y0), none, some (jL y2), none, some (jI x4), some (jL (w64 (-y0))), none, none, none, none, none]) rfl at_195_12).trans ?_
    refine (S_lload_n rfl at_195_14).trans ?_
    refine (S_lstore (l1 := [some (jL y0), none, some (jL y2), none, some (jI x4), some (jL (w64 (-y0))), none, some (jL y2), none, none, none]) rfl at_195_15).trans ?_
    rfl
  · refine (S_lload_n rfl at_195_11).trans ?_
    refine (S_lstore (l1 := [some (jL y0), none, some (jL y2), none, some (jI x4), some (jL y0), none, none, none, none, none]) rfl at_195_12).trans ?_
    refine (S_lload_n rfl at_195_14).trans ?_
    refine (S_lstore (l1 := [some (jL y0), none, some (jL y2), none, some (jI x4), some (jL y0), none, some (jL y2), none, none, none]) rfl at_195_15).trans ?_
    rfl
theorem T195_17 {C : Nat → List j_V → j_H → Option j_Z} {L : Nat} {m : j_M0} {y0 : Int} {y2 : Int} {x4 : Int} {y5 : Int} {y7 : Int} {o9 : Option j_V} : j_fin C 195 17 [some (jL y0), none, some (jL y2), none, some (jI x4), some (jL y5), none, some (jL y7), none, o9, none] [] (hH L m) = if (j_cmp y7 0) = 0 then if x4 = 0 then if y5 = 0 then none else some (some (jL (w64 (Int.tdiv y0 y5))), hH L m) else if y5 = 0 then none else some (some (jL (w64 (Int.tdiv y2 y5))), hH L m) else if y7 = 0 then none else j_fin C 195 17 [some (jL y0), none, some (jL y2), none, some (jI x4), some (jL y7), none, some (jL (Int.tmod y5 y7)), none, some (jL (Int.tmod y5 y7)), none] [] (hH L m) := by
  refine (S_lload rfl at_195_17).trans ?_
  refine (S_lconst at_195_19).trans ?_
  refine (S_lcmp at_195_20).trans ?_
  refine (S_if_eq at_195_21).trans ?_
  refine ite_congr rfl (fun _ => ?_) (fun _ => ?_)
  · refine (S_iload rfl at_195_42).trans ?_
    refine (S_if_ne at_195_44).trans ?_
    refine ite_congr rfl (fun _ => ?_) (fun _ => ?_)
    · refine (S_lload_n rfl at_195_47).trans ?_
      refine (S_lload rfl at_195_48).trans ?_
      refine (S_ldiv at_195_50).trans ?_
      refine ite_congr rfl (fun _ => rfl) (fun hz => ?_)
      refine (S_goto at_195_51).trans ?_
      exact S_lret rfl at_195_58
    · refine (S_lload_n rfl at_195_54).trans ?_
      refine (S_lload rfl at_195_55).trans ?_
      refine (S_ldiv at_195_57).trans ?_
      refine ite_congr rfl (fun _ => rfl) (fun hz => ?_)
      exact S_lret rfl at_195_58
  · refine (S_lload rfl at_195_24).trans ?_
    refine (S_lload rfl at_195_26).trans ?_
    refine (S_lrem at_195_28).trans ?_
    refine ite_congr rfl (fun _ => rfl) (fun hz => ?_)
    refine (S_lstore (l1 := [some (jL y0), none, some (jL y2), none, some (jI x4), some (jL y5), none, some (jL y7), none, some (jL (Int.tmod y5 y7)), none]) rfl at_195_29).trans ?_
    refine (S_lload rfl at_195_31).trans ?_
    refine (S_lstore (l1 := [some (jL y0), none, some (jL y2), none, some (jI x4), some (jL y7), none, some (jL y7), none, some (jL (Int.tmod y5 y7)), none]) rfl at_195_33).trans ?_
    refine (S_lload rfl at_195_35).trans ?_
    refine (S_lstore (l1 := [some (jL y0), none, some (jL y2), none, some (jI x4), some (jL y7), none, some (jL (Int.tmod y5 y7)), none, some (jL (Int.tmod y5 y7)), none]) rfl at_195_37).trans ?_
    refine (S_goto at_195_39).trans ?_
    rfl
theorem T196_0 {C : Nat → List j_V → j_H → Option j_Z} {L : Nat} {m : j_M0} {x0 : Int} : j_fin C 196 0 [some (jI x0)] [] (hH L m) = (C 150 [jL x0, jL 0, jL 1] (hH L m)).bind fun z => j_fin C 196 7 [some (jI x0)] (z.1.toList ++ []) z.2 := by
  refine (S_iload_n rfl at_196_0).trans ?_
  refine (S_i2l at_196_1).trans ?_
  refine (S_lconst at_196_2).trans ?_
  refine (S_lconst at_196_3).trans ?_
  refine (S_invs (by decide) (Nat.le_of_ble_eq_true rfl) (Nat.le_of_ble_eq_true rfl) at_196_4).trans ?_
  rfl
theorem T196_7 {C : Nat → List j_V → j_H → Option j_Z} {L : Nat} {m : j_M0} {x0 : Int} {s0 : Int} : j_fin C 196 7 [some (jI x0)] [jI s0] (hH L m) = if s0 = 0 ∨ s0 = 1 then some (some (jI s0), hH L m) else none := by
  exact S_iretz rfl at_196_7
theorem T197_0_109_115 {C : Nat → List j_V → j_H → Option j_Z} {L : Nat} {m : j_M0} {x2 : Int} : j_fin C 197 0 [some (jR 109), some (jR 115), some (jI x2), none] [] (hH L m) = (C 184 [jR 109, jR 115, jI x2] (hH L m)).bind fun z => j_fin C 197 6 [some (jR 109), some (jR 115), some (jI x2), none] (z.1.toList ++ []) z.2 := by
  refine (S_aload_n rfl at_197_0).trans ?_
  refine (S_aload_n rfl at_197_1).trans ?_
  refine (S_iload_n rfl at_197_2).trans ?_
  refine (S_invv (b := 2) kn_184 rfl (ka_109 L _) (Nat.le_of_ble_eq_true rfl) at_197_3).trans ?_
  rfl
theorem T197_6_109_115 {C : Nat → List j_V → j_H → Option j_Z} {L : Nat} {m : j_M0} {x2 : Int} {s0 : Int} : j_fin C 197 6 [some (jR 109), some (jR 115), some (jI x2), none] [jI s0] (hH L m) = if s0 < 0 then some (some (jL 0), hH L m) else if 0 ≤ s0 ∧ s0 < 20 then some (some (jL (m 117 s0.toNat)), hH L m) else none := by
  refine (S_istore_n (l1 := [some (jR 109), some (jR 115), some (jI x2), some (jI s0)]) rfl at_197_6).trans ?_
  refine (S_iload_n rfl at_197_7).trans ?_
  refine (S_if_ge at_197_8).trans ?_
  refine ite_congr rfl (fun _ => ?_) (fun _ => ?_)
  · refine (S_lconst at_197_11).trans ?_
    refine (S_goto at_197_12).trans ?_
    exact S_lret rfl at_197_21
  · refine (S_aload_n rfl at_197_15).trans ?_
    refine (S_getR (ka_115 L _) rfl (f_115_1 L _) at_197_16).trans ?_
    refine (S_iload_n rfl at_197_19).trans ?_
    refine (H_laload (ka_117 L _) at_197_20).trans ?_
    refine ite_congr rfl (fun hi => ?_) (fun _ => rfl)
    exact S_lret rfl at_197_21
theorem T197_0_109_128 {C : Nat → List j_V → j_H → Option j_Z} {L : Nat} {m : j_M0} {x2 : Int} : j_fin C 197 0 [some (jR 109), some (jR 128), some (jI x2), none] [] (hH L m) = (C 184 [jR 109, jR 128, jI x2] (hH L m)).bind fun z => j_fin C 197 6 [some (jR 109), some (jR 128), some (jI x2), none] (z.1.toList ++ []) z.2 := by
  refine (S_aload_n rfl at_197_0).trans ?_
  refine (S_aload_n rfl at_197_1).trans ?_
  refine (S_iload_n rfl at_197_2).trans ?_
  refine (S_invv (b := 2) kn_184 rfl (ka_109 L _) (Nat.le_of_ble_eq_true rfl) at_197_3).trans ?_
  rfl
theorem T197_6_109_128 {C : Nat → List j_V → j_H → Option j_Z} {L : Nat} {m : j_M0} {x2 : Int} {s0 : Int} : j_fin C 197 6 [some (jR 109), some (jR 128), some (jI x2), none] [jI s0] (hH L m) = if s0 < 0 then some (some (jL 0), hH L m) else if 0 ≤ s0 ∧ s0 < 20 then some (some (jL (m 130 s0.toNat)), hH L m) else none := by
  refine (S_istore_n (l1 := [some (jR 109), some (jR 128), some (jI x2), some (jI s0)]) rfl at_197_6).trans ?_
  refine (S_iload_n rfl at_197_7).trans ?_
  refine (S_if_ge at_197_8).trans ?_
  refine ite_congr rfl (fun _ => ?_) (fun _ => ?_)
  · refine (S_lconst at_197_11).trans ?_
    refine (S_goto at_197_12).trans ?_
    exact S_lret rfl at_197_21
  · refine (S_aload_n rfl at_197_15).trans ?_
    refine (S_getR (ka_128 L _) rfl (f_128_1 L _) at_197_16).trans ?_
    refine (S_iload_n rfl at_197_19).trans ?_
    refine (H_laload (ka_130 L _) at_197_20).trans ?_
    refine ite_congr rfl (fun hi => ?_) (fun _ => rfl)
    exact S_lret rfl at_197_21
theorem T198_0 {C : Nat → List j_V → j_H → Option j_Z} {L : Nat} {m : j_M0} {x1 : Int} {x2 : Int} : j_fin C 198 0 [some (jR 109), some (jI x1), some (jI x2)] [] (hH L m) = if (m 115 18) = 0 then some (some (jL (-9223372036854775808)), hH L m) else (C 152 [jR 109, jI x1] (hH L m)).bind fun z => j_fin C 198 15 [some (jR 109), some (jI x1), some (jI x2)] (z.1.toList ++ []) z.2 := by
  refine (S_aload_n rfl at_198_0).trans ?_
  refine (S_getR (ka_109 L _) rfl (f_109_9 L _) at_198_1).trans ?_
  refine (H_get2 (ka_115 L _) rfl at_198_4).trans ?_
  refine (S_if_eq at_198_7).trans ?_
  refine ite_congr rfl (fun _ => ?_) (fun _ => ?_)
  · refine (S_ldc2_w at_198_48).trans ?_
    exact S_lret rfl at_198_51
  · refine (S_aload_n rfl at_198_10).trans ?_
    refine (S_iload_n rfl at_198_11).trans ?_
    refine (S_invv (b := 1) kn_152 rfl (ka_109 L _) (Nat.le_of_ble_eq_true rfl) at_198_12).trans ?_
    rfl
theorem T198_15 {C : Nat → List j_V → j_H → Option j_Z} {L : Nat} {m : j_M0} {x1 : Int} {x2 : Int} {s0 : Int} : j_fin C 198 15 [some (jR 109), some (jI x1), some (jI x2)] [jI s0] (hH L m) = if s0 = 0 then some (some (jL (-9223372036854775808)), hH L m) else (C 196 [jI x2] (hH L m)).bind fun z => j_fin C 198 22 [some (jR 109), some (jI x1), some (jI x2)] (z.1.toList ++ []) z.2 := by
  refine (S_if_eq at_198_15).trans ?_
  refine ite_congr rfl (fun _ => ?_) (fun _ => ?_)
  · refine (S_ldc2_w at_198_48).trans ?_
    exact S_lret rfl at_198_51
  · refine (S_iload_n rfl at_198_18).trans ?_
    refine (S_invs (by decide) (Nat.le_of_ble_eq_true rfl) (Nat.le_of_ble_eq_true rfl) at_198_19).trans ?_
    rfl
theorem T198_22 {C : Nat → List j_V → j_H → Option j_Z} {L : Nat} {m : j_M0} {x1 : Int} {x2 : Int} {s0 : Int} : j_fin C 198 22 [some (jR 109), some (jI x1), some (jI x2)] [jI s0] (hH L m) = if s0 = 0 then some (some (jL (-9223372036854775808)), hH L m) else (C 197 [jR 109, jR 115, jI x1] (hH L m)).bind fun z => j_fin C 198 34 [some (jR 109), some (jI x1), some (jI x2)] (z.1.toList ++ []) z.2 := by
  refine (S_if_eq at_198_22).trans ?_
  refine ite_congr rfl (fun _ => ?_) (fun _ => ?_)
  · refine (S_ldc2_w at_198_48).trans ?_
    exact S_lret rfl at_198_51
  · refine (S_aload_n rfl at_198_25).trans ?_
    refine (S_aload_n rfl at_198_26).trans ?_
    refine (S_getR (ka_109 L _) rfl (f_109_9 L _) at_198_27).trans ?_
    refine (S_iload_n rfl at_198_30).trans ?_
    refine (S_invv (b := 2) kn_197 rfl (ka_109 L _) (Nat.le_of_ble_eq_true rfl) at_198_31).trans ?_
    rfl
theorem T198_34 {C : Nat → List j_V → j_H → Option j_Z} {L : Nat} {m : j_M0} {x1 : Int} {x2 : Int} {t0 : Int} : j_fin C 198 34 [some (jR 109), some (jI x1), some (jI x2)] [jL t0] (hH L m) = (C 195 [jL t0, jL (m 115 13), jI x2] (hH L m)).bind fun z => j_fin C 198 45 [some (jR 109), some (jI x1), some (jI x2)] (z.1.toList ++ []) z.2 := by
  refine (S_aload_n rfl at_198_34).trans ?_
  refine (S_getR (ka_109 L _) rfl (f_109_9 L _) at_198_35).trans ?_
  refine (H_get1 (ka_115 L _) rfl at_198_38).trans ?_
  refine (S_iload_n rfl at_198_41).trans ?_
  refine (S_invs (by decide) (Nat.le_of_ble_eq_true rfl) (Nat.le_of_ble_eq_true rfl) at_198_42).trans ?_
  rfl
theorem T198_45 {C : Nat → List j_V → j_H → Option j_Z} {L : Nat} {m : j_M0} {x1 : Int} {x2 : Int} {t0 : Int} : j_fin C 198 45 [some (jR 109), some (jI x1), some (jI x2)] [jL t0] (hH L m) = some (some (jL t0), hH L m) := by
  refine (S_goto at_198_45).trans ?_
  exact S_lret rfl at_198_51
theorem T199_0 {C : Nat → List j_V → j_H → Option j_Z} {L : Nat} {m : j_M0} {x1 : Int} : j_fin C 199 0 [some (jR 109), some (jI x1)] [] (hH L m) = if (m 115 18) = 0 then some (some (jL (-9223372036854775808)), hH L m) else (C 196 [jI x1] (hH L m)).bind fun z => j_fin C 199 14 [some (jR 109), some (jI x1)] (z.1.toList ++ []) z.2 := by
  refine (S_aload_n rfl at_199_0).trans ?_
  refine (S_getR (ka_109 L _) rfl (f_109_9 L _) at_199_1).trans ?_
  refine (H_get2 (ka_115 L _) rfl at_199_4).trans ?_
  refine (S_if_eq at_199_7).trans ?_
  refine ite_congr rfl (fun _ => ?_) (fun _ => ?_)
  · refine (S_ldc2_w at_199_38).trans ?_
    exact S_lret rfl at_199_41
  · refine (S_iload_n rfl at_199_10).trans ?_
    refine (S_invs (by decide) (Nat.le_of_ble_eq_true rfl) (Nat.le_of_ble_eq_true rfl) at_199_11).trans ?_
    rfl
theorem T199_14 {C : Nat → List j_V → j_H → Option j_Z} {L : Nat} {m : j_M0} {x1 : Int} {s0 : Int} : j_fin C 199 14 [some (jR 109), some (jI x1)] [jI s0] (hH L m) = if s0 = 0 then some (some (jL (-9223372036854775808)), hH L m) else (C 195 [jL (m 115 12), jL (m 115 13), jI x1] (hH L m)).bind fun z => j_fin C 199 35 [some (jR 109), some (jI x1)] (z.1.toList ++ []) z.2 := by
  refine (S_if_eq at_199_14).trans ?_
  refine ite_congr rfl (fun _ => ?_) (fun _ => ?_)
  · refine (S_ldc2_w at_199_38).trans ?_
    exact S_lret rfl at_199_41
  · refine (S_aload_n rfl at_199_17).trans ?_
    refine (S_getR (ka_109 L _) rfl (f_109_9 L _) at_199_18).trans ?_
    refine (H_get1 (ka_115 L _) rfl at_199_21).trans ?_
    refine (S_aload_n rfl at_199_24).trans ?_
    refine (S_getR (ka_109 L _) rfl (f_109_9 L _) at_199_25).trans ?_
    refine (H_get1 (ka_115 L _) rfl at_199_28).trans ?_
    refine (S_iload_n rfl at_199_31).trans ?_
    refine (S_invs (by decide) (Nat.le_of_ble_eq_true rfl) (Nat.le_of_ble_eq_true rfl) at_199_32).trans ?_
    rfl
theorem T199_35 {C : Nat → List j_V → j_H → Option j_Z} {L : Nat} {m : j_M0} {x1 : Int} {t0 : Int} : j_fin C 199 35 [some (jR 109), some (jI x1)] [jL t0] (hH L m) = some (some (jL t0), hH L m) := by
  refine (S_goto at_199_35).trans ?_
  exact S_lret rfl at_199_41
theorem T200_0 {C : Nat → List j_V → j_H → Option j_Z} {L : Nat} {m : j_M0} {x1 : Int} {x2 : Int} : j_fin C 200 0 [some (jR 109), some (jI x1), some (jI x2), none] [] (hH L m) = if (m 115 18) = 0 then some (some (jL (-9223372036854775808)), hH L m) else (C 153 [jR 109, jI x1] (hH L m)).bind fun z => j_fin C 200 15 [some (jR 109), some (jI x1), some (jI x2), none] (z.1.toList ++ []) z.2 := by
  refine (S_aload_n rfl at_200_0).trans ?_
  refine (S_getR (ka_109 L _) rfl (f_109_9 L _) at_200_1).trans ?_
  refine (H_get2 (ka_115 L _) rfl at_200_4).trans ?_
  refine (S_if_eq at_200_7).trans ?_
  refine ite_congr rfl (fun _ => ?_) (fun _ => ?_)
  · refine (S_ldc2_w at_200_25).trans ?_
    exact S_lret rfl at_200_28
  · refine (S_aload_n rfl at_200_10).trans ?_
    refine (S_iload_n rfl at_200_11).trans ?_
    refine (S_invv (b := 1) kn_153 rfl (ka_109 L _) (Nat.le_of_ble_eq_true rfl) at_200_12).trans ?_
    rfl
theorem T200_15 {C : Nat → List j_V → j_H → Option j_Z} {L : Nat} {m : j_M0} {x1 : Int} {x2 : Int} {s0 : Int} : j_fin C 200 15 [some (jR 109), some (jI x1), some (jI x2), none] [jI s0] (hH L m) = if s0 = 0 then some (some (jL (-9223372036854775808)), hH L m) else (C 196 [jI x2] (hH L m)).bind fun z => j_fin C 200 22 [some (jR 109), some (jI x1), some (jI x2), none] (z.1.toList ++ []) z.2 := by
  refine (S_if_eq at_200_15).trans ?_
  refine ite_congr rfl (fun _ => ?_) (fun _ => ?_)
  · refine (S_ldc2_w at_200_25).trans ?_
    exact S_lret rfl at_200_28
  · refine (S_iload_n rfl at_200_18).trans ?_
    refine (S_invs (by decide) (Nat.le_of_ble_eq_true rfl) (Nat.le_of_ble_eq_true rfl) at_200_19).trans ?_
    rfl
theorem T200_22 {C : Nat → List j_V → j_H → Option j_Z} {L : Nat} {m : j_M0} {x1 : Int} {x2 : Int} {s0 : Int} : j_fin C 200 22 [some (jR 109), some (jI x1), some (jI x2), none] [jI s0] (hH L m) = if s0 = 0 then some (some (jL (-9223372036854775808)), hH L m) else j_fin C 200 31 [some (jR 109), some (jI x1), some (jI x2), some (jI 0)] [] (hH L m) := by
  refine (S_if_ne at_200_22).trans ?_
  refine ite_congr rfl (fun _ => ?_) (fun _ => ?_)
  · refine (S_ldc2_w at_200_25).trans ?_
    exact S_lret rfl at_200_28
  · refine (S_iconst at_200_29).trans ?_
    refine (S_istore_n (l1 := [some (jR 109), some (jI x1), some (jI x2), some (jI 0)]) rfl at_200_30).trans ?_
    rfl
theorem T200_31 {C : Nat → List j_V → j_H → Option j_Z} {L : Nat} {m : j_M0} {x1 : Int} {x2 : Int} {x3 : Int} : j_fin C 200 31 [some (jR 109), some (jI x1), some (jI x2), some (jI x3)] [] (hH L m) = (C 151 [jR 109] (hH L m)).bind fun z => j_fin C 200 36 [some (jR 109), some (jI x1), some (jI x2), some (jI x3)] (z.1.toList ++ [jI x3]) z.2 := by
  refine (S_iload_n rfl at_200_31).trans ?_
  refine (S_aload_n rfl at_200_32).trans ?_
  refine (S_invv (b := 0) kn_151 rfl (ka_109 L _) (Nat.le_of_ble_eq_true rfl) at_200_33).trans ?_
  rfl
theorem T200_36 {C : Nat → List j_V → j_H → Option j_Z} {L : Nat} {m : j_M0} {x1 : Int} {x2 : Int} {x3 : Int} {s0 : Int} {s1 : Int} : j_fin C 200 36 [some (jR 109), some (jI x1), some (jI x2), some (jI x3)] [jI s1, jI s0] (hH L m) = if s0 < s1 then if 0 ≤ x3 ∧ x3 < 5 then if (m 123 x3.toNat) = (w32 (10 + x1)) then if 0 ≤ x3 ∧ x3 < 5 then (C 195 [jL (m 118 x3.toNat), jL (m 115 13), jI x2] (hH L m)).bind fun z => j_fin C 200 75 [some (jR 109), some (jI x1), some (jI x2), some (jI x3)] (z.1.toList ++ []) z.2 else none else j_fin C 200 31 [some (jR 109), some (jI x1), some (jI x2), some (jI (w32 (x3 + 1)))] [] (hH L m) else none else some (some (jL x2), hH L m) := by
  refine (S_icmp_ge at_200_36).trans ?_
  refine ite_congr rfl (fun _ => ?_) (fun _ => ?_)
  · refine (S_aload_n rfl at_200_39).trans ?_
    refine (S_getR (ka_109 L _) rfl (f_109_9 L _) at_200_40).trans ?_
    refine (S_getR (ka_115 L _) rfl (f_115_7 L _) at_200_43).trans ?_
    refine (S_iload_n rfl at_200_46).trans ?_
    refine (H_iaload (ka_123 L _) at_200_47).trans ?_
    refine ite_congr rfl (fun hi => ?_) (fun _ => rfl)
    refine (S_bipush at_200_48).trans ?_
    refine (S_iload_n rfl at_200_50).trans ?_
    refine (S_iadd at_200_51).trans ?_
    refine (S_icmp_ne at_200_52).trans ?_
    refine ite_congr rfl (fun _ => ?_) (fun _ => ?_)
    · refine (S_aload_n rfl at_200_55).trans ?_
      refine (S_getR (ka_109 L _) rfl (f_109_9 L _) at_200_56).trans ?_
      refine (S_getR (ka_115 L _) rfl (f_115_2 L _) at_200_59).trans ?_
      refine (S_iload_n rfl at_200_62).trans ?_
      refine (H_laload (ka_118 L _) at_200_63).trans ?_
      refine ite_congr rfl (fun hi => ?_) (fun _ => rfl)
      refine (S_aload_n rfl at_200_64).trans ?_
      refine (S_getR (ka_109 L _) rfl (f_109_9 L _) at_200_65).trans ?_
      refine (H_get1 (ka_115 L _) rfl at_200_68).trans ?_
      refine (S_iload_n rfl at_200_71).trans ?_
      refine (S_invs (by decide) (Nat.le_of_ble_eq_true rfl) (Nat.le_of_ble_eq_true rfl) at_200_72).trans ?_
      rfl
    · refine (S_iinc (l1 := [some (jR 109), some (jI x1), some (jI x2), some (jI (w32 (x3 + 1)))]) rfl rfl at_200_76).trans ?_
      refine (S_goto at_200_79).trans ?_
      rfl
  · refine (S_iload_n rfl at_200_82).trans ?_
    refine (S_i2l at_200_83).trans ?_
    exact S_lret rfl at_200_84
theorem T200_75 {C : Nat → List j_V → j_H → Option j_Z} {L : Nat} {m : j_M0} {x1 : Int} {x2 : Int} {x3 : Int} {t0 : Int} : j_fin C 200 75 [some (jR 109), some (jI x1), some (jI x2), some (jI x3)] [jL t0] (hH L m) = some (some (jL t0), hH L m) := by
  exact S_lret rfl at_200_75
theorem T201_0 {C : Nat → List j_V → j_H → Option j_Z} {L : Nat} {m : j_M0} {x1 : Int} : j_fin C 201 0 [some (jR 109), some (jI x1)] [] (hH L m) = if (m 115 18) = 0 then some (some (jI 0), hH L m) else (C 150 [jL x1, jL 0, jL (w32 ((m 115 16) - 1))] (hH L m)).bind fun z => j_fin C 201 26 [some (jR 109), some (jI x1)] (z.1.toList ++ []) z.2 := by
  refine (S_aload_n rfl at_201_0).trans ?_
  refine (S_getR (ka_109 L _) rfl (f_109_9 L _) at_201_1).trans ?_
  refine (H_get2 (ka_115 L _) rfl at_201_4).trans ?_
  refine (S_if_eq at_201_7).trans ?_
  refine ite_congr rfl (fun _ => ?_) (fun _ => ?_)
  · refine (S_iconst at_201_33).trans ?_
    exact (S_iretz rfl at_201_34).trans (if_pos (by decide))
  · refine (S_iload_n rfl at_201_10).trans ?_
    refine (S_i2l at_201_11).trans ?_
    refine (S_lconst at_201_12).trans ?_
    refine (S_aload_n rfl at_201_13).trans ?_
    refine (S_getR (ka_109 L _) rfl (f_109_9 L _) at_201_14).trans ?_
    refine (H_get0 (ka_115 L _) rfl at_201_17).trans ?_
    refine (S_iconst at_201_20).trans ?_
    refine (S_isub at_201_21).trans ?_
    refine (S_i2l at_201_22).trans ?_
    refine (S_invs (by decide) (Nat.le_of_ble_eq_true rfl) (Nat.le_of_ble_eq_true rfl) at_201_23).trans ?_
    rfl
theorem T201_26 {C : Nat → List j_V → j_H → Option j_Z} {L : Nat} {m : j_M0} {x1 : Int} {s0 : Int} : j_fin C 201 26 [some (jR 109), some (jI x1)] [jI s0] (hH L m) = if s0 = 0 then some (some (jI 0), hH L m) else some (some (jI 1), hH L m) := by
  refine (S_if_eq at_201_26).trans ?_
  refine ite_congr rfl (fun _ => ?_) (fun _ => ?_)
  · refine (S_iconst at_201_33).trans ?_
    exact (S_iretz rfl at_201_34).trans (if_pos (by decide))
  · refine (S_iconst at_201_29).trans ?_
    refine (S_goto at_201_30).trans ?_
    exact (S_iretz rfl at_201_34).trans (if_pos (by decide))
theorem T202_0 {C : Nat → List j_V → j_H → Option j_Z} {L : Nat} {m : j_M0} {x1 : Int} {x2 : Int} : j_fin C 202 0 [some (jR 109), some (jI x1), some (jI x2)] [] (hH L m) = (C 201 [jR 109, jI x1] (hH L m)).bind fun z => j_fin C 202 5 [some (jR 109), some (jI x1), some (jI x2)] (z.1.toList ++ []) z.2 := by
  refine (S_aload_n rfl at_202_0).trans ?_
  refine (S_iload_n rfl at_202_1).trans ?_
  refine (S_invv (b := 1) kn_201 rfl (ka_109 L _) (Nat.le_of_ble_eq_true rfl) at_202_2).trans ?_
  rfl
theorem T202_5 {C : Nat → List j_V → j_H → Option j_Z} {L : Nat} {m : j_M0} {x1 : Int} {x2 : Int} {s0 : Int} : j_fin C 202 5 [some (jR 109), some (jI x1), some (jI x2)] [jI s0] (hH L m) = if s0 = 0 then some (some (jL (-9223372036854775808)), hH L m) else (C 151 [jR 109] (hH L m)).bind fun z => j_fin C 202 15 [some (jR 109), some (jI x1), some (jI x2)] (z.1.toList ++ [jL 0, jL x2]) z.2 := by
  refine (S_if_eq at_202_5).trans ?_
  refine ite_congr rfl (fun _ => ?_) (fun _ => ?_)
  · refine (S_ldc2_w at_202_22).trans ?_
    refine (S_goto at_202_25).trans ?_
    exact S_lret rfl at_202_61
  · refine (S_iload_n rfl at_202_8).trans ?_
    refine (S_i2l at_202_9).trans ?_
    refine (S_lconst at_202_10).trans ?_
    refine (S_aload_n rfl at_202_11).trans ?_
    refine (S_invv (b := 0) kn_151 rfl (ka_109 L _) (Nat.le_of_ble_eq_true rfl) at_202_12).trans ?_
    rfl
theorem T202_15 {C : Nat → List j_V → j_H → Option j_Z} {L : Nat} {m : j_M0} {x1 : Int} {x2 : Int} {t0 : Int} {t1 : Int} {s2 : Int} : j_fin C 202 15 [some (jR 109), some (jI x1), some (jI x2)] [jI s2, jL t1, jL t0] (hH L m) = (C 150 [jL t0, jL t1, jL s2] (hH L m)).bind fun z => j_fin C 202 19 [some (jR 109), some (jI x1), some (jI x2)] (z.1.toList ++ []) z.2 := by
  refine (S_i2l at_202_15).trans ?_
  refine (S_invs (by decide) (Nat.le_of_ble_eq_true rfl) (Nat.le_of_ble_eq_true rfl) at_202_16).trans ?_
  rfl
theorem T202_19 {C : Nat → List j_V → j_H → Option j_Z} {L : Nat} {m : j_M0} {x1 : Int} {x2 : Int} {s0 : Int} : j_fin C 202 19 [some (jR 109), some (jI x1), some (jI x2)] [jI s0] (hH L m) = if s0 = 0 then some (some (jL (-9223372036854775808)), hH L m) else (C 151 [jR 109] (hH L m)).bind fun z => j_fin C 202 33 [some (jR 109), some (jI x1), some (jI x2)] (z.1.toList ++ [jI x2]) z.2 := by
  refine (S_if_ne at_202_19).trans ?_
  refine ite_congr rfl (fun _ => ?_) (fun _ => ?_)
  · refine (S_ldc2_w at_202_22).trans ?_
    refine (S_goto at_202_25).trans ?_
    exact S_lret rfl at_202_61
  · refine (S_iload_n rfl at_202_28).trans ?_
    refine (S_aload_n rfl at_202_29).trans ?_
    refine (S_invv (b := 0) kn_151 rfl (ka_109 L _) (Nat.le_of_ble_eq_true rfl) at_202_30).trans ?_
    rfl
theorem T202_33 {C : Nat → List j_V → j_H → Option j_Z} {L : Nat} {m : j_M0} {x1 : Int} {x2 : Int} {s0 : Int} {s1 : Int} : j_fin C 202 33 [some (jR 109), some (jI x1), some (jI x2)] [jI s1, jI s0] (hH L m) = if s0 = s1 then if 0 ≤ x1 ∧ x1 < 12 then some (some (jL (m 125 x1.toNat)), hH L m) else none else if 0 ≤ (w32 ((w32 (5 * x1)) + x2)) ∧ (w32 ((w32 (5 * x1)) + x2)) < 60 then some (some (jL (m 124 (w32 ((w32 (5 * x1)) + x2)).toNat)), hH L m) else none := by
  refine (S_icmp_ne at_202_33).trans ?_
  refine ite_congr rfl (fun _ => ?_) (fun _ => ?_)
  · refine (S_aload_n rfl at_202_36).trans ?_
    refine (S_getR (ka_109 L _) rfl (f_109_9 L _) at_202_37).trans ?_
    refine (S_getR (ka_115 L _) rfl (f_115_9 L _) at_202_40).trans ?_
    refine (S_iload_n rfl at_202_43).trans ?_
    refine (H_laload (ka_125 L _) at_202_44).trans ?_
    refine ite_congr rfl (fun hi => ?_) (fun _ => rfl)
    refine (S_goto at_202_45).trans ?_
    exact S_lret rfl at_202_61
  · refine (S_aload_n rfl at_202_48).trans ?_
    refine (S_getR (ka_109 L _) rfl (f_109_9 L _) at_202_49).trans ?_
    refine (S_getR (ka_115 L _) rfl (f_115_8 L _) at_202_52).trans ?_
    refine (S_iconst at_202_55).trans ?_
    refine (S_iload_n rfl at_202_56).trans ?_
    refine (S_imul at_202_57).trans ?_
    refine (S_iload_n rfl at_202_58).trans ?_
    refine (S_iadd at_202_59).trans ?_
    refine (H_laload (ka_124 L _) at_202_60).trans ?_
    refine ite_congr rfl (fun hi => ?_) (fun _ => rfl)
    exact S_lret rfl at_202_61
theorem T203_0 {C : Nat → List j_V → j_H → Option j_Z} {L : Nat} {m : j_M0} {x1 : Int} {x2 : Int} {x3 : Int} : j_fin C 203 0 [some (jR 109), some (jI x1), some (jI x2), some (jI x3)] [] (hH L m) = (C 201 [jR 109, jI x1] (hH L m)).bind fun z => j_fin C 203 5 [some (jR 109), some (jI x1), some (jI x2), some (jI x3)] (z.1.toList ++ []) z.2 := by
  refine (S_aload_n rfl at_203_0).trans ?_
  refine (S_iload_n rfl at_203_1).trans ?_
  refine (S_invv (b := 1) kn_201 rfl (ka_109 L _) (Nat.le_of_ble_eq_true rfl) at_203_2).trans ?_
  rfl
theorem T203_5 {C : Nat → List j_V → j_H → Option j_Z} {L : Nat} {m : j_M0} {x1 : Int} {x2 : Int} {x3 : Int} {s0 : Int} : j_fin C 203 5 [some (jR 109), some (jI x1), some (jI x2), some (jI x3)] [jI s0] (hH L m) = if s0 = 0 then some (some (jL (-9223372036854775808)), hH L m) else (C 196 [jI x3] (hH L m)).bind fun z => j_fin C 203 12 [some (jR 109), some (jI x1), some (jI x2), some (jI x3)] (z.1.toList ++ []) z.2 := by
  refine (S_if_eq at_203_5).trans ?_
  refine ite_congr rfl (fun _ => ?_) (fun _ => ?_)
  · refine (S_ldc2_w at_203_42).trans ?_
    exact S_lret rfl at_203_45
  · refine (S_iload_n rfl at_203_8).trans ?_
    refine (S_invs (by decide) (Nat.le_of_ble_eq_true rfl) (Nat.le_of_ble_eq_true rfl) at_203_9).trans ?_
    rfl
theorem T203_12 {C : Nat → List j_V → j_H → Option j_Z} {L : Nat} {m : j_M0} {x1 : Int} {x2 : Int} {x3 : Int} {s0 : Int} : j_fin C 203 12 [some (jR 109), some (jI x1), some (jI x2), some (jI x3)] [jI s0] (hH L m) = if s0 = 0 then some (some (jL (-9223372036854775808)), hH L m) else (C 153 [jR 109, jI (w32 (x2 - 10))] (hH L m)).bind fun z => j_fin C 203 23 [some (jR 109), some (jI x1), some (jI x2), some (jI x3)] (z.1.toList ++ []) z.2 := by
  refine (S_if_eq at_203_12).trans ?_
  refine ite_congr rfl (fun _ => ?_) (fun _ => ?_)
  · refine (S_ldc2_w at_203_42).trans ?_
    exact S_lret rfl at_203_45
  · refine (S_aload_n rfl at_203_15).trans ?_
    refine (S_iload_n rfl at_203_16).trans ?_
    refine (S_bipush at_203_17).trans ?_
    refine (S_isub at_203_19).trans ?_
    refine (S_invv (b := 1) kn_153 rfl (ka_109 L _) (Nat.le_of_ble_eq_true rfl) at_203_20).trans ?_
    rfl
theorem T203_23 {C : Nat → List j_V → j_H → Option j_Z} {L : Nat} {m : j_M0} {x1 : Int} {x2 : Int} {x3 : Int} {s0 : Int} : j_fin C 203 23 [some (jR 109), some (jI x1), some (jI x2), some (jI x3)] [jI s0] (hH L m) = if s0 = 0 then (C 150 [jL x2, jL 20, jL (w32 (19 + x1))] (hH L m)).bind fun z => j_fin C 203 39 [some (jR 109), some (jI x1), some (jI x2), some (jI x3)] (z.1.toList ++ []) z.2 else (C 190 [jI x2] (hH L m)).bind fun z => j_fin C 203 61 [some (jR 109), some (jI x1), some (jI x2), some (jI x3)] (z.1.toList ++ [jI (w32 (20 * x1)), jR 126]) z.2 := by
  refine (S_if_ne at_203_23).trans ?_
  refine ite_congr rfl (fun _ => ?_) (fun _ => ?_)
  · refine (S_iload_n rfl at_203_26).trans ?_
    refine (S_i2l at_203_27).trans ?_
    refine (S_ldc2_w at_203_28).trans ?_
    refine (S_bipush at_203_31).trans ?_
    refine (S_iload_n rfl at_203_33).trans ?_
    refine (S_iadd at_203_34).trans ?_
    refine (S_i2l at_203_35).trans ?_
    refine (S_invs (by decide) (Nat.le_of_ble_eq_true rfl) (Nat.le_of_ble_eq_true rfl) at_203_36).trans ?_
    rfl
  · refine (S_aload_n rfl at_203_46).trans ?_
    refine (S_getR (ka_109 L _) rfl (f_109_9 L _) at_203_47).trans ?_
    refine (S_getR (ka_115 L _) rfl (f_115_10 L _) at_203_50).trans ?_
    refine (S_bipush at_203_53).trans ?_
    refine (S_iload_n rfl at_203_55).trans ?_
    refine (S_imul at_203_56).trans ?_
    refine (S_iload_n rfl at_203_57).trans ?_
    refine (S_invs (by decide) (Nat.le_of_ble_eq_true rfl) (Nat.le_of_ble_eq_true rfl) at_203_58).trans ?_
    rfl
theorem T203_39 {C : Nat → List j_V → j_H → Option j_Z} {L : Nat} {m : j_M0} {x1 : Int} {x2 : Int} {x3 : Int} {s0 : Int} : j_fin C 203 39 [some (jR 109), some (jI x1), some (jI x2), some (jI x3)] [jI s0] (hH L m) = if s0 = 0 then some (some (jL (-9223372036854775808)), hH L m) else (C 190 [jI x2] (hH L m)).bind fun z => j_fin C 203 61 [some (jR 109), some (jI x1), some (jI x2), some (jI x3)] (z.1.toList ++ [jI (w32 (20 * x1)), jR 126]) z.2 := by
  refine (S_if_ne at_203_39).trans ?_
  refine ite_congr rfl (fun _ => ?_) (fun _ => ?_)
  · refine (S_ldc2_w at_203_42).trans ?_
    exact S_lret rfl at_203_45
  · refine (S_aload_n rfl at_203_46).trans ?_
    refine (S_getR (ka_109 L _) rfl (f_109_9 L _) at_203_47).trans ?_
    refine (S_getR (ka_115 L _) rfl (f_115_10 L _) at_203_50).trans ?_
    refine (S_bipush at_203_53).trans ?_
    refine (S_iload_n rfl at_203_55).trans ?_
    refine (S_imul at_203_56).trans ?_
    refine (S_iload_n rfl at_203_57).trans ?_
    refine (S_invs (by decide) (Nat.le_of_ble_eq_true rfl) (Nat.le_of_ble_eq_true rfl) at_203_58).trans ?_
    rfl
theorem T203_61 {C : Nat → List j_V → j_H → Option j_Z} {L : Nat} {m : j_M0} {x1 : Int} {x2 : Int} {x3 : Int} {s1 : Int} {s2 : Int} : j_fin C 203 61 [some (jR 109), some (jI x1), some (jI x2), some (jI x3)] [jI s2, jI s1, jR 126] (hH L m) = if 0 ≤ (w32 (s1 + s2)) ∧ (w32 (s1 + s2)) < 240 then if 0 ≤ x1 ∧ x1 < 12 then (C 195 [jL (m 126 (w32 (s1 + s2)).toNat), jL (m 127 x1.toNat), jI x3] (hH L m)).bind fun z => j_fin C 203 76 [some (jR 109), some (jI x1), some (jI x2), some (jI x3)] (z.1.toList ++ []) z.2 else none else none := by
  refine (S_iadd at_203_61).trans ?_
  refine (H_laload (ka_126 L _) at_203_62).trans ?_
  refine ite_congr rfl (fun hi => ?_) (fun _ => rfl)
  refine (S_aload_n rfl at_203_63).trans ?_
  refine (S_getR (ka_109 L _) rfl (f_109_9 L _) at_203_64).trans ?_
  refine (S_getR (ka_115 L _) rfl (f_115_11 L _) at_203_67).trans ?_
  refine (S_iload_n rfl at_203_70).trans ?_
  refine (H_laload (ka_127 L _) at_203_71).trans ?_
  refine ite_congr rfl (fun hi => ?_) (fun _ => rfl)
  refine (S_iload_n rfl at_203_72).trans ?_
  refine (S_invs (by decide) (Nat.le_of_ble_eq_true rfl) (Nat.le_of_ble_eq_true rfl) at_203_73).trans ?_
  rfl
theorem T203_76 {C : Nat → List j_V → j_H → Option j_Z} {L : Nat} {m : j_M0} {x1 : Int} {x2 : Int} {x3 : Int} {t0 : Int} : j_fin C 203 76 [some (jR 109), some (jI x1), some (jI x2), some (jI x3)] [jL t0] (hH L m) = some (some (jL t0), hH L m) := by
  exact S_lret rfl at_203_76
theorem T204_0 {C : Nat → List j_V → j_H → Option j_Z} {L : Nat} {m : j_M0} {x1 : Int} {x2 : Int} : j_fin C 204 0 [some (jR 109), some (jI x1), some (jI x2), none, none, none] [] (hH L m) = j_fin C 204 5 [some (jR 109), some (jI x1), some (jI x2), some (jL 0), none, some (jI 0)] [] (hH L m) := by
  refine (S_lconst at_204_0).trans ?_
  refine (S_lstore_n (l1 := [some (jR 109), some (jI x1), some (jI x2), some (jL 0), none, none]) rfl at_204_1).trans ?_
  refine (S_iconst at_204_2).trans ?_
  refine (S_istore (l1 := [some (jR 109), some (jI x1), some (jI x2), some (jL 0), none, some (jI 0)]) rfl at_204_3).trans ?_
  rfl
theorem T204_5 {C : Nat → List j_V → j_H → Option j_Z} {L : Nat} {m : j_M0} {x1 : Int} {x2 : Int} {y3 : Int} {x5 : Int} : j_fin C 204 5 [some (jR 109), some (jI x1), some (jI x2), some (jL y3), none, some (jI x5)] [] (hH L m) = if x5 < (m 110 1) then if 0 ≤ (w32 ((w32 (20 * x1)) + x5)) ∧ (w32 ((w32 (20 * x1)) + x5)) < 240 then (C 151 [jR 109] (hH L m)).bind fun z => j_fin C 204 37 [some (jR 109), some (jI x1), some (jI x2), some (jL y3), none, some (jI x5)] (z.1.toList ++ [jI x2, jL (m 126 (w32 ((w32 (20 * x1)) + x5)).toNat), jL y3]) z.2 else none else j_fin C 204 68 [some (jR 109), some (jI x1), some (jI x2), some (jL y3), none, some (jI 0)] [] (hH L m) := by
  refine (S_iload rfl at_204_5).trans ?_
  refine (S_aload_n rfl at_204_7).trans ?_
  refine (S_getR (ka_109 L _) rfl (f_109_0 L _) at_204_8).trans ?_
  refine (S_iconst at_204_11).trans ?_
  refine (H_iaload (ka_110 L _) at_204_12).trans ?_
  refine (if_pos (by decide)).trans ?_
  refine (S_icmp_ge at_204_13).trans ?_
  refine ite_congr rfl (fun _ => ?_) (fun _ => ?_)
  · refine (S_lload_n rfl at_204_16).trans ?_
    refine (S_aload_n rfl at_204_17).trans ?_
    refine (S_getR (ka_109 L _) rfl (f_109_9 L _) at_204_18).trans ?_
    refine (S_getR (ka_115 L _) rfl (f_115_10 L _) at_204_21).trans ?_
    refine (S_bipush at_204_24).trans ?_
    refine (S_iload_n rfl at_204_26).trans ?_
    refine (S_imul at_204_27).trans ?_
    refine (S_iload rfl at_204_28).trans ?_
    refine (S_iadd at_204_30).trans ?_
    refine (H_laload (ka_126 L _) at_204_31).trans ?_
    refine ite_congr rfl (fun hi => ?_) (fun _ => rfl)
    refine (S_iload_n rfl at_204_32).trans ?_
    refine (S_aload_n rfl at_204_33).trans ?_
    refine (S_invv (b := 0) kn_151 rfl (ka_109 L _) (Nat.le_of_ble_eq_true rfl) at_204_34).trans ?_
    rfl
  · refine (S_iconst at_204_65).trans ?_
    refine (S_istore (l1 := [some (jR 109), some (jI x1), some (jI x2), some (jL y3), none, some (jI 0)]) rfl at_204_66).trans ?_
    rfl
theorem T204_37 {C : Nat → List j_V → j_H → Option j_Z} {L : Nat} {m : j_M0} {x1 : Int} {x2 : Int} {y3 : Int} {x5 : Int} {t0 : Int} {t1 : Int} {s2 : Int} {s3 : Int} : j_fin C 204 37 [some (jR 109), some (jI x1), some (jI x2), some (jL y3), none, some (jI x5)] [jI s3, jI s2, jL t1, jL t0] (hH L m) = if s2 = s3 then (C 158 [jR 109, jI x5] (hH L m)).bind fun z => j_fin C 204 46 [some (jR 109), some (jI x1), some (jI x2), some (jL y3), none, some (jI x5)] (z.1.toList ++ [jL t1, jL t0]) z.2 else (C 157 [jR 109, jI x5, jI x2] (hH L m)).bind fun z => j_fin C 204 56 [some (jR 109), some (jI x1), some (jI x2), some (jL y3), none, some (jI x5)] (z.1.toList ++ [jL t1, jL t0]) z.2 := by
  refine (S_icmp_ne at_204_37).trans ?_
  refine ite_congr rfl (fun _ => ?_) (fun _ => ?_)
  · refine (S_aload_n rfl at_204_40).trans ?_
    refine (S_iload rfl at_204_41).trans ?_
    refine (S_invv (b := 1) kn_158 rfl (ka_109 L _) (Nat.le_of_ble_eq_true rfl) at_204_43).trans ?_
    rfl
  · refine (S_aload_n rfl at_204_49).trans ?_
    refine (S_iload rfl at_204_50).trans ?_
    refine (S_iload_n rfl at_204_52).trans ?_
    refine (S_invv (b := 2) kn_157 rfl (ka_109 L _) (Nat.le_of_ble_eq_true rfl) at_204_53).trans ?_
    rfl
theorem T204_46 {C : Nat → List j_V → j_H → Option j_Z} {L : Nat} {m : j_M0} {x1 : Int} {x2 : Int} {y3 : Int} {x5 : Int} {t0 : Int} {t1 : Int} {t2 : Int} : j_fin C 204 46 [some (jR 109), some (jI x1), some (jI x2), some (jL y3), none, some (jI x5)] [jL t2, jL t1, jL t0] (hH L m) = j_fin C 204 56 [some (jR 109), some (jI x1), some (jI x2), some (jL y3), none, some (jI x5)] [jL t2, jL t1, jL t0] (hH L m) := by
  refine (S_goto at_204_46).trans ?_
  rfl
theorem T204_56 {C : Nat → List j_V → j_H → Option j_Z} {L : Nat} {m : j_M0} {x1 : Int} {x2 : Int} {y3 : Int} {x5 : Int} {t0 : Int} {t1 : Int} {t2 : Int} : j_fin C 204 56 [some (jR 109), some (jI x1), some (jI x2), some (jL y3), none, some (jI x5)] [jL t2, jL t1, jL t0] (hH L m) = j_fin C 204 5 [some (jR 109), some (jI x1), some (jI x2), some (jL (w64 (t0 + (w64 (t1 * t2))))), none, some (jI (w32 (x5 + 1)))] [] (hH L m) := by
  refine (S_lmul at_204_56).trans ?_
  refine (S_ladd at_204_57).trans ?_
  refine (S_lstore_n (l1 := [some (jR 109), some (jI x1), some (jI x2), some (jL (w64 (t0 + (w64 (t1 * t2))))), none, some (jI x5)]) rfl at_204_58).trans ?_
  refine (S_iinc (l1 := [some (jR 109), some (jI x1), some (jI x2), some (jL (w64 (t0 + (w64 (t1 * t2))))), none, some (jI (w32 (x5 + 1)))]) rfl rfl at_204_59).trans ?_
  refine (S_goto at_204_62).trans ?_
  rfl
theorem T204_68 {C : Nat → List j_V → j_H → Option j_Z} {L : Nat} {m : j_M0} {x1 : Int} {x2 : Int} {y3 : Int} {x5 : Int} : j_fin C 204 68 [some (jR 109), some (jI x1), some (jI x2), some (jL y3), none, some (jI x5)] [] (hH L m) = if x5 < x1 then if 0 ≤ (w32 ((w32 ((w32 (20 * x1)) + 8)) + x5)) ∧ (w32 ((w32 ((w32 (20 * x1)) + 8)) + x5)) < 240 then (C 202 [jR 109, jI x5, jI x2] (hH L m)).bind fun z => j_fin C 204 100 [some (jR 109), some (jI x1), some (jI x2), some (jL y3), none, some (jI x5)] (z.1.toList ++ [jL (m 126 (w32 ((w32 ((w32 (20 * x1)) + 8)) + x5)).toNat), jL y3]) z.2 else none else if 0 ≤ x1 ∧ x1 < 12 then (C 265 [jL y3, jL (m 127 x1.toNat)] (hH L m)).bind fun z => j_fin C 204 122 [some (jR 109), some (jI x1), some (jI x2), some (jL y3), none, some (jI x5)] (z.1.toList ++ []) z.2 else none := by
  refine (S_iload rfl at_204_68).trans ?_
  refine (S_iload_n rfl at_204_70).trans ?_
  refine (S_icmp_ge at_204_71).trans ?_
  refine ite_congr rfl (fun _ => ?_) (fun _ => ?_)
  · refine (S_lload_n rfl at_204_74).trans ?_
    refine (S_aload_n rfl at_204_75).trans ?_
    refine (S_getR (ka_109 L _) rfl (f_109_9 L _) at_204_76).trans ?_
    refine (S_getR (ka_115 L _) rfl (f_115_10 L _) at_204_79).trans ?_
    refine (S_bipush at_204_82).trans ?_
    refine (S_iload_n rfl at_204_84).trans ?_
    refine (S_imul at_204_85).trans ?_
    refine (S_bipush at_204_86).trans ?_
    refine (S_iadd at_204_88).trans ?_
    refine (S_iload rfl at_204_89).trans ?_
    refine (S_iadd at_204_91).trans ?_
    refine (H_laload (ka_126 L _) at_204_92).trans ?_
    refine ite_congr rfl (fun hi => ?_) (fun _ => rfl)
    refine (S_aload_n rfl at_204_93).trans ?_
    refine (S_iload rfl at_204_94).trans ?_
    refine (S_iload_n rfl at_204_96).trans ?_
    refine (S_invv (b := 2) kn_202 rfl (ka_109 L _) (Nat.le_of_ble_eq_true rfl) at_204_97).trans ?_
    rfl
  · refine (S_lload_n rfl at_204_109).trans ?_
    refine (S_aload_n rfl at_204_110).trans ?_
    refine (S_getR (ka_109 L _) rfl (f_109_9 L _) at_204_111).trans ?_
    refine (S_getR (ka_115 L _) rfl (f_115_11 L _) at_204_114).trans ?_
    refine (S_iload_n rfl at_204_117).trans ?_
    refine (H_laload (ka_127 L _) at_204_118).trans ?_
    refine ite_congr rfl (fun hi => ?_) (fun _ => rfl)
    refine (S_invs (by decide) (Nat.le_of_ble_eq_true rfl) (Nat.le_of_ble_eq_true rfl) at_204_119).trans ?_
    rfl
theorem T204_100 {C : Nat → List j_V → j_H → Option j_Z} {L : Nat} {m : j_M0} {x1 : Int} {x2 : Int} {y3 : Int} {x5 : Int} {t0 : Int} {t1 : Int} {t2 : Int} : j_fin C 204 100 [some (jR 109), some (jI x1), some (jI x2), some (jL y3), none, some (jI x5)] [jL t2, jL t1, jL t0] (hH L m) = j_fin C 204 68 [some (jR 109), some (jI x1), some (jI x2), some (jL (w64 (t0 + (w64 (t1 * t2))))), none, some (jI (w32 (x5 + 1)))] [] (hH L m) := by
  refine (S_lmul at_204_100).trans ?_
  refine (S_ladd at_204_101).trans ?_
  refine (S_lstore_n (l1 := [some (jR 109), some (jI x1), some (jI x2), some (jL (w64 (t0 + (w64 (t1 * t2))))), none, some (jI x5)]) rfl at_204_102).trans ?_
  refine (S_iinc (l1 := [some (jR 109), some (jI x1), some (jI x2), some (jL (w64 (t0 + (w64 (t1 * t2))))), none, some (jI (w32 (x5 + 1)))]) rfl rfl at_204_103).trans ?_
  refine (S_goto at_204_106).trans ?_
  rfl
theorem T204_122 {C : Nat → List j_V → j_H → Option j_Z} {L : Nat} {m : j_M0} {x1 : Int} {x2 : Int} {y3 : Int} {x5 : Int} {t0 : Int} : j_fin C 204 122 [some (jR 109), some (jI x1), some (jI x2), some (jL y3), none, some (jI x5)] [jL t0] (hH L m) = some (some (jL t0), hH L m) := by
  exact S_lret rfl at_204_122
theorem T205_0 {C : Nat → List j_V → j_H → Option j_Z} {L : Nat} {m : j_M0} {x1 : Int} : j_fin C 205 0 [some (jR 109), some (jI x1), none, none] [] (hH L m) = (C 201 [jR 109, jI x1] (hH L m)).bind fun z => j_fin C 205 5 [some (jR 109), some (jI x1), none, none] (z.1.toList ++ []) z.2 := by
  refine (S_aload_n rfl at_205_0).trans ?_
  refine (S_iload_n rfl at_205_1).trans ?_
  refine (S_invv (b := 1) kn_201 rfl (ka_109 L _) (Nat.le_of_ble_eq_true rfl) at_205_2).trans ?_
  rfl
theorem T205_5 {C : Nat → List j_V → j_H → Option j_Z} {L : Nat} {m : j_M0} {x1 : Int} {s0 : Int} : j_fin C 205 5 [some (jR 109), some (jI x1), none, none] [jI s0] (hH L m) = if s0 = 0 then some (some (jI (-1)), hH L m) else j_fin C 205 14 [some (jR 109), some (jI x1), some (jI 1), some (jI 0)] [] (hH L m) := by
  refine (S_if_ne at_205_5).trans ?_
  refine ite_congr rfl (fun _ => ?_) (fun _ => ?_)
  · refine (S_iconst at_205_8).trans ?_
    exact S_ireti rfl at_205_9
  · refine (S_iconst at_205_10).trans ?_
    refine (S_istore_n (l1 := [some (jR 109), some (jI x1), some (jI 1), none]) rfl at_205_11).trans ?_
    refine (S_iconst at_205_12).trans ?_
    refine (S_istore_n (l1 := [some (jR 109), some (jI x1), some (jI 1), some (jI 0)]) rfl at_205_13).trans ?_
    rfl
theorem T205_14 {C : Nat → List j_V → j_H → Option j_Z} {L : Nat} {m : j_M0} {x1 : Int} {x2 : Int} {x3 : Int} : j_fin C 205 14 [some (jR 109), some (jI x1), some (jI x2), some (jI x3)] [] (hH L m) = (C 151 [jR 109] (hH L m)).bind fun z => j_fin C 205 19 [some (jR 109), some (jI x1), some (jI x2), some (jI x3)] (z.1.toList ++ [jI x3]) z.2 := by
  refine (S_iload_n rfl at_205_14).trans ?_
  refine (S_aload_n rfl at_205_15).trans ?_
  refine (S_invv (b := 0) kn_151 rfl (ka_109 L _) (Nat.le_of_ble_eq_true rfl) at_205_16).trans ?_
  rfl
theorem T205_19 {C : Nat → List j_V → j_H → Option j_Z} {L : Nat} {m : j_M0} {x1 : Int} {x2 : Int} {x3 : Int} {s0 : Int} {s1 : Int} : j_fin C 205 19 [some (jR 109), some (jI x1), some (jI x2), some (jI x3)] [jI s1, jI s0] (hH L m) = if s1 < s0 then if x2 = 0 then some (some (jI 0), hH L m) else some (some (jI 1), hH L m) else (C 204 [jR 109, jI x1, jI x3] (hH L m)).bind fun z => j_fin C 205 29 [some (jR 109), some (jI x1), some (jI x2), some (jI x3)] (z.1.toList ++ [jI x2]) z.2 := by
  refine (S_icmp_gt at_205_19).trans ?_
  refine ite_congr rfl (fun _ => ?_) (fun _ => ?_)
  · refine (S_iload_n rfl at_205_52).trans ?_
    refine (S_if_eq at_205_53).trans ?_
    refine ite_congr rfl (fun _ => ?_) (fun _ => ?_)
    · refine (S_iconst at_205_60).trans ?_
      exact S_ireti rfl at_205_61
    · refine (S_iconst at_205_56).trans ?_
      refine (S_goto at_205_57).trans ?_
      exact S_ireti rfl at_205_61
  · refine (S_iload_n rfl at_205_22).trans ?_
    refine (S_aload_n rfl at_205_23).trans ?_
    refine (S_iload_n rfl at_205_24).trans ?_
    refine (S_iload_n rfl at_205_25).trans ?_
    refine (S_invv (b := 2) kn_204 rfl (ka_109 L _) (Nat.le_of_ble_eq_true rfl) at_205_26).trans ?_
    rfl
theorem T205_29 {C : Nat → List j_V → j_H → Option j_Z} {L : Nat} {m : j_M0} {x1 : Int} {x2 : Int} {x3 : Int} {s0 : Int} {t1 : Int} : j_fin C 205 29 [some (jR 109), some (jI x1), some (jI x2), some (jI x3)] [jL t1, jI s0] (hH L m) = (C 202 [jR 109, jI x1, jI x3] (hH L m)).bind fun z => j_fin C 205 35 [some (jR 109), some (jI x1), some (jI x2), some (jI x3)] (z.1.toList ++ [jL t1, jI s0]) z.2 := by
  refine (S_aload_n rfl at_205_29).trans ?_
  refine (S_iload_n rfl at_205_30).trans ?_
  refine (S_iload_n rfl at_205_31).trans ?_
  refine (S_invv (b := 2) kn_202 rfl (ka_109 L _) (Nat.le_of_ble_eq_true rfl) at_205_32).trans ?_
  rfl
theorem T205_35 {C : Nat → List j_V → j_H → Option j_Z} {L : Nat} {m : j_M0} {x1 : Int} {x2 : Int} {x3 : Int} {s0 : Int} {t1 : Int} {t2 : Int} : j_fin C 205 35 [some (jR 109), some (jI x1), some (jI x2), some (jI x3)] [jL t2, jL t1, jI s0] (hH L m) = if (j_cmp t1 t2) = 0 then j_fin C 205 14 [some (jR 109), some (jI x1), some (jI (j_and s0 1)), some (jI (w32 (x3 + 1)))] [] (hH L m) else j_fin C 205 14 [some (jR 109), some (jI x1), some (jI (j_and s0 0)), some (jI (w32 (x3 + 1)))] [] (hH L m) := by
  refine (S_lcmp at_205_35).trans ?_
  refine (S_if_ne at_205_36).trans ?_
  refine ite_congr rfl (fun _ => ?_) (fun _ => ?_)
  · refine (S_iconst at_205_39).trans ?_
    refine (S_goto at_205_40).trans ?_
    refine (S_iand at_205_44).trans ?_
    refine (S_istore_n (l1 := [some (jR 109), some (jI x1), some (jI (j_and s0 1)), some (jI x3)]) rfl at_205_45).trans ?_
    refine (S_iinc (l1 := [some (jR 109), some (jI x1), some (jI (j_and s0 1)), some (jI (w32 (x3 + 1)))]) rfl rfl at_205_46).trans ?_
    refine (S_goto at_205_49).trans ?_
    rfl
  · refine (S_iconst at_205_43).trans ?_
    refine (S_iand at_205_44).trans ?_
    refine (S_istore_n (l1 := [some (jR 109), some (jI x1), some (jI (j_and s0 0)), some (jI x3)]) rfl at_205_45).trans ?_
    refine (S_iinc (l1 := [some (jR 109), some (jI x1), some (jI (j_and s0 0)), some (jI (w32 (x3 + 1)))]) rfl rfl at_205_46).trans ?_
    refine (S_goto at_205_49).trans ?_
    rfl
theorem T206_0 {C : Nat → List j_V → j_H → Option j_Z} {L : Nat} {m : j_M0} {x1 : Int} {x2 : Int} : j_fin C 206 0 [some (jR 109), some (jI x1), some (jI x2), none] [] (hH L m) = (C 153 [jR 109, jI x1] (hH L m)).bind fun z => j_fin C 206 5 [some (jR 109), some (jI x1), some (jI x2), none] (z.1.toList ++ []) z.2 := by
  refine (S_aload_n rfl at_206_0).trans ?_
  refine (S_iload_n rfl at_206_1).trans ?_
  refine (S_invv (b := 1) kn_153 rfl (ka_109 L _) (Nat.le_of_ble_eq_true rfl) at_206_2).trans ?_
  rfl
theorem T206_5 {C : Nat → List j_V → j_H → Option j_Z} {L : Nat} {m : j_M0} {x1 : Int} {x2 : Int} {s0 : Int} : j_fin C 206 5 [some (jR 109), some (jI x1), some (jI x2), none] [jI s0] (hH L m) = if s0 = 0 then some (some (jI (-1)), hH L m) else (C 150 [jL x2, jL 0, jL 9] (hH L m)).bind fun z => j_fin C 206 19 [some (jR 109), some (jI x1), some (jI x2), none] (z.1.toList ++ []) z.2 := by
  refine (S_if_ne at_206_5).trans ?_
  refine ite_congr rfl (fun _ => ?_) (fun _ => ?_)
  · refine (S_iconst at_206_8).trans ?_
    exact S_ireti rfl at_206_9
  · refine (S_iload_n rfl at_206_10).trans ?_
    refine (S_i2l at_206_11).trans ?_
    refine (S_lconst at_206_12).trans ?_
    refine (S_ldc2_w at_206_13).trans ?_
    refine (S_invs (by decide) (Nat.le_of_ble_eq_true rfl) (Nat.le_of_ble_eq_true rfl) at_206_16).trans ?_
    rfl
theorem T206_19 {C : Nat → List j_V → j_H → Option j_Z} {L : Nat} {m : j_M0} {x1 : Int} {x2 : Int} {s0 : Int} : j_fin C 206 19 [some (jR 109), some (jI x1), some (jI x2), none] [jI s0] (hH L m) = if s0 = 0 then some (some (jI (-2)), hH L m) else if 0 ≤ (w32 (68 + x1)) ∧ (w32 (68 + x1)) < 150 then if 0 ≤ (w32 (68 + x1)) ∧ (w32 (68 + x1)) < 150 then some (some (jI (m 110 (w32 (68 + x1)).toNat)), hH L (j_up m 110 (w32 (68 + x1)).toNat x2)) else none else none := by
  refine (S_if_ne at_206_19).trans ?_
  refine ite_congr rfl (fun _ => ?_) (fun _ => ?_)
  · refine (S_bipush at_206_22).trans ?_
    exact S_ireti rfl at_206_24
  · refine (S_aload_n rfl at_206_25).trans ?_
    refine (S_getR (ka_109 L _) rfl (f_109_0 L _) at_206_26).trans ?_
    refine (S_bipush at_206_29).trans ?_
    refine (S_iload_n rfl at_206_31).trans ?_
    refine (S_iadd at_206_32).trans ?_
    refine (H_iaload (ka_110 L _) at_206_33).trans ?_
    refine ite_congr rfl (fun hi => ?_) (fun _ => rfl)
    refine (S_istore_n (l1 := [some (jR 109), some (jI x1), some (jI x2), some (jI (m 110 (w32 (68 + x1)).toNat))]) rfl at_206_34).trans ?_
    refine (S_aload_n rfl at_206_35).trans ?_
    refine (S_getR (ka_109 L _) rfl (f_109_0 L _) at_206_36).trans ?_
    refine (S_bipush at_206_39).trans ?_
    refine (S_iload_n rfl at_206_41).trans ?_
    refine (S_iadd at_206_42).trans ?_
    refine (S_iload_n rfl at_206_43).trans ?_
    refine (H_iastore (by omega) (ka_110 L _) at_206_44).trans ?_
    refine ite_congr rfl (fun hi => ?_) (fun _ => rfl)
    refine (S_iload_n rfl at_206_45).trans ?_
    exact S_ireti rfl at_206_46
theorem T207_0 {C : Nat → List j_V → j_H → Option j_Z} {L : Nat} {m : j_M0} {x1 : Int} : j_fin C 207 0 [some (jR 109), some (jI x1), none] [] (hH L m) = (C 150 [jL x1, jL 1, jL 10] (hH L m)).bind fun z => j_fin C 207 9 [some (jR 109), some (jI x1), none] (z.1.toList ++ []) z.2 := by
  refine (S_iload_n rfl at_207_0).trans ?_
  refine (S_i2l at_207_1).trans ?_
  refine (S_lconst at_207_2).trans ?_
  refine (S_ldc2_w at_207_3).trans ?_
  refine (S_invs (by decide) (Nat.le_of_ble_eq_true rfl) (Nat.le_of_ble_eq_true rfl) at_207_6).trans ?_
  rfl
theorem T207_9 {C : Nat → List j_V → j_H → Option j_Z} {L : Nat} {m : j_M0} {x1 : Int} {s0 : Int} : j_fin C 207 9 [some (jR 109), some (jI x1), none] [jI s0] (hH L m) = if s0 = 0 then some (some (jI (-2)), hH L m) else some (some (jI (m 110 2)), hH L (j_up m 110 2 x1)) := by
  refine (S_if_ne at_207_9).trans ?_
  refine ite_congr rfl (fun _ => ?_) (fun _ => ?_)
  · refine (S_bipush at_207_12).trans ?_
    exact S_ireti rfl at_207_14
  · refine (S_aload_n rfl at_207_15).trans ?_
    refine (S_getR (ka_109 L _) rfl (f_109_0 L _) at_207_16).trans ?_
    refine (S_iconst at_207_19).trans ?_
    refine (H_iaload (ka_110 L _) at_207_20).trans ?_
    refine (if_pos (by decide)).trans ?_
    refine (S_istore_n (l1 := [some (jR 109), some (jI x1), some (jI (m 110 2))]) rfl at_207_21).trans ?_
    refine (S_aload_n rfl at_207_22).trans ?_
    refine (S_getR (ka_109 L _) rfl (f_109_0 L _) at_207_23).trans ?_
    refine (S_iconst at_207_26).trans ?_
    refine (S_iload_n rfl at_207_27).trans ?_
    refine (H_iastore (by omega) (ka_110 L _) at_207_28).trans ?_
    refine (if_pos (by decide)).trans ?_
    refine (S_iload_n rfl at_207_29).trans ?_
    exact S_ireti rfl at_207_30
theorem T208_0 {C : Nat → List j_V → j_H → Option j_Z} {L : Nat} {m : j_M0} {x1 : Int} : j_fin C 208 0 [some (jR 109), some (jI x1), none, none, none] [] (hH L m) = (C 151 [jR 109] (hH L m)).bind fun z => j_fin C 208 7 [some (jR 109), some (jI x1), none, none, none] (z.1.toList ++ [jL 0, jL x1]) z.2 := by
  refine (S_iload_n rfl at_208_0).trans ?_
  refine (S_i2l at_208_1).trans ?_
  refine (S_lconst at_208_2).trans ?_
  refine (S_aload_n rfl at_208_3).trans ?_
  refine (S_invv (b := 0) kn_151 rfl (ka_109 L _) (Nat.le_of_ble_eq_true rfl) at_208_4).trans ?_
  rfl
theorem T208_7 {C : Nat → List j_V → j_H → Option j_Z} {L : Nat} {m : j_M0} {x1 : Int} {t0 : Int} {t1 : Int} {s2 : Int} : j_fin C 208 7 [some (jR 109), some (jI x1), none, none, none] [jI s2, jL t1, jL t0] (hH L m) = (C 150 [jL t0, jL t1, jL s2] (hH L m)).bind fun z => j_fin C 208 11 [some (jR 109), some (jI x1), none, none, none] (z.1.toList ++ []) z.2 := by
  refine (S_i2l at_208_7).trans ?_
  refine (S_invs (by decide) (Nat.le_of_ble_eq_true rfl) (Nat.le_of_ble_eq_true rfl) at_208_8).trans ?_
  rfl
theorem T208_11 {C : Nat → List j_V → j_H → Option j_Z} {L : Nat} {m : j_M0} {x1 : Int} {s0 : Int} : j_fin C 208 11 [some (jR 109), some (jI x1), none, none, none] [jI s0] (hH L m) = if s0 = 0 then some (some (jL (-9223372036854775808)), hH L m) else j_fin C 208 23 [some (jR 109), some (jI x1), some (jL 0), none, some (jI 0)] [] (hH L m) := by
  refine (S_if_ne at_208_11).trans ?_
  refine ite_congr rfl (fun _ => ?_) (fun _ => ?_)
  · refine (S_ldc2_w at_208_14).trans ?_
    exact S_lret rfl at_208_17
  · refine (S_lconst at_208_18).trans ?_
    refine (S_lstore_n (l1 := [some (jR 109), some (jI x1), some (jL 0), none, none]) rfl at_208_19).trans ?_
    refine (S_iconst at_208_20).trans ?_
    refine (S_istore (l1 := [some (jR 109), some (jI x1), some (jL 0), none, some (jI 0)]) rfl at_208_21).trans ?_
    rfl
theorem T208_23 {C : Nat → List j_V → j_H → Option j_Z} {L : Nat} {m : j_M0} {x1 : Int} {y2 : Int} {x4 : Int} : j_fin C 208 23 [some (jR 109), some (jI x1), some (jL y2), none, some (jI x4)] [] (hH L m) = if x4 < (m 110 1) then if 0 ≤ (w32 (68 + x4)) ∧ (w32 (68 + x4)) < 150 then (C 151 [jR 109] (hH L m)).bind fun z => j_fin C 208 51 [some (jR 109), some (jI x1), some (jL y2), none, some (jI x4)] (z.1.toList ++ [jI x1, jL (m 110 (w32 (68 + x4)).toNat), jL y2]) z.2 else none else (C 264 [jL y2, jI (m 110 2)] (hH L m)).bind fun z => j_fin C 208 89 [some (jR 109), some (jI x1), some (jL y2), none, some (jI x4)] (z.1.toList ++ []) z.2 := by
  refine (S_iload rfl at_208_23).trans ?_
  refine (S_aload_n rfl at_208_25).trans ?_
  refine (S_getR (ka_109 L _) rfl (f_109_0 L _) at_208_26).trans ?_
  refine (S_iconst at_208_29).trans ?_
  refine (H_iaload (ka_110 L _) at_208_30).trans ?_
  refine (if_pos (by decide)).trans ?_
  refine (S_icmp_ge at_208_31).trans ?_
  refine ite_congr rfl (fun _ => ?_) (fun _ => ?_)
  · refine (S_lload_n rfl at_208_34).trans ?_
    refine (S_aload_n rfl at_208_35).trans ?_
    refine (S_getR (ka_109 L _) rfl (f_109_0 L _) at_208_36).trans ?_
    refine (S_bipush at_208_39).trans ?_
    refine (S_iload rfl at_208_41).trans ?_
    refine (S_iadd at_208_43).trans ?_
    refine (H_iaload (ka_110 L _) at_208_44).trans ?_
    refine ite_congr rfl (fun hi => ?_) (fun _ => rfl)
    refine (S_i2l at_208_45).trans ?_
    refine (S_iload_n rfl at_208_46).trans ?_
    refine (S_aload_n rfl at_208_47).trans ?_
    refine (S_invv (b := 0) kn_151 rfl (ka_109 L _) (Nat.le_of_ble_eq_true rfl) at_208_48).trans ?_
    rfl
  · refine (S_lload_n rfl at_208_79).trans ?_
    refine (S_aload_n rfl at_208_80).trans ?_
    refine (S_getR (ka_109 L _) rfl (f_109_0 L _) at_208_81).trans ?_
    refine (S_iconst at_208_84).trans ?_
    refine (H_iaload (ka_110 L _) at_208_85).trans ?_
    refine (if_pos (by decide)).trans ?_
    refine (S_invs (by decide) (Nat.le_of_ble_eq_true rfl) (Nat.le_of_ble_eq_true rfl) at_208_86).trans ?_
    rfl
theorem T208_51 {C : Nat → List j_V → j_H → Option j_Z} {L : Nat} {m : j_M0} {x1 : Int} {y2 : Int} {x4 : Int} {t0 : Int} {t1 : Int} {s2 : Int} {s3 : Int} : j_fin C 208 51 [some (jR 109), some (jI x1), some (jL y2), none, some (jI x4)] [jI s3, jI s2, jL t1, jL t0] (hH L m) = if s2 = s3 then (C 158 [jR 109, jI x4] (hH L m)).bind fun z => j_fin C 208 60 [some (jR 109), some (jI x1), some (jL y2), none, some (jI x4)] (z.1.toList ++ [jL t1, jL t0]) z.2 else (C 157 [jR 109, jI x4, jI x1] (hH L m)).bind fun z => j_fin C 208 70 [some (jR 109), some (jI x1), some (jL y2), none, some (jI x4)] (z.1.toList ++ [jL t1, jL t0]) z.2 := by
  refine (S_icmp_ne at_208_51).trans ?_
  refine ite_congr rfl (fun _ => ?_) (fun _ => ?_)
  · refine (S_aload_n rfl at_208_54).trans ?_
    refine (S_iload rfl at_208_55).trans ?_
    refine (S_invv (b := 1) kn_158 rfl (ka_109 L _) (Nat.le_of_ble_eq_true rfl) at_208_57).trans ?_
    rfl
  · refine (S_aload_n rfl at_208_63).trans ?_
    refine (S_iload rfl at_208_64).trans ?_
    refine (S_iload_n rfl at_208_66).trans ?_
    refine (S_invv (b := 2) kn_157 rfl (ka_109 L _) (Nat.le_of_ble_eq_true rfl) at_208_67).trans ?_
    rfl
theorem T208_60 {C : Nat → List j_V → j_H → Option j_Z} {L : Nat} {m : j_M0} {x1 : Int} {y2 : Int} {x4 : Int} {t0 : Int} {t1 : Int} {t2 : Int} : j_fin C 208 60 [some (jR 109), some (jI x1), some (jL y2), none, some (jI x4)] [jL t2, jL t1, jL t0] (hH L m) = j_fin C 208 70 [some (jR 109), some (jI x1), some (jL y2), none, some (jI x4)] [jL t2, jL t1, jL t0] (hH L m) := by
  refine (S_goto at_208_60).trans ?_
  rfl
theorem T208_70 {C : Nat → List j_V → j_H → Option j_Z} {L : Nat} {m : j_M0} {x1 : Int} {y2 : Int} {x4 : Int} {t0 : Int} {t1 : Int} {t2 : Int} : j_fin C 208 70 [some (jR 109), some (jI x1), some (jL y2), none, some (jI x4)] [jL t2, jL t1, jL t0] (hH L m) = j_fin C 208 23 [some (jR 109), some (jI x1), some (jL (w64 (t0 + (w64 (t1 * t2))))), none, some (jI (w32 (x4 + 1)))] [] (hH L m) := by
  refine (S_lmul at_208_70).trans ?_
  refine (S_ladd at_208_71).trans ?_
  refine (S_lstore_n (l1 := [some (jR 109), some (jI x1), some (jL (w64 (t0 + (w64 (t1 * t2))))), none, some (jI x4)]) rfl at_208_72).trans ?_
  refine (S_iinc (l1 := [some (jR 109), some (jI x1), some (jL (w64 (t0 + (w64 (t1 * t2))))), none, some (jI (w32 (x4 + 1)))]) rfl rfl at_208_73).trans ?_
  refine (S_goto at_208_76).trans ?_
  rfl
theorem T208_89 {C : Nat → List j_V → j_H → Option j_Z} {L : Nat} {m : j_M0} {x1 : Int} {y2 : Int} {x4 : Int} {t0 : Int} : j_fin C 208 89 [some (jR 109), some (jI x1), some (jL y2), none, some (jI x4)] [jL t0] (hH L m) = some (some (jL t0), hH L m) := by
  exact S_lret rfl at_208_89
theorem T209_0 {C : Nat → List j_V → j_H → Option j_Z} {L : Nat} {m : j_M0} : j_fin C 209 0 [some (jR 109), none, none, none] [] (hH L m) = if (m 115 18) = 0 then some (some (jI (-3)), hH L m) else j_fin C 209 17 [some (jR 109), some (jL 0), none, some (jI 0)] [] (hH L m) := by
  refine (S_aload_n rfl at_209_0).trans ?_
  refine (S_getR (ka_109 L _) rfl (f_109_9 L _) at_209_1).trans ?_
  refine (H_get2 (ka_115 L _) rfl at_209_4).trans ?_
  refine (S_if_ne at_209_7).trans ?_
  refine ite_congr rfl (fun _ => ?_) (fun _ => ?_)
  · refine (S_bipush at_209_10).trans ?_
    exact S_ireti rfl at_209_12
  · refine (S_lconst at_209_13).trans ?_
    refine (S_lstore_n (l1 := [some (jR 109), some (jL 0), none, none]) rfl at_209_14).trans ?_
    refine (S_iconst at_209_15).trans ?_
    refine (S_istore_n (l1 := [some (jR 109), some (jL 0), none, some (jI 0)]) rfl at_209_16).trans ?_
    rfl
theorem T209_17 {C : Nat → List j_V → j_H → Option j_Z} {L : Nat} {m : j_M0} {y1 : Int} {x3 : Int} : j_fin C 209 17 [some (jR 109), some (jL y1), none, some (jI x3)] [] (hH L m) = (C 151 [jR 109] (hH L m)).bind fun z => j_fin C 209 22 [some (jR 109), some (jL y1), none, some (jI x3)] (z.1.toList ++ [jI x3]) z.2 := by
  refine (S_iload_n rfl at_209_17).trans ?_
  refine (S_aload_n rfl at_209_18).trans ?_
  refine (S_invv (b := 0) kn_151 rfl (ka_109 L _) (Nat.le_of_ble_eq_true rfl) at_209_19).trans ?_
  rfl
theorem T209_22 {C : Nat → List j_V → j_H → Option j_Z} {L : Nat} {m : j_M0} {y1 : Int} {x3 : Int} {s0 : Int} {s1 : Int} : j_fin C 209 22 [some (jR 109), some (jL y1), none, some (jI x3)] [jI s1, jI s0] (hH L m) = if s0 < s1 then (C 208 [jR 109, jI x3] (hH L m)).bind fun z => j_fin C 209 31 [some (jR 109), some (jL y1), none, some (jI x3)] (z.1.toList ++ [jL y1]) z.2 else (C 151 [jR 109] (hH L m)).bind fun z => j_fin C 209 55 [some (jR 109), some (jL y1), none, some (jI x3)] (z.1.toList ++ [jR 109, jL y1]) z.2 := by
  refine (S_icmp_ge at_209_22).trans ?_
  refine ite_congr rfl (fun _ => ?_) (fun _ => ?_)
  · refine (S_lload_n rfl at_209_25).trans ?_
    refine (S_aload_n rfl at_209_26).trans ?_
    refine (S_iload_n rfl at_209_27).trans ?_
    refine (S_invv (b := 1) kn_208 rfl (ka_109 L _) (Nat.le_of_ble_eq_true rfl) at_209_28).trans ?_
    rfl
  · refine (S_lload_n rfl at_209_49).trans ?_
    refine (S_aload_n rfl at_209_50).trans ?_
    refine (S_aload_n rfl at_209_51).trans ?_
    refine (S_invv (b := 0) kn_151 rfl (ka_109 L _) (Nat.le_of_ble_eq_true rfl) at_209_52).trans ?_
    rfl
theorem T209_31 {C : Nat → List j_V → j_H → Option j_Z} {L : Nat} {m : j_M0} {y1 : Int} {x3 : Int} {t0 : Int} {t1 : Int} : j_fin C 209 31 [some (jR 109), some (jL y1), none, some (jI x3)] [jL t1, jL t0] (hH L m) = (C 197 [jR 109, jR 115, jI x3] (hH L m)).bind fun z => j_fin C 209 40 [some (jR 109), some (jL y1), none, some (jI x3)] (z.1.toList ++ [jL t1, jL t0]) z.2 := by
  refine (S_aload_n rfl at_209_31).trans ?_
  refine (S_aload_n rfl at_209_32).trans ?_
  refine (S_getR (ka_109 L _) rfl (f_109_9 L _) at_209_33).trans ?_
  refine (S_iload_n rfl at_209_36).trans ?_
  refine (S_invv (b := 2) kn_197 rfl (ka_109 L _) (Nat.le_of_ble_eq_true rfl) at_209_37).trans ?_
  rfl
theorem T209_40 {C : Nat → List j_V → j_H → Option j_Z} {L : Nat} {m : j_M0} {y1 : Int} {x3 : Int} {t0 : Int} {t1 : Int} {t2 : Int} : j_fin C 209 40 [some (jR 109), some (jL y1), none, some (jI x3)] [jL t2, jL t1, jL t0] (hH L m) = j_fin C 209 17 [some (jR 109), some (jL (w64 (t0 + (w64 (t1 * t2))))), none, some (jI (w32 (x3 + 1)))] [] (hH L m) := by
  refine (S_lmul at_209_40).trans ?_
  refine (S_ladd at_209_41).trans ?_
  refine (S_lstore_n (l1 := [some (jR 109), some (jL (w64 (t0 + (w64 (t1 * t2))))), none, some (jI x3)]) rfl at_209_42).trans ?_
  refine (S_iinc (l1 := [some (jR 109), some (jL (w64 (t0 + (w64 (t1 * t2))))), none, some (jI (w32 (x3 + 1)))]) rfl rfl at_209_43).trans ?_
  refine (S_goto at_209_46).trans ?_
  rfl
theorem T209_55 {C : Nat → List j_V → j_H → Option j_Z} {L : Nat} {m : j_M0} {y1 : Int} {x3 : Int} {t0 : Int} {s2 : Int} : j_fin C 209 55 [some (jR 109), some (jL y1), none, some (jI x3)] [jI s2, jR 109, jL t0] (hH L m) = (C 208 [jR 109, jI s2] (hH L m)).bind fun z => j_fin C 209 58 [some (jR 109), some (jL y1), none, some (jI x3)] (z.1.toList ++ [jL t0]) z.2 := by
  refine (S_invv (b := 1) kn_208 rfl (ka_109 L _) (Nat.le_of_ble_eq_true rfl) at_209_55).trans ?_
  rfl
theorem T209_58 {C : Nat → List j_V → j_H → Option j_Z} {L : Nat} {m : j_M0} {y1 : Int} {x3 : Int} {t0 : Int} {t1 : Int} : j_fin C 209 58 [some (jR 109), some (jL y1), none, some (jI x3)] [jL t1, jL t0] (hH L m) = if 0 < (j_cmp t0 (w64 (t1 * (m 115 13)))) then some (some (jI 1), hH L m) else some (some (jI 0), hH L m) := by
  refine (S_aload_n rfl at_209_58).trans ?_
  refine (S_getR (ka_109 L _) rfl (f_109_9 L _) at_209_59).trans ?_
  refine (H_get1 (ka_115 L _) rfl at_209_62).trans ?_
  refine (S_lmul at_209_65).trans ?_
  refine (S_lcmp at_209_66).trans ?_
  refine (S_if_le at_209_67).trans ?_
  refine ite_congr rfl (fun _ => ?_) (fun _ => ?_)
  · refine (S_iconst at_209_70).trans ?_
    refine (S_goto at_209_71).trans ?_
    exact S_ireti rfl at_209_75
  · refine (S_iconst at_209_74).trans ?_
    exact S_ireti rfl at_209_75
theorem T210_0 {C : Nat → List j_V → j_H → Option j_Z} {L : Nat} {m : j_M0} : j_fin C 210 0 [some (jR 109), none, none] [] (hH L m) = j_fin C 210 4 [some (jR 109), some (jI 1), some (jI 0)] [] (hH L m) := by
  refine (S_iconst at_210_0).trans ?_
  refine (S_istore_n (l1 := [some (jR 109), some (jI 1), none]) rfl at_210_1).trans ?_
  refine (S_iconst at_210_2).trans ?_
  refine (S_istore_n (l1 := [some (jR 109), some (jI 1), some (jI 0)]) rfl at_210_3).trans ?_
  rfl
theorem T210_4 {C : Nat → List j_V → j_H → Option j_Z} {L : Nat} {m : j_M0} {x1 : Int} {x2 : Int} : j_fin C 210 4 [some (jR 109), some (jI x1), some (jI x2)] [] (hH L m) = (C 151 [jR 109] (hH L m)).bind fun z => j_fin C 210 9 [some (jR 109), some (jI x1), some (jI x2)] (z.1.toList ++ [jI x2]) z.2 := by
  refine (S_iload_n rfl at_210_4).trans ?_
  refine (S_aload_n rfl at_210_5).trans ?_
  refine (S_invv (b := 0) kn_151 rfl (ka_109 L _) (Nat.le_of_ble_eq_true rfl) at_210_6).trans ?_
  rfl
theorem T210_9 {C : Nat → List j_V → j_H → Option j_Z} {L : Nat} {m : j_M0} {x1 : Int} {x2 : Int} {s0 : Int} {s1 : Int} : j_fin C 210 9 [some (jR 109), some (jI x1), some (jI x2)] [jI s1, jI s0] (hH L m) = if s0 < s1 then j_fin C 210 4 [some (jR 109), some (jI (w32 (x1 * 10))), some (jI (w32 (x2 + 1)))] [] (hH L m) else some (some (jI x1), hH L m) := by
  refine (S_icmp_ge at_210_9).trans ?_
  refine ite_congr rfl (fun _ => ?_) (fun _ => ?_)
  · refine (S_iload_n rfl at_210_12).trans ?_
    refine (S_bipush at_210_13).trans ?_
    refine (S_imul at_210_15).trans ?_
    refine (S_istore_n (l1 := [some (jR 109), some (jI (w32 (x1 * 10))), some (jI x2)]) rfl at_210_16).trans ?_
    refine (S_iinc (l1 := [some (jR 109), some (jI (w32 (x1 * 10))), some (jI (w32 (x2 + 1)))]) rfl rfl at_210_17).trans ?_
    refine (S_goto at_210_20).trans ?_
    rfl
  · refine (S_iload_n rfl at_210_23).trans ?_
    exact S_ireti rfl at_210_24
theorem T211_0 {C : Nat → List j_V → j_H → Option j_Z} {L : Nat} {m : j_M0} {x1 : Int} : j_fin C 211 0 [some (jR 109), some (jI x1)] [] (hH L m) = (C 210 [jR 109] (hH L m)).bind fun z => j_fin C 211 7 [some (jR 109), some (jI x1)] (z.1.toList ++ [jL 0, jL x1]) z.2 := by
  refine (S_iload_n rfl at_211_0).trans ?_
  refine (S_i2l at_211_1).trans ?_
  refine (S_lconst at_211_2).trans ?_
  refine (S_aload_n rfl at_211_3).trans ?_
  refine (S_invv (b := 0) kn_210 rfl (ka_109 L _) (Nat.le_of_ble_eq_true rfl) at_211_4).trans ?_
  rfl
theorem T211_7 {C : Nat → List j_V → j_H → Option j_Z} {L : Nat} {m : j_M0} {x1 : Int} {t0 : Int} {t1 : Int} {s2 : Int} : j_fin C 211 7 [some (jR 109), some (jI x1)] [jI s2, jL t1, jL t0] (hH L m) = (C 150 [jL t0, jL t1, jL (w32 (s2 - 1))] (hH L m)).bind fun z => j_fin C 211 13 [some (jR 109), some (jI x1)] (z.1.toList ++ []) z.2 := by
  refine (S_iconst at_211_7).trans ?_
  refine (S_isub at_211_8).trans ?_
  refine (S_i2l at_211_9).trans ?_
  refine (S_invs (by decide) (Nat.le_of_ble_eq_true rfl) (Nat.le_of_ble_eq_true rfl) at_211_10).trans ?_
  rfl
theorem T211_13 {C : Nat → List j_V → j_H → Option j_Z} {L : Nat} {m : j_M0} {x1 : Int} {s0 : Int} : j_fin C 211 13 [some (jR 109), some (jI x1)] [jI s0] (hH L m) = if s0 = 0 ∨ s0 = 1 then some (some (jI s0), hH L m) else none := by
  exact S_iretz rfl at_211_13
theorem T212_0 {C : Nat → List j_V → j_H → Option j_Z} {L : Nat} {m : j_M0} {x1 : Int} : j_fin C 212 0 [some (jR 109), some (jI x1), none, none] [] (hH L m) = (C 151 [jR 109] (hH L m)).bind fun z => j_fin C 212 6 [some (jR 109), some (jI x1), some (jI x1), none] (z.1.toList ++ []) z.2 := by
  refine (S_iload_n rfl at_212_0).trans ?_
  refine (S_istore_n (l1 := [some (jR 109), some (jI x1), some (jI x1), none]) rfl at_212_1).trans ?_
  refine (S_aload_n rfl at_212_2).trans ?_
  refine (S_invv (b := 0) kn_151 rfl (ka_109 L _) (Nat.le_of_ble_eq_true rfl) at_212_3).trans ?_
  rfl
theorem T212_6 {C : Nat → List j_V → j_H → Option j_Z} {L : Nat} {m : j_M0} {x1 : Int} {x2 : Int} {s0 : Int} : j_fin C 212 6 [some (jR 109), some (jI x1), some (jI x2), none] [jI s0] (hH L m) = j_fin C 212 9 [some (jR 109), some (jI x1), some (jI x2), some (jI (w32 (s0 - 1)))] [] (hH L m) := by
  refine (S_iconst at_212_6).trans ?_
  refine (S_isub at_212_7).trans ?_
  refine (S_istore_n (l1 := [some (jR 109), some (jI x1), some (jI x2), some (jI (w32 (s0 - 1)))]) rfl at_212_8).trans ?_
  rfl
theorem T212_9 {C : Nat → List j_V → j_H → Option j_Z} {L : Nat} {m : j_M0} {x1 : Int} {x2 : Int} {x3 : Int} : j_fin C 212 9 [some (jR 109), some (jI x1), some (jI x2), some (jI x3)] [] (hH L m) = if x3 < 0 then some (none, hH L m) else if 0 ≤ x3 ∧ x3 < 5 then j_fin C 212 9 [some (jR 109), some (jI x1), some (jI (w32 (Int.tdiv x2 10))), some (jI (w32 (x3 + (-1))))] [] (hH L (j_up m 141 x3.toNat (Int.tmod x2 10))) else none := by
  refine (S_iload_n rfl at_212_9).trans ?_
  refine (S_if_lt at_212_10).trans ?_
  refine ite_congr rfl (fun _ => ?_) (fun _ => ?_)
  · exact S_ret rfl at_212_34
  · refine (S_aload_n rfl at_212_13).trans ?_
    refine (S_getR (ka_109 L _) rfl (f_109_11 L _) at_212_14).trans ?_
    refine (S_iload_n rfl at_212_17).trans ?_
    refine (S_iload_n rfl at_212_18).trans ?_
    refine (S_bipush at_212_19).trans ?_
    refine (S_irem at_212_21).trans ?_
    refine (if_neg (by decide)).trans ?_
    refine (H_iastore (by omega) (ka_141 L _) at_212_22).trans ?_
    refine ite_congr rfl (fun hi => ?_) (fun _ => rfl)
    refine (S_iload_n rfl at_212_23).trans ?_
    refine (S_bipush at_212_24).trans ?_
    refine (S_idiv at_212_26).trans ?_
    refine (if_neg (by decide)).trans ?_
    refine (S_istore_n (l1 := [some (jR 109), some (jI x1), some (jI (w32 (Int.tdiv x2 10))), some (jI x3)]) rfl at_212_27).trans ?_
    refine (S_iinc (l1 := [some (jR 109), some (jI x1), some (jI (w32 (Int.tdiv x2 10))), some (jI (w32 (x3 + (-1))))]) rfl rfl at_212_28).trans ?_
    refine (S_goto at_212_31).trans ?_
    rfl
theorem T213_0 {C : Nat → List j_V → j_H → Option j_Z} {L : Nat} {m : j_M0} {x1 : Int} : j_fin C 213 0 [some (jR 109), some (jI x1), none, none] [] (hH L m) = (C 212 [jR 109, jI x1] (hH L m)).bind fun z => j_fin C 213 5 [some (jR 109), some (jI x1), none, none] (z.1.toList ++ []) z.2 := by
  refine (S_aload_n rfl at_213_0).trans ?_
  refine (S_iload_n rfl at_213_1).trans ?_
  refine (S_invv (b := 1) kn_212 rfl (ka_109 L _) (Nat.le_of_ble_eq_true rfl) at_213_2).trans ?_
  rfl
theorem T213_5 {C : Nat → List j_V → j_H → Option j_Z} {L : Nat} {m : j_M0} {x1 : Int} : j_fin C 213 5 [some (jR 109), some (jI x1), none, none] [] (hH L m) = j_fin C 213 9 [some (jR 109), some (jI x1), some (jI 0), some (jI 0)] [] (hH L m) := by
  refine (S_iconst at_213_5).trans ?_
  refine (S_istore_n (l1 := [some (jR 109), some (jI x1), some (jI 0), none]) rfl at_213_6).trans ?_
  refine (S_iconst at_213_7).trans ?_
  refine (S_istore_n (l1 := [some (jR 109), some (jI x1), some (jI 0), some (jI 0)]) rfl at_213_8).trans ?_
  rfl
theorem T213_9 {C : Nat → List j_V → j_H → Option j_Z} {L : Nat} {m : j_M0} {x1 : Int} {x2 : Int} {x3 : Int} : j_fin C 213 9 [some (jR 109), some (jI x1), some (jI x2), some (jI x3)] [] (hH L m) = (C 151 [jR 109] (hH L m)).bind fun z => j_fin C 213 14 [some (jR 109), some (jI x1), some (jI x2), some (jI x3)] (z.1.toList ++ [jI x3]) z.2 := by
  refine (S_iload_n rfl at_213_9).trans ?_
  refine (S_aload_n rfl at_213_10).trans ?_
  refine (S_invv (b := 0) kn_151 rfl (ka_109 L _) (Nat.le_of_ble_eq_true rfl) at_213_11).trans ?_
  rfl
theorem T213_14 {C : Nat → List j_V → j_H → Option j_Z} {L : Nat} {m : j_M0} {x1 : Int} {x2 : Int} {x3 : Int} {s0 : Int} {s1 : Int} : j_fin C 213 14 [some (jR 109), some (jI x1), some (jI x2), some (jI x3)] [jI s1, jI s0] (hH L m) = if s0 < s1 then if 0 ≤ (w32 (7 + x3)) ∧ (w32 (7 + x3)) < 150 then if 0 ≤ x3 ∧ x3 < 5 then j_fin C 213 9 [some (jR 109), some (jI x1), some (jI (w32 (x2 + (w32 ((m 110 (w32 (7 + x3)).toNat) * (m 141 x3.toNat)))))), some (jI (w32 (x3 + 1)))] [] (hH L m) else none else none else some (some (jI x2), hH L m) := by
  refine (S_icmp_ge at_213_14).trans ?_
  refine ite_congr rfl (fun _ => ?_) (fun _ => ?_)
  · refine (S_iload_n rfl at_213_17).trans ?_
    refine (S_aload_n rfl at_213_18).trans ?_
    refine (S_getR (ka_109 L _) rfl (f_109_0 L _) at_213_19).trans ?_
    refine (S_bipush at_213_22).trans ?_
    refine (S_iload_n rfl at_213_24).trans ?_
    refine (S_iadd at_213_25).trans ?_
    refine (H_iaload (ka_110 L _) at_213_26).trans ?_
    refine ite_congr rfl (fun hi => ?_) (fun _ => rfl)
    refine (S_aload_n rfl at_213_27).trans ?_
    refine (S_getR (ka_109 L _) rfl (f_109_11 L _) at_213_28).trans ?_
    refine (S_iload_n rfl at_213_31).trans ?_
    refine (H_iaload (ka_141 L _) at_213_32).trans ?_
    refine ite_congr rfl (fun hi => ?_) (fun _ => rfl)
    refine (S_imul at_213_33).trans ?_
    refine (S_iadd at_213_34).trans ?_
    refine (S_istore_n (l1 := [some (jR 109), some (jI x1), some (jI (w32 (x2 + (w32 ((m 110 (w32 (7 + x3)).toNat) * (m 141 x3.toNat)))))), some (jI x3)]) rfl at_213_35).trans ?_
    refine (S_iinc (l1 := [some (jR 109), some (jI x1), some (jI (w32 (x2 + (w32 ((m 110 (w32 (7 + x3)).toNat) * (m 141 x3.toNat)))))), some (jI (w32 (x3 + 1)))]) rfl rfl at_213_36).trans ?_
    refine (S_goto at_213_39).trans ?_
    rfl
  · refine (S_iload_n rfl at_213_42).trans ?_
    exact S_ireti rfl at_213_43
theorem T214_0 {C : Nat → List j_V → j_H → Option j_Z} {L : Nat} {m : j_M0} {x1 : Int} : j_fin C 214 0 [some (jR 109), some (jI x1), none, none, none] [] (hH L m) = j_fin C 214 5 [some (jR 109), some (jI x1), some (jL 0), none, some (jI 0)] [] (hH L m) := by
  refine (S_lconst at_214_0).trans ?_
  refine (S_lstore_n (l1 := [some (jR 109), some (jI x1), some (jL 0), none, none]) rfl at_214_1).trans ?_
  refine (S_iconst at_214_2).trans ?_
  refine (S_istore (l1 := [some (jR 109), some (jI x1), some (jL 0), none, some (jI 0)]) rfl at_214_3).trans ?_
  rfl
theorem T214_5 {C : Nat → List j_V → j_H → Option j_Z} {L : Nat} {m : j_M0} {x1 : Int} {y2 : Int} {x4 : Int} : j_fin C 214 5 [some (jR 109), some (jI x1), some (jL y2), none, some (jI x4)] [] (hH L m) = (C 151 [jR 109] (hH L m)).bind fun z => j_fin C 214 11 [some (jR 109), some (jI x1), some (jL y2), none, some (jI x4)] (z.1.toList ++ [jI x4]) z.2 := by
  refine (S_iload rfl at_214_5).trans ?_
  refine (S_aload_n rfl at_214_7).trans ?_
  refine (S_invv (b := 0) kn_151 rfl (ka_109 L _) (Nat.le_of_ble_eq_true rfl) at_214_8).trans ?_
  rfl
theorem T214_11 {C : Nat → List j_V → j_H → Option j_Z} {L : Nat} {m : j_M0} {x1 : Int} {y2 : Int} {x4 : Int} {s0 : Int} {s1 : Int} : j_fin C 214 11 [some (jR 109), some (jI x1), some (jL y2), none, some (jI x4)] [jI s1, jI s0] (hH L m) = if s0 < s1 then (C 157 [jR 109, jI x1, jI x4] (hH L m)).bind fun z => j_fin C 214 22 [some (jR 109), some (jI x1), some (jL y2), none, some (jI x4)] (z.1.toList ++ [jL y2]) z.2 else (C 158 [jR 109, jI x1] (hH L m)).bind fun z => j_fin C 214 45 [some (jR 109), some (jI x1), some (jL y2), none, some (jI x4)] (z.1.toList ++ [jL y2]) z.2 := by
  refine (S_icmp_ge at_214_11).trans ?_
  refine ite_congr rfl (fun _ => ?_) (fun _ => ?_)
  · refine (S_lload_n rfl at_214_14).trans ?_
    refine (S_aload_n rfl at_214_15).trans ?_
    refine (S_iload_n rfl at_214_16).trans ?_
    refine (S_iload rfl at_214_17).trans ?_
    refine (S_invv (b := 2) kn_157 rfl (ka_109 L _) (Nat.le_of_ble_eq_true rfl) at_214_19).trans ?_
    rfl
  · refine (S_lload_n rfl at_214_39).trans ?_
    refine (S_aload_n rfl at_214_40).trans ?_
    refine (S_iload_n rfl at_214_41).trans ?_
    refine (S_invv (b := 1) kn_158 rfl (ka_109 L _) (Nat.le_of_ble_eq_true rfl) at_214_42).trans ?_
    rfl
theorem T214_22 {C : Nat → List j_V → j_H → Option j_Z} {L : Nat} {m : j_M0} {x1 : Int} {y2 : Int} {x4 : Int} {t0 : Int} {t1 : Int} : j_fin C 214 22 [some (jR 109), some (jI x1), some (jL y2), none, some (jI x4)] [jL t1, jL t0] (hH L m) = if 0 ≤ x4 ∧ x4 < 5 then j_fin C 214 5 [some (jR 109), some (jI x1), some (jL (w64 (t0 + (w64 (t1 * (m 141 x4.toNat)))))), none, some (jI (w32 (x4 + 1)))] [] (hH L m) else none := by
  refine (S_aload_n rfl at_214_22).trans ?_
  refine (S_getR (ka_109 L _) rfl (f_109_11 L _) at_214_23).trans ?_
  refine (S_iload rfl at_214_26).trans ?_
  refine (H_iaload (ka_141 L _) at_214_28).trans ?_
  refine ite_congr rfl (fun hi => ?_) (fun _ => rfl)
  refine (S_i2l at_214_29).trans ?_
  refine (S_lmul at_214_30).trans ?_
  refine (S_ladd at_214_31).trans ?_
  refine (S_lstore_n (l1 := [some (jR 109), some (jI x1), some (jL (w64 (t0 + (w64 (t1 * (m 141 x4.toNat)))))), none, some (jI x4)]) rfl at_214_32).trans ?_
  refine (S_iinc (l1 := [some (jR 109), some (jI x1), some (jL (w64 (t0 + (w64 (t1 * (m 141 x4.toNat)))))), none, some (jI (w32 (x4 + 1)))]) rfl rfl at_214_33).trans ?_
  refine (S_goto at_214_36).trans ?_
  rfl
theorem T214_45 {C : Nat → List j_V → j_H → Option j_Z} {L : Nat} {m : j_M0} {x1 : Int} {y2 : Int} {x4 : Int} {t0 : Int} {t1 : Int} : j_fin C 214 45 [some (jR 109), some (jI x1), some (jL y2), none, some (jI x4)] [jL t1, jL t0] (hH L m) = if 0 < (j_cmp t0 t1) then some (some (jI 1), hH L m) else some (some (jI 0), hH L m) := by
  refine (S_lcmp at_214_45).trans ?_
  refine (S_if_le at_214_46).trans ?_
  refine ite_congr rfl (fun _ => ?_) (fun _ => ?_)
  · refine (S_iconst at_214_49).trans ?_
    refine (S_goto at_214_50).trans ?_
    exact (S_iretz rfl at_214_54).trans (if_pos (by decide))
  · refine (S_iconst at_214_53).trans ?_
    exact (S_iretz rfl at_214_54).trans (if_pos (by decide))
theorem T215_0 {C : Nat → List j_V → j_H → Option j_Z} {L : Nat} {m : j_M0} : j_fin C 215 0 [some (jR 109), none, none] [] (hH L m) = j_fin C 215 4 [some (jR 109), some (jI 0), some (jI 0)] [] (hH L m) := by
  refine (S_iconst at_215_0).trans ?_
  refine (S_istore_n (l1 := [some (jR 109), some (jI 0), none]) rfl at_215_1).trans ?_
  refine (S_iconst at_215_2).trans ?_
  refine (S_istore_n (l1 := [some (jR 109), some (jI 0), some (jI 0)]) rfl at_215_3).trans ?_
  rfl
theorem T215_4 {C : Nat → List j_V → j_H → Option j_Z} {L : Nat} {m : j_M0} {x1 : Int} {x2 : Int} : j_fin C 215 4 [some (jR 109), some (jI x1), some (jI x2)] [] (hH L m) = if x2 < (m 110 1) then (C 214 [jR 109, jI x2] (hH L m)).bind fun z => j_fin C 215 20 [some (jR 109), some (jI x1), some (jI x2)] (z.1.toList ++ [jI x1]) z.2 else some (some (jI x1), hH L m) := by
  refine (S_iload_n rfl at_215_4).trans ?_
  refine (S_aload_n rfl at_215_5).trans ?_
  refine (S_getR (ka_109 L _) rfl (f_109_0 L _) at_215_6).trans ?_
  refine (S_iconst at_215_9).trans ?_
  refine (H_iaload (ka_110 L _) at_215_10).trans ?_
  refine (if_pos (by decide)).trans ?_
  refine (S_icmp_ge at_215_11).trans ?_
  refine ite_congr rfl (fun _ => ?_) (fun _ => ?_)
  · refine (S_iload_n rfl at_215_14).trans ?_
    refine (S_aload_n rfl at_215_15).trans ?_
    refine (S_iload_n rfl at_215_16).trans ?_
    refine (S_invv (b := 1) kn_214 rfl (ka_109 L _) (Nat.le_of_ble_eq_true rfl) at_215_17).trans ?_
    rfl
  · refine (S_iload_n rfl at_215_36).trans ?_
    exact S_ireti rfl at_215_37
theorem T215_20 {C : Nat → List j_V → j_H → Option j_Z} {L : Nat} {m : j_M0} {x1 : Int} {x2 : Int} {s0 : Int} {s1 : Int} : j_fin C 215 20 [some (jR 109), some (jI x1), some (jI x2)] [jI s1, jI s0] (hH L m) = if s1 = 0 then j_fin C 215 4 [some (jR 109), some (jI (w32 (s0 + 0))), some (jI (w32 (x2 + 1)))] [] (hH L m) else j_fin C 215 4 [some (jR 109), some (jI (w32 (s0 + 1))), some (jI (w32 (x2 + 1)))] [] (hH L m) := by
  refine (S_if_eq at_215_20).trans ?_
  refine ite_congr rfl (fun _ => ?_) (fun _ => ?_)
  · refine (S_iconst at_215_27).trans ?_
    refine (S_iadd at_215_28).trans ?_
    refine (S_istore_n (l1 := [some (jR 109), some (jI (w32 (s0 + 0))), some (jI x2)]) rfl at_215_29).trans ?_
    refine (S_iinc (l1 := [some (jR 109), some (jI (w32 (s0 + 0))), some (jI (w32 (x2 + 1)))]) rfl rfl at_215_30).trans ?_
    refine (S_goto at_215_33).trans ?_
    rfl
  · refine (S_iconst at_215_23).trans ?_
    refine (S_goto at_215_24).trans ?_
    refine (S_iadd at_215_28).trans ?_
    refine (S_istore_n (l1 := [some (jR 109), some (jI (w32 (s0 + 1))), some (jI x2)]) rfl at_215_29).trans ?_
    refine (S_iinc (l1 := [some (jR 109), some (jI (w32 (s0 + 1))), some (jI (w32 (x2 + 1)))]) rfl rfl at_215_30).trans ?_
    refine (S_goto at_215_33).trans ?_
    rfl
theorem T216_0 {C : Nat → List j_V → j_H → Option j_Z} {L : Nat} {m : j_M0} {x1 : Int} : j_fin C 216 0 [some (jR 109), some (jI x1), none, none, none] [] (hH L m) = (C 212 [jR 109, jI x1] (hH L m)).bind fun z => j_fin C 216 5 [some (jR 109), some (jI x1), none, none, none] (z.1.toList ++ []) z.2 := by
  refine (S_aload_n rfl at_216_0).trans ?_
  refine (S_iload_n rfl at_216_1).trans ?_
  refine (S_invv (b := 1) kn_212 rfl (ka_109 L _) (Nat.le_of_ble_eq_true rfl) at_216_2).trans ?_
  rfl
theorem T216_5 {C : Nat → List j_V → j_H → Option j_Z} {L : Nat} {m : j_M0} {x1 : Int} : j_fin C 216 5 [some (jR 109), some (jI x1), none, none, none] [] (hH L m) = (C 151 [jR 109] (hH L m)).bind fun z => j_fin C 216 9 [some (jR 109), some (jI x1), none, none, none] (z.1.toList ++ []) z.2 := by
  refine (S_aload_n rfl at_216_5).trans ?_
  refine (S_invv (b := 0) kn_151 rfl (ka_109 L _) (Nat.le_of_ble_eq_true rfl) at_216_6).trans ?_
  rfl
theorem T216_9 {C : Nat → List j_V → j_H → Option j_Z} {L : Nat} {m : j_M0} {x1 : Int} {s0 : Int} : j_fin C 216 9 [some (jR 109), some (jI x1), none, none, none] [jI s0] (hH L m) = j_fin C 216 12 [some (jR 109), some (jI x1), some (jI (w32 (s0 - 1))), none, none] [] (hH L m) := by
  refine (S_iconst at_216_9).trans ?_
  refine (S_isub at_216_10).trans ?_
  refine (S_istore_n (l1 := [some (jR 109), some (jI x1), some (jI (w32 (s0 - 1))), none, none]) rfl at_216_11).trans ?_
  rfl
theorem T216_12 {C : Nat → List j_V → j_H → Option j_Z} {L : Nat} {m : j_M0} {x1 : Int} {x2 : Int} : j_fin C 216 12 [some (jR 109), some (jI x1), some (jI x2), none, none] [] (hH L m) = if x2 < 0 then if x2 < 0 then some (some (jI (-1)), hH L m) else if 0 ≤ x2 ∧ x2 < 5 then if 0 ≤ x2 ∧ x2 < 5 then j_fin C 216 65 [some (jR 109), some (jI x1), some (jI x2), some (jI 0), some (jI 0)] [] (hH L (j_up m 141 x2.toNat (w32 ((m 141 x2.toNat) + 1)))) else none else none else if 0 ≤ x2 ∧ x2 < 5 then if (m 141 x2.toNat) = (m 110 3) then if 0 ≤ x2 ∧ x2 < 5 then j_fin C 216 12 [some (jR 109), some (jI x1), some (jI (w32 (x2 + (-1)))), none, none] [] (hH L (j_up m 141 x2.toNat 0)) else none else if x2 < 0 then some (some (jI (-1)), hH L m) else if 0 ≤ x2 ∧ x2 < 5 then if 0 ≤ x2 ∧ x2 < 5 then j_fin C 216 65 [some (jR 109), some (jI x1), some (jI x2), some (jI 0), some (jI 0)] [] (hH L (j_up m 141 x2.toNat (w32 ((m 141 x2.toNat) + 1)))) else none else none else none := by
  refine (S_iload_n rfl at_216_12).trans ?_
  refine (S_if_lt at_216_13).trans ?_
  refine ite_congr rfl (fun _ => ?_) (fun _ => ?_)
  · refine (S_iload_n rfl at_216_44).trans ?_
    refine (S_if_ge at_216_45).trans ?_
    refine ite_congr rfl (fun _ => ?_) (fun _ => ?_)
    · refine (S_iconst at_216_48).trans ?_
      exact S_ireti rfl at_216_49
    · refine (S_aload_n rfl at_216_50).trans ?_
      refine (S_getR (ka_109 L _) rfl (f_109_11 L _) at_216_51).trans ?_
      refine (S_iload_n rfl at_216_54).trans ?_
      refine (S_dup2RI at_216_55).trans ?_
      refine (H_iaload (ka_141 L _) at_216_56).trans ?_
      refine ite_congr rfl (fun hi => ?_) (fun _ => rfl)
      refine (S_iconst at_216_57).trans ?_
      refine (S_iadd at_216_58).trans ?_
      refine (H_iastore (by omega) (ka_141 L _) at_216_59).trans ?_
      refine ite_congr rfl (fun hi => ?_) (fun _ => rfl)
      refine (S_iconst at_216_60).trans ?_
      refine (S_istore_n (l1 := [some (jR 109), some (jI x1), some (jI x2), some (jI 0), none]) rfl at_216_61).trans ?_
      refine (S_iconst at_216_62).trans ?_
      refine (S_istore (l1 := [some (jR 109), some (jI x1), some (jI x2), some (jI 0), some (jI 0)]) rfl at_216_63).trans ?_
      rfl
  · refine (S_aload_n rfl at_216_16).trans ?_
    refine (S_getR (ka_109 L _) rfl (f_109_11 L _) at_216_17).trans ?_
    refine (S_iload_n rfl at_216_20).trans ?_
    refine (H_iaload (ka_141 L _) at_216_21).trans ?_
    refine ite_congr rfl (fun hi => ?_) (fun _ => rfl)
    refine (S_aload_n rfl at_216_22).trans ?_
    refine (S_getR (ka_109 L _) rfl (f_109_0 L _) at_216_23).trans ?_
    refine (S_iconst at_216_26).trans ?_
    refine (H_iaload (ka_110 L _) at_216_27).trans ?_
    refine (if_pos (by decide)).trans ?_
    refine (S_icmp_ne at_216_28).trans ?_
    refine ite_congr rfl (fun _ => ?_) (fun _ => ?_)
    · refine (S_aload_n rfl at_216_31).trans ?_
      refine (S_getR (ka_109 L _) rfl (f_109_11 L _) at_216_32).trans ?_
      refine (S_iload_n rfl at_216_35).trans ?_
      refine (S_iconst at_216_36).trans ?_
      refine (H_iastore (by omega) (ka_141 L _) at_216_37).trans ?_
      refine ite_congr rfl (fun hi => ?_) (fun _ => rfl)
      refine (S_iinc (l1 := [some (jR 109), some (jI x1), some (jI (w32 (x2 + (-1)))), none, none]) rfl rfl at_216_38).trans ?_
      refine (S_goto at_216_41).trans ?_
      rfl
    · refine (S_iload_n rfl at_216_44).trans ?_
      refine (S_if_ge at_216_45).trans ?_
      refine ite_congr rfl (fun _ => ?_) (fun _ => ?_)
      · refine (S_iconst at_216_48).trans ?_
        exact S_ireti rfl at_216_49
      · refine (S_aload_n rfl at_216_50).trans ?_
        refine (S_getR (ka_109 L _) rfl (f_109_11 L _) at_216_51).trans ?_
        refine (S_iload_n rfl at_216_54).trans ?_
        refine (S_dup2RI at_216_55).trans ?_
        refine (H_iaload (ka_141 L _) at_216_56).trans ?_
        refine ite_congr rfl (fun hi => ?_) (fun _ => rfl)
        refine (S_iconst at_216_57).trans ?_
        refine (S_iadd at_216_58).trans ?_
        refine (H_iastore (by omega) (ka_141 L _) at_216_59).trans ?_
        refine ite_congr rfl (fun hi => ?_) (fun _ => rfl)
        refine (S_iconst at_216_60).trans ?_
        refine (S_istore_n (l1 := [some (jR 109), some (jI x1), some (jI x2), some (jI 0), none]) rfl at_216_61).trans ?_
        refine (S_iconst at_216_62).trans ?_
        refine (S_istore (l1 := [some (jR 109), some (jI x1), some (jI x2), some (jI 0), some (jI 0)]) rfl at_216_63).trans ?_
        rfl
theorem T216_65 {C : Nat → List j_V → j_H → Option j_Z} {L : Nat} {m : j_M0} {x1 : Int} {x2 : Int} {x3 : Int} {x4 : Int} : j_fin C 216 65 [some (jR 109), some (jI x1), some (jI x2), some (jI x3), some (jI x4)] [] (hH L m) = (C 151 [jR 109] (hH L m)).bind fun z => j_fin C 216 71 [some (jR 109), some (jI x1), some (jI x2), some (jI x3), some (jI x4)] (z.1.toList ++ [jI x4]) z.2 := by
  refine (S_iload rfl at_216_65).trans ?_
  refine (S_aload_n rfl at_216_67).trans ?_
  refine (S_invv (b := 0) kn_151 rfl (ka_109 L _) (Nat.le_of_ble_eq_true rfl) at_216_68).trans ?_
  rfl
theorem T216_71 {C : Nat → List j_V → j_H → Option j_Z} {L : Nat} {m : j_M0} {x1 : Int} {x2 : Int} {x3 : Int} {x4 : Int} {s0 : Int} {s1 : Int} : j_fin C 216 71 [some (jR 109), some (jI x1), some (jI x2), some (jI x3), some (jI x4)] [jI s1, jI s0] (hH L m) = if s0 < s1 then if 0 ≤ x4 ∧ x4 < 5 then j_fin C 216 65 [some (jR 109), some (jI x1), some (jI x2), some (jI (w32 ((w32 (10 * x3)) + (m 141 x4.toNat)))), some (jI (w32 (x4 + 1)))] [] (hH L m) else none else some (some (jI x3), hH L m) := by
  refine (S_icmp_ge at_216_71).trans ?_
  refine ite_congr rfl (fun _ => ?_) (fun _ => ?_)
  · refine (S_bipush at_216_74).trans ?_
    refine (S_iload_n rfl at_216_76).trans ?_
    refine (S_imul at_216_77).trans ?_
    refine (S_aload_n rfl at_216_78).trans ?_
    refine (S_getR (ka_109 L _) rfl (f_109_11 L _) at_216_79).trans ?_
    refine (S_iload rfl at_216_82).trans ?_
    refine (H_iaload (ka_141 L _) at_216_84).trans ?_
    refine ite_congr rfl (fun hi => ?_) (fun _ => rfl)
    refine (S_iadd at_216_85).trans ?_
    refine (S_istore_n (l1 := [some (jR 109), some (jI x1), some (jI x2), some (jI (w32 ((w32 (10 * x3)) + (m 141 x4.toNat)))), some (jI x4)]) rfl at_216_86).trans ?_
    refine (S_iinc (l1 := [some (jR 109), some (jI x1), some (jI x2), some (jI (w32 ((w32 (10 * x3)) + (m 141 x4.toNat)))), some (jI (w32 (x4 + 1)))]) rfl rfl at_216_87).trans ?_
    refine (S_goto at_216_90).trans ?_
    rfl
  · refine (S_iload_n rfl at_216_93).trans ?_
    exact S_ireti rfl at_216_94
theorem T217_0 {C : Nat → List j_V → j_H → Option j_Z} {L : Nat} {m : j_M0} {x1 : Int} : j_fin C 217 0 [some (jR 109), some (jI x1), none] [] (hH L m) = (C 150 [jL x1, jL 0, jL 6] (hH L m)).bind fun z => j_fin C 217 9 [some (jR 109), some (jI x1), none] (z.1.toList ++ []) z.2 := by
  refine (S_iload_n rfl at_217_0).trans ?_
  refine (S_i2l at_217_1).trans ?_
  refine (S_lconst at_217_2).trans ?_
  refine (S_ldc2_w at_217_3).trans ?_
  refine (S_invs (by decide) (Nat.le_of_ble_eq_true rfl) (Nat.le_of_ble_eq_true rfl) at_217_6).trans ?_
  rfl
theorem T217_9 {C : Nat → List j_V → j_H → Option j_Z} {L : Nat} {m : j_M0} {x1 : Int} {s0 : Int} : j_fin C 217 9 [some (jR 109), some (jI x1), none] [jI s0] (hH L m) = if s0 = 0 then some (some (jI (-2)), hH L m) else some (some (jI (m 110 3)), hH L (j_up m 110 3 x1)) := by
  refine (S_if_ne at_217_9).trans ?_
  refine ite_congr rfl (fun _ => ?_) (fun _ => ?_)
  · refine (S_bipush at_217_12).trans ?_
    exact S_ireti rfl at_217_14
  · refine (S_aload_n rfl at_217_15).trans ?_
    refine (S_getR (ka_109 L _) rfl (f_109_0 L _) at_217_16).trans ?_
    refine (S_iconst at_217_19).trans ?_
    refine (H_iaload (ka_110 L _) at_217_20).trans ?_
    refine (if_pos (by decide)).trans ?_
    refine (S_istore_n (l1 := [some (jR 109), some (jI x1), some (jI (m 110 3))]) rfl at_217_21).trans ?_
    refine (S_aload_n rfl at_217_22).trans ?_
    refine (S_getR (ka_109 L _) rfl (f_109_0 L _) at_217_23).trans ?_
    refine (S_iconst at_217_26).trans ?_
    refine (S_iload_n rfl at_217_27).trans ?_
    refine (H_iastore (by omega) (ka_110 L _) at_217_28).trans ?_
    refine (if_pos (by decide)).trans ?_
    refine (S_iload_n rfl at_217_29).trans ?_
    exact S_ireti rfl at_217_30
theorem T218_0 {C : Nat → List j_V → j_H → Option j_Z} {L : Nat} {m : j_M0} {x1 : Int} : j_fin C 218 0 [some (jR 109), some (jI x1), none, none, none, none] [] (hH L m) = (C 150 [jL x1, jL 0, jL 19] (hH L m)).bind fun z => j_fin C 218 9 [some (jR 109), some (jI x1), none, none, none, none] (z.1.toList ++ []) z.2 := by
  refine (S_iload_n rfl at_218_0).trans ?_
  refine (S_i2l at_218_1).trans ?_
  refine (S_lconst at_218_2).trans ?_
  refine (S_ldc2_w at_218_3).trans ?_
  refine (S_invs (by decide) (Nat.le_of_ble_eq_true rfl) (Nat.le_of_ble_eq_true rfl) at_218_6).trans ?_
  rfl
theorem T218_9 {C : Nat → List j_V → j_H → Option j_Z} {L : Nat} {m : j_M0} {x1 : Int} {s0 : Int} : j_fin C 218 9 [some (jR 109), some (jI x1), none, none, none, none] [jI s0] (hH L m) = if s0 = 0 then some (some (jI (-2)), hH L m) else j_fin C 218 19 [some (jR 109), some (jI x1), some (jI 0), some (jI 0), none, none] [] (hH L m) := by
  refine (S_if_ne at_218_9).trans ?_
  refine ite_congr rfl (fun _ => ?_) (fun _ => ?_)
  · refine (S_bipush at_218_12).trans ?_
    exact S_ireti rfl at_218_14
  · refine (S_iconst at_218_15).trans ?_
    refine (S_istore_n (l1 := [some (jR 109), some (jI x1), some (jI 0), none, none, none]) rfl at_218_16).trans ?_
    refine (S_iconst at_218_17).trans ?_
    refine (S_istore_n (l1 := [some (jR 109), some (jI x1), some (jI 0), some (jI 0), none, none]) rfl at_218_18).trans ?_
    rfl
theorem T218_19 {C : Nat → List j_V → j_H → Option j_Z} {L : Nat} {m : j_M0} {x1 : Int} {x2 : Int} {x3 : Int} {o4 : Option j_V} {o5 : Option j_V} : j_fin C 218 19 [some (jR 109), some (jI x1), some (jI x2), some (jI x3), o4, o5] [] (hH L m) = if x3 < 0 then if x1 < x2 then if 0 ≤ x1 ∧ x1 < 21 then some (some (jI (m 142 x1.toNat)), hH L m) else none else some (some (jI (-5)), hH L m) else (C 213 [jR 109, jI x3] (hH L m)).bind fun z => j_fin C 218 28 [some (jR 109), some (jI x1), some (jI x2), some (jI x3), o4, o5] (z.1.toList ++ []) z.2 := by
  refine (S_iload_n rfl at_218_19).trans ?_
  refine (S_if_lt at_218_20).trans ?_
  refine ite_congr rfl (fun _ => ?_) (fun _ => ?_)
  · refine (S_iload_n rfl at_218_161).trans ?_
    refine (S_iload_n rfl at_218_162).trans ?_
    refine (S_icmp_le at_218_163).trans ?_
    refine ite_congr rfl (fun _ => ?_) (fun _ => ?_)
    · refine (S_aload_n rfl at_218_166).trans ?_
      refine (S_getR (ka_109 L _) rfl (f_109_12 L _) at_218_167).trans ?_
      refine (S_iload_n rfl at_218_170).trans ?_
      refine (H_iaload (ka_142 L _) at_218_171).trans ?_
      refine ite_congr rfl (fun hi => ?_) (fun _ => rfl)
      refine (S_goto at_218_172).trans ?_
      exact S_ireti rfl at_218_177
    · refine (S_bipush at_218_175).trans ?_
      exact S_ireti rfl at_218_177
  · refine (S_aload_n rfl at_218_23).trans ?_
    refine (S_iload_n rfl at_218_24).trans ?_
    refine (S_invv (b := 1) kn_213 rfl (ka_109 L _) (Nat.le_of_ble_eq_true rfl) at_218_25).trans ?_
    rfl
theorem T218_28 {C : Nat → List j_V → j_H → Option j_Z} {L : Nat} {m : j_M0} {x1 : Int} {x2 : Int} {x3 : Int} {o4 : Option j_V} {o5 : Option j_V} {s0 : Int} : j_fin C 218 28 [some (jR 109), some (jI x1), some (jI x2), some (jI x3), o4, o5] [jI s0] (hH L m) = if x1 < x2 then if 0 ≤ x1 ∧ x1 < 21 then if s0 < (m 143 x1.toNat) then (C 215 [jR 109] (hH L m)).bind fun z => j_fin C 218 50 [some (jR 109), some (jI x1), some (jI x2), some (jI x3), some (jI s0), o5] (z.1.toList ++ []) z.2 else (C 216 [jR 109, jI x3] (hH L m)).bind fun z => j_fin C 218 157 [some (jR 109), some (jI x1), some (jI x2), some (jI x3), some (jI s0), o5] (z.1.toList ++ []) z.2 else none else (C 215 [jR 109] (hH L m)).bind fun z => j_fin C 218 50 [some (jR 109), some (jI x1), some (jI x2), some (jI x3), some (jI s0), o5] (z.1.toList ++ []) z.2 := by
  refine (S_istore (l1 := [some (jR 109), some (jI x1), some (jI x2), some (jI x3), some (jI s0), o5]) rfl at_218_28).trans ?_
  refine (S_iload_n rfl at_218_30).trans ?_
  refine (S_iload_n rfl at_218_31).trans ?_
  refine (S_icmp_le at_218_32).trans ?_
  refine ite_congr rfl (fun _ => ?_) (fun _ => ?_)
  · refine (S_iload rfl at_218_35).trans ?_
    refine (S_aload_n rfl at_218_37).trans ?_
    refine (S_getR (ka_109 L _) rfl (f_109_13 L _) at_218_38).trans ?_
    refine (S_iload_n rfl at_218_41).trans ?_
    refine (H_iaload (ka_143 L _) at_218_42).trans ?_
    refine ite_congr rfl (fun hi => ?_) (fun _ => rfl)
    refine (S_icmp_ge at_218_43).trans ?_
    refine ite_congr rfl (fun _ => ?_) (fun _ => ?_)
    · refine (S_aload_n rfl at_218_46).trans ?_
      refine (S_invv (b := 0) kn_215 rfl (ka_109 L _) (Nat.le_of_ble_eq_true rfl) at_218_47).trans ?_
      rfl
    · refine (S_aload_n rfl at_218_152).trans ?_
      refine (S_iload_n rfl at_218_153).trans ?_
      refine (S_invv (b := 1) kn_216 rfl (ka_109 L _) (Nat.le_of_ble_eq_true rfl) at_218_154).trans ?_
      rfl
  · refine (S_aload_n rfl at_218_46).trans ?_
    refine (S_invv (b := 0) kn_215 rfl (ka_109 L _) (Nat.le_of_ble_eq_true rfl) at_218_47).trans ?_
    rfl
theorem T218_50 {C : Nat → List j_V → j_H → Option j_Z} {L : Nat} {m : j_M0} {x1 : Int} {x2 : Int} {x3 : Int} {x4 : Int} {o5 : Option j_V} {s0 : Int} : j_fin C 218 50 [some (jR 109), some (jI x1), some (jI x2), some (jI x3), some (jI x4), o5] [jI s0] (hH L m) = if 0 < s0 then (C 216 [jR 109, jI x3] (hH L m)).bind fun z => j_fin C 218 157 [some (jR 109), some (jI x1), some (jI x2), some (jI x3), some (jI x4), o5] (z.1.toList ++ []) z.2 else if x1 < x2 then j_fin C 218 68 [some (jR 109), some (jI x1), some (jI x2), some (jI x3), some (jI x4), some (jI x1)] [] (hH L m) else j_fin C 218 68 [some (jR 109), some (jI x1), some (jI x2), some (jI x3), some (jI x4), some (jI x2)] [] (hH L m) := by
  refine (S_if_le at_218_50).trans ?_
  refine ite_congr rfl (fun _ => ?_) (fun _ => ?_)
  · refine (S_goto at_218_53).trans ?_
    refine (S_aload_n rfl at_218_152).trans ?_
    refine (S_iload_n rfl at_218_153).trans ?_
    refine (S_invv (b := 1) kn_216 rfl (ka_109 L _) (Nat.le_of_ble_eq_true rfl) at_218_154).trans ?_
    rfl
  · refine (S_iload_n rfl at_218_56).trans ?_
    refine (S_iload_n rfl at_218_57).trans ?_
    refine (S_icmp_gt at_218_58).trans ?_
    refine ite_congr rfl (fun _ => ?_) (fun _ => ?_)
    · refine (S_iload_n rfl at_218_65).trans ?_
      refine (S_istore (l1 := [some (jR 109), some (jI x1), some (jI x2), some (jI x3), some (jI x4), some (jI x1)]) rfl at_218_66).trans ?_
      rfl
    · refine (S_iload_n rfl at_218_61).trans ?_
      refine (S_goto at_218_62).trans ?_
      refine (S_istore (l1 := [some (jR 109), some (jI x1), some (jI x2), some (jI x3), some (jI x4), some (jI x2)]) rfl at_218_66).trans ?_
      rfl
theorem T218_68 {C : Nat → List j_V → j_H → Option j_Z} {L : Nat} {m : j_M0} {x1 : Int} {x2 : Int} {x3 : Int} {x4 : Int} {x5 : Int} : j_fin C 218 68 [some (jR 109), some (jI x1), some (jI x2), some (jI x3), some (jI x4), some (jI x5)] [] (hH L m) = if 0 < x5 then if 0 ≤ (w32 (x5 - 1)) ∧ (w32 (x5 - 1)) < 21 then if x4 < (m 143 (w32 (x5 - 1)).toNat) then if 0 ≤ (w32 (x5 - 1)) ∧ (w32 (x5 - 1)) < 21 then if 0 ≤ x5 ∧ x5 < 21 then if 0 ≤ (w32 (x5 - 1)) ∧ (w32 (x5 - 1)) < 21 then if 0 ≤ x5 ∧ x5 < 21 then j_fin C 218 68 [some (jR 109), some (jI x1), some (jI x2), some (jI x3), some (jI x4), some (jI (w32 (x5 + (-1))))] [] (hH L (j_up (j_up m 142 x5.toNat (m 142 (w32 (x5 - 1)).toNat)) 143 x5.toNat ((j_up m 142 x5.toNat (m 142 (w32 (x5 - 1)).toNat)) 143 (w32 (x5 - 1)).toNat))) else none else none else none else none else if 0 ≤ x5 ∧ x5 < 21 then if 0 ≤ x5 ∧ x5 < 21 then (C 268 [jI (w32 (x2 + 1)), jI (w32 (x1 + 1))] (hH L (j_up (j_up m 142 x5.toNat x3) 143 x5.toNat x4))).bind fun z => j_fin C 218 151 [some (jR 109), some (jI x1), some (jI x2), some (jI x3), some (jI x4), some (jI x5)] (z.1.toList ++ []) z.2 else none else none else none else if 0 ≤ x5 ∧ x5 < 21 then if 0 ≤ x5 ∧ x5 < 21 then (C 268 [jI (w32 (x2 + 1)), jI (w32 (x1 + 1))] (hH L (j_up (j_up m 142 x5.toNat x3) 143 x5.toNat x4))).bind fun z => j_fin C 218 151 [some (jR 109), some (jI x1), some (jI x2), some (jI x3), some (jI x4), some (jI x5)] (z.1.toList ++ []) z.2 else none else none := by
  refine (S_iload rfl at_218_68).trans ?_
  refine (S_if_le at_218_70).trans ?_
  refine ite_congr rfl (fun _ => ?_) (fun _ => ?_)
  · refine (S_aload_n rfl at_218_73).trans ?_
    refine (S_getR (ka_109 L _) rfl (f_109_13 L _) at_218_74).trans ?_
    refine (S_iload rfl at_218_77).trans ?_
    refine (S_iconst at_218_79).trans ?_
    refine (S_isub at_218_80).trans ?_
    refine (H_iaload (ka_143 L _) at_218_81).trans ?_
    refine ite_congr rfl (fun hi => ?_) (fun _ => rfl)
    refine (S_iload rfl at_218_82).trans ?_
    refine (S_icmp_le at_218_84).trans ?_
    refine ite_congr rfl (fun _ => ?_) (fun _ => ?_)
    · refine (S_aload_n rfl at_218_87).trans ?_
      refine (S_getR (ka_109 L _) rfl (f_109_12 L _) at_218_88).trans ?_
      refine (S_iload rfl at_218_91).trans ?_
      refine (S_aload_n rfl at_218_93).trans ?_
      refine (S_getR (ka_109 L _) rfl (f_109_12 L _) at_218_94).trans ?_
      refine (S_iload rfl at_218_97).trans ?_
      refine (S_iconst at_218_99).trans ?_
      refine (S_isub at_218_100).trans ?_
      refine (H_iaload (ka_142 L _) at_218_101).trans ?_
      refine ite_congr rfl (fun hi => ?_) (fun _ => rfl)
      refine (H_iastore (by omega) (ka_142 L _) at_218_102).trans ?_
      refine ite_congr rfl (fun hi => ?_) (fun _ => rfl)
      refine (S_aload_n rfl at_218_103).trans ?_
      refine (S_getR (ka_109 L _) rfl (f_109_13 L _) at_218_104).trans ?_
      refine (S_iload rfl at_218_107).trans ?_
      refine (S_aload_n rfl at_218_109).trans ?_
      refine (S_getR (ka_109 L _) rfl (f_109_13 L _) at_218_110).trans ?_
      refine (S_iload rfl at_218_113).trans ?_
      refine (S_iconst at_218_115).trans ?_
      refine (S_isub at_218_116).trans ?_
      refine (H_iaload (ka_143 L _) at_218_117).trans ?_
      refine ite_congr rfl (fun hi => ?_) (fun _ => rfl)
      refine (H_iastore (by omega) (ka_143 L _) at_218_118).trans ?_
      refine ite_congr rfl (fun hi => ?_) (fun _ => rfl)
      refine (S_iinc (l1 := [some (jR 109), some (jI x1), some (jI x2), some (jI x3), some (jI x4), some (jI (w32 (x5 + (-1))))]) rfl rfl at_218_119).trans ?_
      refine (S_goto at_218_122).trans ?_
      rfl
    · refine (S_aload_n rfl at_218_125).trans ?_
      refine (S_getR (ka_109 L _) rfl (f_109_12 L _) at_218_126).trans ?_
      refine (S_iload rfl at_218_129).trans ?_
      refine (S_iload_n rfl at_218_131).trans ?_
      refine (H_iastore (by omega) (ka_142 L _) at_218_132).trans ?_
      refine ite_congr rfl (fun hi => ?_) (fun _ => rfl)
      refine (S_aload_n rfl at_218_133).trans ?_
      refine (S_getR (ka_109 L _) rfl (f_109_13 L _) at_218_134).trans ?_
      refine (S_iload rfl at_218_137).trans ?_
      refine (S_iload rfl at_218_139).trans ?_
      refine (H_iastore (by omega) (ka_143 L _) at_218_141).trans ?_
      refine ite_congr rfl (fun hi => ?_) (fun _ => rfl)
      refine (S_iload_n rfl at_218_142).trans ?_
      refine (S_iconst at_218_143).trans ?_
      refine (S_iadd at_218_144).trans ?_
      refine (S_iload_n rfl at_218_145).trans ?_
      refine (S_iconst at_218_146).trans ?_
      refine (S_iadd at_218_147).trans ?_
      refine (S_invs (by decide) (Nat.le_of_ble_eq_true rfl) (Nat.le_of_ble_eq_true rfl) at_218_148).trans ?_
      rfl
  · refine (S_aload_n rfl at_218_125).trans ?_
    refine (S_getR (ka_109 L _) rfl (f_109_12 L _) at_218_126).trans ?_
    refine (S_iload rfl at_218_129).trans ?_
    refine (S_iload_n rfl at_218_131).trans ?_
    refine (H_iastore (by omega) (ka_142 L _) at_218_132).trans ?_
    refine ite_congr rfl (fun hi => ?_) (fun _ => rfl)
    refine (S_aload_n rfl at_218_133).trans ?_
    refine (S_getR (ka_109 L _) rfl (f_109_13 L _) at_218_134).trans ?_
    refine (S_iload rfl at_218_137).trans ?_
    refine (S_iload rfl at_218_139).trans ?_
    refine (H_iastore (by omega) (ka_143 L _) at_218_141).trans ?_
    refine ite_congr rfl (fun hi => ?_) (fun _ => rfl)
    refine (S_iload_n rfl at_218_142).trans ?_
    refine (S_iconst at_218_143).trans ?_
    refine (S_iadd at_218_144).trans ?_
    refine (S_iload_n rfl at_218_145).trans ?_
    refine (S_iconst at_218_146).trans ?_
    refine (S_iadd at_218_147).trans ?_
    refine (S_invs (by decide) (Nat.le_of_ble_eq_true rfl) (Nat.le_of_ble_eq_true rfl) at_218_148).trans ?_
    rfl
theorem T218_151 {C : Nat → List j_V → j_H → Option j_Z} {L : Nat} {m : j_M0} {x1 : Int} {x2 : Int} {x3 : Int} {x4 : Int} {x5 : Int} {s0 : Int} : j_fin C 218 151 [some (jR 109), some (jI x1), some (jI x2), some (jI x3), some (jI x4), some (jI x5)] [jI s0] (hH L m) = (C 216 [jR 109, jI x3] (hH L m)).bind fun z => j_fin C 218 157 [some (jR 109), some (jI x1), some (jI s0), some (jI x3), some (jI x4), some (jI x5)] (z.1.toList ++ []) z.2 := by
  refine (S_istore_n (l1 := [some (jR 109), some (jI x1), some (jI s0), some (jI x3), some (jI x4), some (jI x5)]) rfl at_218_151).trans ?_
  refine (S_aload_n rfl at_218_152).trans ?_
  refine (S_iload_n rfl at_218_153).trans ?_
  refine (S_invv (b := 1) kn_216 rfl (ka_109 L _) (Nat.le_of_ble_eq_true rfl) at_218_154).trans ?_
  rfl
theorem T218_157 {C : Nat → List j_V → j_H → Option j_Z} {L : Nat} {m : j_M0} {x1 : Int} {x2 : Int} {x3 : Int} {x4 : Int} {o5 : Option j_V} {s0 : Int} : j_fin C 218 157 [some (jR 109), some (jI x1), some (jI x2), some (jI x3), some (jI x4), o5] [jI s0] (hH L m) = j_fin C 218 19 [some (jR 109), some (jI x1), some (jI x2), some (jI s0), some (jI x4), o5] [] (hH L m) := by
  refine (S_istore_n (l1 := [some (jR 109), some (jI x1), some (jI x2), some (jI s0), some (jI x4), o5]) rfl at_218_157).trans ?_
  refine (S_goto at_218_158).trans ?_
  rfl
theorem T219_0 {C : Nat → List j_V → j_H → Option j_Z} {L : Nat} {m : j_M0} {x1 : Int} : j_fin C 219 0 [some (jR 109), some (jI x1), none, none] [] (hH L m) = (C 150 [jL x1, jL 0, jL 1] (hH L m)).bind fun z => j_fin C 219 7 [some (jR 109), some (jI x1), none, none] (z.1.toList ++ []) z.2 := by
  refine (S_iload_n rfl at_219_0).trans ?_
  refine (S_i2l at_219_1).trans ?_
  refine (S_lconst at_219_2).trans ?_
  refine (S_lconst at_219_3).trans ?_
  refine (S_invs (by decide) (Nat.le_of_ble_eq_true rfl) (Nat.le_of_ble_eq_true rfl) at_219_4).trans ?_
  rfl
theorem T219_7 {C : Nat → List j_V → j_H → Option j_Z} {L : Nat} {m : j_M0} {x1 : Int} {s0 : Int} : j_fin C 219 7 [some (jR 109), some (jI x1), none, none] [jI s0] (hH L m) = if s0 = 0 then some (some (jI (-1)), hH L m) else j_fin C 219 16 [some (jR 109), some (jI x1), some (jI 0), some (jI 0)] [] (hH L m) := by
  refine (S_if_ne at_219_7).trans ?_
  refine ite_congr rfl (fun _ => ?_) (fun _ => ?_)
  · refine (S_iconst at_219_10).trans ?_
    exact S_ireti rfl at_219_11
  · refine (S_iconst at_219_12).trans ?_
    refine (S_istore_n (l1 := [some (jR 109), some (jI x1), some (jI 0), none]) rfl at_219_13).trans ?_
    refine (S_iconst at_219_14).trans ?_
    refine (S_istore_n (l1 := [some (jR 109), some (jI x1), some (jI 0), some (jI 0)]) rfl at_219_15).trans ?_
    rfl
theorem T219_16 {C : Nat → List j_V → j_H → Option j_Z} {L : Nat} {m : j_M0} {x1 : Int} {x2 : Int} {x3 : Int} : j_fin C 219 16 [some (jR 109), some (jI x1), some (jI x2), some (jI x3)] [] (hH L m) = if x3 < 0 then some (some (jI x2), hH L m) else (C 212 [jR 109, jI x3] (hH L m)).bind fun z => j_fin C 219 25 [some (jR 109), some (jI x1), some (jI x2), some (jI x3)] (z.1.toList ++ []) z.2 := by
  refine (S_iload_n rfl at_219_16).trans ?_
  refine (S_if_lt at_219_17).trans ?_
  refine ite_congr rfl (fun _ => ?_) (fun _ => ?_)
  · refine (S_iload_n rfl at_219_50).trans ?_
    exact S_ireti rfl at_219_51
  · refine (S_aload_n rfl at_219_20).trans ?_
    refine (S_iload_n rfl at_219_21).trans ?_
    refine (S_invv (b := 1) kn_212 rfl (ka_109 L _) (Nat.le_of_ble_eq_true rfl) at_219_22).trans ?_
    rfl
theorem T219_25 {C : Nat → List j_V → j_H → Option j_Z} {L : Nat} {m : j_M0} {x1 : Int} {x2 : Int} {x3 : Int} : j_fin C 219 25 [some (jR 109), some (jI x1), some (jI x2), some (jI x3)] [] (hH L m) = (C 215 [jR 109] (hH L m)).bind fun z => j_fin C 219 30 [some (jR 109), some (jI x1), some (jI x2), some (jI x3)] (z.1.toList ++ [jI x2]) z.2 := by
  refine (S_iload_n rfl at_219_25).trans ?_
  refine (S_aload_n rfl at_219_26).trans ?_
  refine (S_invv (b := 0) kn_215 rfl (ka_109 L _) (Nat.le_of_ble_eq_true rfl) at_219_27).trans ?_
  rfl
theorem T219_30 {C : Nat → List j_V → j_H → Option j_Z} {L : Nat} {m : j_M0} {x1 : Int} {x2 : Int} {x3 : Int} {s0 : Int} {s1 : Int} : j_fin C 219 30 [some (jR 109), some (jI x1), some (jI x2), some (jI x3)] [jI s1, jI s0] (hH L m) = if s1 = x1 then (C 216 [jR 109, jI x3] (hH L m)).bind fun z => j_fin C 219 46 [some (jR 109), some (jI x1), some (jI (w32 (s0 + 1))), some (jI x3)] (z.1.toList ++ []) z.2 else (C 216 [jR 109, jI x3] (hH L m)).bind fun z => j_fin C 219 46 [some (jR 109), some (jI x1), some (jI (w32 (s0 + 0))), some (jI x3)] (z.1.toList ++ []) z.2 := by
  refine (S_iload_n rfl at_219_30).trans ?_
  refine (S_icmp_ne at_219_31).trans ?_
  refine ite_congr rfl (fun _ => ?_) (fun _ => ?_)
  · refine (S_iconst at_219_34).trans ?_
    refine (S_goto at_219_35).trans ?_
    refine (S_iadd at_219_39).trans ?_
    refine (S_istore_n (l1 := [some (jR 109), some (jI x1), some (jI (w32 (s0 + 1))), some (jI x3)]) rfl at_219_40).trans ?_
    refine (S_aload_n rfl at_219_41).trans ?_
    refine (S_iload_n rfl at_219_42).trans ?_
    refine (S_invv (b := 1) kn_216 rfl (ka_109 L _) (Nat.le_of_ble_eq_true rfl) at_219_43).trans ?_
    rfl
  · refine (S_iconst at_219_38).trans ?_
    refine (S_iadd at_219_39).trans ?_
    refine (S_istore_n (l1 := [some (jR 109), some (jI x1), some (jI (w32 (s0 + 0))), some (jI x3)]) rfl at_219_40).trans ?_
    refine (S_aload_n rfl at_219_41).trans ?_
    refine (S_iload_n rfl at_219_42).trans ?_
    refine (S_invv (b := 1) kn_216 rfl (ka_109 L _) (Nat.le_of_ble_eq_true rfl) at_219_43).trans ?_
    rfl
theorem T219_46 {C : Nat → List j_V → j_H → Option j_Z} {L : Nat} {m : j_M0} {x1 : Int} {x2 : Int} {x3 : Int} {s0 : Int} : j_fin C 219 46 [some (jR 109), some (jI x1), some (jI x2), some (jI x3)] [jI s0] (hH L m) = j_fin C 219 16 [some (jR 109), some (jI x1), some (jI x2), some (jI s0)] [] (hH L m) := by
  refine (S_istore_n (l1 := [some (jR 109), some (jI x1), some (jI x2), some (jI s0)]) rfl at_219_46).trans ?_
  refine (S_goto at_219_47).trans ?_
  rfl
theorem T220_0 {C : Nat → List j_V → j_H → Option j_Z} {L : Nat} {m : j_M0} {x1 : Int} : j_fin C 220 0 [some (jR 109), some (jI x1), none] [] (hH L m) = (C 211 [jR 109, jI x1] (hH L m)).bind fun z => j_fin C 220 5 [some (jR 109), some (jI x1), none] (z.1.toList ++ []) z.2 := by
  refine (S_aload_n rfl at_220_0).trans ?_
  refine (S_iload_n rfl at_220_1).trans ?_
  refine (S_invv (b := 1) kn_211 rfl (ka_109 L _) (Nat.le_of_ble_eq_true rfl) at_220_2).trans ?_
  rfl
theorem T220_5 {C : Nat → List j_V → j_H → Option j_Z} {L : Nat} {m : j_M0} {x1 : Int} {s0 : Int} : j_fin C 220 5 [some (jR 109), some (jI x1), none] [jI s0] (hH L m) = if s0 = 0 then some (some (jI (-2)), hH L m) else (C 212 [jR 109, jI x1] (hH L m)).bind fun z => j_fin C 220 16 [some (jR 109), some (jI x1), none] (z.1.toList ++ []) z.2 := by
  refine (S_if_ne at_220_5).trans ?_
  refine ite_congr rfl (fun _ => ?_) (fun _ => ?_)
  · refine (S_bipush at_220_8).trans ?_
    exact S_ireti rfl at_220_10
  · refine (S_aload_n rfl at_220_11).trans ?_
    refine (S_iload_n rfl at_220_12).trans ?_
    refine (S_invv (b := 1) kn_212 rfl (ka_109 L _) (Nat.le_of_ble_eq_true rfl) at_220_13).trans ?_
    rfl
theorem T220_16 {C : Nat → List j_V → j_H → Option j_Z} {L : Nat} {m : j_M0} {x1 : Int} : j_fin C 220 16 [some (jR 109), some (jI x1), none] [] (hH L m) = j_fin C 220 18 [some (jR 109), some (jI x1), some (jI 0)] [] (hH L m) := by
  refine (S_iconst at_220_16).trans ?_
  refine (S_istore_n (l1 := [some (jR 109), some (jI x1), some (jI 0)]) rfl at_220_17).trans ?_
  rfl
theorem T220_18 {C : Nat → List j_V → j_H → Option j_Z} {L : Nat} {m : j_M0} {x1 : Int} {x2 : Int} : j_fin C 220 18 [some (jR 109), some (jI x1), some (jI x2)] [] (hH L m) = if x2 < (m 110 1) then (C 214 [jR 109, jI x2] (hH L m)).bind fun z => j_fin C 220 33 [some (jR 109), some (jI x1), some (jI x2)] (z.1.toList ++ []) z.2 else some (some (jI (-5)), hH L m) := by
  refine (S_iload_n rfl at_220_18).trans ?_
  refine (S_aload_n rfl at_220_19).trans ?_
  refine (S_getR (ka_109 L _) rfl (f_109_0 L _) at_220_20).trans ?_
  refine (S_iconst at_220_23).trans ?_
  refine (H_iaload (ka_110 L _) at_220_24).trans ?_
  refine (if_pos (by decide)).trans ?_
  refine (S_icmp_ge at_220_25).trans ?_
  refine ite_congr rfl (fun _ => ?_) (fun _ => ?_)
  · refine (S_aload_n rfl at_220_28).trans ?_
    refine (S_iload_n rfl at_220_29).trans ?_
    refine (S_invv (b := 1) kn_214 rfl (ka_109 L _) (Nat.le_of_ble_eq_true rfl) at_220_30).trans ?_
    rfl
  · refine (S_bipush at_220_44).trans ?_
    exact S_ireti rfl at_220_46
theorem T220_33 {C : Nat → List j_V → j_H → Option j_Z} {L : Nat} {m : j_M0} {x1 : Int} {x2 : Int} {s0 : Int} : j_fin C 220 33 [some (jR 109), some (jI x1), some (jI x2)] [jI s0] (hH L m) = if s0 = 0 then j_fin C 220 18 [some (jR 109), some (jI x1), some (jI (w32 (x2 + 1)))] [] (hH L m) else some (some (jI x2), hH L m) := by
  refine (S_if_eq at_220_33).trans ?_
  refine ite_congr rfl (fun _ => ?_) (fun _ => ?_)
  · refine (S_iinc (l1 := [some (jR 109), some (jI x1), some (jI (w32 (x2 + 1)))]) rfl rfl at_220_38).trans ?_
    refine (S_goto at_220_41).trans ?_
    rfl
  · refine (S_iload_n rfl at_220_36).trans ?_
    exact S_ireti rfl at_220_37
theorem T221_0 {C : Nat → List j_V → j_H → Option j_Z} {L : Nat} {m : j_M0} {x1 : Int} : j_fin C 221 0 [some (jR 109), some (jI x1), none, none, none] [] (hH L m) = j_fin C 221 5 [some (jR 109), some (jI x1), some (jL 0), none, some (jI 0)] [] (hH L m) := by
  refine (S_lconst at_221_0).trans ?_
  refine (S_lstore_n (l1 := [some (jR 109), some (jI x1), some (jL 0), none, none]) rfl at_221_1).trans ?_
  refine (S_iconst at_221_2).trans ?_
  refine (S_istore (l1 := [some (jR 109), some (jI x1), some (jL 0), none, some (jI 0)]) rfl at_221_3).trans ?_
  rfl
theorem T221_5 {C : Nat → List j_V → j_H → Option j_Z} {L : Nat} {m : j_M0} {x1 : Int} {y2 : Int} {x4 : Int} : j_fin C 221 5 [some (jR 109), some (jI x1), some (jL y2), none, some (jI x4)] [] (hH L m) = (C 151 [jR 109] (hH L m)).bind fun z => j_fin C 221 11 [some (jR 109), some (jI x1), some (jL y2), none, some (jI x4)] (z.1.toList ++ [jI x4]) z.2 := by
  refine (S_iload rfl at_221_5).trans ?_
  refine (S_aload_n rfl at_221_7).trans ?_
  refine (S_invv (b := 0) kn_151 rfl (ka_109 L _) (Nat.le_of_ble_eq_true rfl) at_221_8).trans ?_
  rfl
theorem T221_11 {C : Nat → List j_V → j_H → Option j_Z} {L : Nat} {m : j_M0} {x1 : Int} {y2 : Int} {x4 : Int} {s0 : Int} {s1 : Int} : j_fin C 221 11 [some (jR 109), some (jI x1), some (jL y2), none, some (jI x4)] [jI s1, jI s0] (hH L m) = if s0 < s1 then if x1 < 0 then (C 208 [jR 109, jI x4] (hH L m)).bind fun z => j_fin C 221 25 [some (jR 109), some (jI x1), some (jL y2), none, some (jI x4)] (z.1.toList ++ [jL y2]) z.2 else (C 202 [jR 109, jI x1, jI x4] (hH L m)).bind fun z => j_fin C 221 35 [some (jR 109), some (jI x1), some (jL y2), none, some (jI x4)] (z.1.toList ++ [jL y2]) z.2 else if x1 < 0 then (C 151 [jR 109] (hH L m)).bind fun z => j_fin C 221 62 [some (jR 109), some (jI x1), some (jL y2), none, some (jI x4)] (z.1.toList ++ [jR 109, jL y2]) z.2 else (C 151 [jR 109] (hH L m)).bind fun z => j_fin C 221 74 [some (jR 109), some (jI x1), some (jL y2), none, some (jI x4)] (z.1.toList ++ [jI x1, jR 109, jL y2]) z.2 := by
  refine (S_icmp_ge at_221_11).trans ?_
  refine ite_congr rfl (fun _ => ?_) (fun _ => ?_)
  · refine (S_lload_n rfl at_221_14).trans ?_
    refine (S_iload_n rfl at_221_15).trans ?_
    refine (S_if_ge at_221_16).trans ?_
    refine ite_congr rfl (fun _ => ?_) (fun _ => ?_)
    · refine (S_aload_n rfl at_221_19).trans ?_
      refine (S_iload rfl at_221_20).trans ?_
      refine (S_invv (b := 1) kn_208 rfl (ka_109 L _) (Nat.le_of_ble_eq_true rfl) at_221_22).trans ?_
      rfl
    · refine (S_aload_n rfl at_221_28).trans ?_
      refine (S_iload_n rfl at_221_29).trans ?_
      refine (S_iload rfl at_221_30).trans ?_
      refine (S_invv (b := 2) kn_202 rfl (ka_109 L _) (Nat.le_of_ble_eq_true rfl) at_221_32).trans ?_
      rfl
  · refine (S_lload_n rfl at_221_52).trans ?_
    refine (S_iload_n rfl at_221_53).trans ?_
    refine (S_if_ge at_221_54).trans ?_
    refine ite_congr rfl (fun _ => ?_) (fun _ => ?_)
    · refine (S_aload_n rfl at_221_57).trans ?_
      refine (S_aload_n rfl at_221_58).trans ?_
      refine (S_invv (b := 0) kn_151 rfl (ka_109 L _) (Nat.le_of_ble_eq_true rfl) at_221_59).trans ?_
      rfl
    · refine (S_aload_n rfl at_221_68).trans ?_
      refine (S_iload_n rfl at_221_69).trans ?_
      refine (S_aload_n rfl at_221_70).trans ?_
      refine (S_invv (b := 0) kn_151 rfl (ka_109 L _) (Nat.le_of_ble_eq_true rfl) at_221_71).trans ?_
      rfl
theorem T221_25 {C : Nat → List j_V → j_H → Option j_Z} {L : Nat} {m : j_M0} {x1 : Int} {y2 : Int} {x4 : Int} {t0 : Int} {t1 : Int} : j_fin C 221 25 [some (jR 109), some (jI x1), some (jL y2), none, some (jI x4)] [jL t1, jL t0] (hH L m) = j_fin C 221 35 [some (jR 109), some (jI x1), some (jL y2), none, some (jI x4)] [jL t1, jL t0] (hH L m) := by
  refine (S_goto at_221_25).trans ?_
  rfl
theorem T221_35 {C : Nat → List j_V → j_H → Option j_Z} {L : Nat} {m : j_M0} {x1 : Int} {y2 : Int} {x4 : Int} {t0 : Int} {t1 : Int} : j_fin C 221 35 [some (jR 109), some (jI x1), some (jL y2), none, some (jI x4)] [jL t1, jL t0] (hH L m) = if 0 ≤ x4 ∧ x4 < 5 then j_fin C 221 5 [some (jR 109), some (jI x1), some (jL (w64 (t0 + (w64 (t1 * (m 141 x4.toNat)))))), none, some (jI (w32 (x4 + 1)))] [] (hH L m) else none := by
  refine (S_aload_n rfl at_221_35).trans ?_
  refine (S_getR (ka_109 L _) rfl (f_109_11 L _) at_221_36).trans ?_
  refine (S_iload rfl at_221_39).trans ?_
  refine (H_iaload (ka_141 L _) at_221_41).trans ?_
  refine ite_congr rfl (fun hi => ?_) (fun _ => rfl)
  refine (S_i2l at_221_42).trans ?_
  refine (S_lmul at_221_43).trans ?_
  refine (S_ladd at_221_44).trans ?_
  refine (S_lstore_n (l1 := [some (jR 109), some (jI x1), some (jL (w64 (t0 + (w64 (t1 * (m 141 x4.toNat)))))), none, some (jI x4)]) rfl at_221_45).trans ?_
  refine (S_iinc (l1 := [some (jR 109), some (jI x1), some (jL (w64 (t0 + (w64 (t1 * (m 141 x4.toNat)))))), none, some (jI (w32 (x4 + 1)))]) rfl rfl at_221_46).trans ?_
  refine (S_goto at_221_49).trans ?_
  rfl
theorem T221_62 {C : Nat → List j_V → j_H → Option j_Z} {L : Nat} {m : j_M0} {x1 : Int} {y2 : Int} {x4 : Int} {t0 : Int} {s2 : Int} : j_fin C 221 62 [some (jR 109), some (jI x1), some (jL y2), none, some (jI x4)] [jI s2, jR 109, jL t0] (hH L m) = (C 208 [jR 109, jI s2] (hH L m)).bind fun z => j_fin C 221 65 [some (jR 109), some (jI x1), some (jL y2), none, some (jI x4)] (z.1.toList ++ [jL t0]) z.2 := by
  refine (S_invv (b := 1) kn_208 rfl (ka_109 L _) (Nat.le_of_ble_eq_true rfl) at_221_62).trans ?_
  rfl
theorem T221_65 {C : Nat → List j_V → j_H → Option j_Z} {L : Nat} {m : j_M0} {x1 : Int} {y2 : Int} {x4 : Int} {t0 : Int} {t1 : Int} : j_fin C 221 65 [some (jR 109), some (jI x1), some (jL y2), none, some (jI x4)] [jL t1, jL t0] (hH L m) = j_fin C 221 77 [some (jR 109), some (jI x1), some (jL y2), none, some (jI x4)] [jL t1, jL t0] (hH L m) := by
  refine (S_goto at_221_65).trans ?_
  rfl
theorem T221_74 {C : Nat → List j_V → j_H → Option j_Z} {L : Nat} {m : j_M0} {x1 : Int} {y2 : Int} {x4 : Int} {t0 : Int} {s2 : Int} {s3 : Int} : j_fin C 221 74 [some (jR 109), some (jI x1), some (jL y2), none, some (jI x4)] [jI s3, jI s2, jR 109, jL t0] (hH L m) = (C 202 [jR 109, jI s2, jI s3] (hH L m)).bind fun z => j_fin C 221 77 [some (jR 109), some (jI x1), some (jL y2), none, some (jI x4)] (z.1.toList ++ [jL t0]) z.2 := by
  refine (S_invv (b := 2) kn_202 rfl (ka_109 L _) (Nat.le_of_ble_eq_true rfl) at_221_74).trans ?_
  rfl
theorem T221_77 {C : Nat → List j_V → j_H → Option j_Z} {L : Nat} {m : j_M0} {x1 : Int} {y2 : Int} {x4 : Int} {t0 : Int} {t1 : Int} : j_fin C 221 77 [some (jR 109), some (jI x1), some (jL y2), none, some (jI x4)] [jL t1, jL t0] (hH L m) = if 0 < (j_cmp t0 t1) then some (some (jI 1), hH L m) else some (some (jI 0), hH L m) := by
  refine (S_lcmp at_221_77).trans ?_
  refine (S_if_le at_221_78).trans ?_
  refine ite_congr rfl (fun _ => ?_) (fun _ => ?_)
  · refine (S_iconst at_221_81).trans ?_
    refine (S_goto at_221_82).trans ?_
    exact (S_iretz rfl at_221_86).trans (if_pos (by decide))
  · refine (S_iconst at_221_85).trans ?_
    exact (S_iretz rfl at_221_86).trans (if_pos (by decide))
theorem T222_0 {C : Nat → List j_V → j_H → Option j_Z} {L : Nat} {m : j_M0} {x1 : Int} : j_fin C 222 0 [some (jR 109), some (jI x1), none] [] (hH L m) = if x1 = (-1) then j_fin C 222 17 [some (jR 109), some (jI x1), some (jI 0)] [] (hH L m) else (C 201 [jR 109, jI x1] (hH L m)).bind fun z => j_fin C 222 10 [some (jR 109), some (jI x1), none] (z.1.toList ++ []) z.2 := by
  refine (S_iload_n rfl at_222_0).trans ?_
  refine (S_iconst at_222_1).trans ?_
  refine (S_icmp_eq at_222_2).trans ?_
  refine ite_congr rfl (fun _ => ?_) (fun _ => ?_)
  · refine (S_iconst at_222_15).trans ?_
    refine (S_istore_n (l1 := [some (jR 109), some (jI x1), some (jI 0)]) rfl at_222_16).trans ?_
    rfl
  · refine (S_aload_n rfl at_222_5).trans ?_
    refine (S_iload_n rfl at_222_6).trans ?_
    refine (S_invv (b := 1) kn_201 rfl (ka_109 L _) (Nat.le_of_ble_eq_true rfl) at_222_7).trans ?_
    rfl
theorem T222_10 {C : Nat → List j_V → j_H → Option j_Z} {L : Nat} {m : j_M0} {x1 : Int} {s0 : Int} : j_fin C 222 10 [some (jR 109), some (jI x1), none] [jI s0] (hH L m) = if s0 = 0 then some (some (jI (-1)), hH L m) else j_fin C 222 17 [some (jR 109), some (jI x1), some (jI 0)] [] (hH L m) := by
  refine (S_if_ne at_222_10).trans ?_
  refine ite_congr rfl (fun _ => ?_) (fun _ => ?_)
  · refine (S_iconst at_222_13).trans ?_
    exact S_ireti rfl at_222_14
  · refine (S_iconst at_222_15).trans ?_
    refine (S_istore_n (l1 := [some (jR 109), some (jI x1), some (jI 0)]) rfl at_222_16).trans ?_
    rfl
theorem T222_17 {C : Nat → List j_V → j_H → Option j_Z} {L : Nat} {m : j_M0} {x1 : Int} {x2 : Int} : j_fin C 222 17 [some (jR 109), some (jI x1), some (jI x2)] [] (hH L m) = if x2 < 0 then some (some (jI (-5)), hH L m) else (C 212 [jR 109, jI x2] (hH L m)).bind fun z => j_fin C 222 26 [some (jR 109), some (jI x1), some (jI x2)] (z.1.toList ++ []) z.2 := by
  refine (S_iload_n rfl at_222_17).trans ?_
  refine (S_if_lt at_222_18).trans ?_
  refine ite_congr rfl (fun _ => ?_) (fun _ => ?_)
  · refine (S_bipush at_222_52).trans ?_
    exact S_ireti rfl at_222_54
  · refine (S_aload_n rfl at_222_21).trans ?_
    refine (S_iload_n rfl at_222_22).trans ?_
    refine (S_invv (b := 1) kn_212 rfl (ka_109 L _) (Nat.le_of_ble_eq_true rfl) at_222_23).trans ?_
    rfl
theorem T222_26 {C : Nat → List j_V → j_H → Option j_Z} {L : Nat} {m : j_M0} {x1 : Int} {x2 : Int} : j_fin C 222 26 [some (jR 109), some (jI x1), some (jI x2)] [] (hH L m) = (C 221 [jR 109, jI x1] (hH L m)).bind fun z => j_fin C 222 31 [some (jR 109), some (jI x1), some (jI x2)] (z.1.toList ++ []) z.2 := by
  refine (S_aload_n rfl at_222_26).trans ?_
  refine (S_iload_n rfl at_222_27).trans ?_
  refine (S_invv (b := 1) kn_221 rfl (ka_109 L _) (Nat.le_of_ble_eq_true rfl) at_222_28).trans ?_
  rfl
theorem T222_31 {C : Nat → List j_V → j_H → Option j_Z} {L : Nat} {m : j_M0} {x1 : Int} {x2 : Int} {s0 : Int} : j_fin C 222 31 [some (jR 109), some (jI x1), some (jI x2)] [jI s0] (hH L m) = if s0 = 0 then (C 216 [jR 109, jI x2] (hH L m)).bind fun z => j_fin C 222 48 [some (jR 109), some (jI x1), some (jI x2)] (z.1.toList ++ []) z.2 else (C 215 [jR 109] (hH L m)).bind fun z => j_fin C 222 38 [some (jR 109), some (jI x1), some (jI x2)] (z.1.toList ++ []) z.2 := by
  refine (S_if_eq at_222_31).trans ?_
  refine ite_congr rfl (fun _ => ?_) (fun _ => ?_)
  · refine (S_aload_n rfl at_222_43).trans ?_
    refine (S_iload_n rfl at_222_44).trans ?_
    refine (S_invv (b := 1) kn_216 rfl (ka_109 L _) (Nat.le_of_ble_eq_true rfl) at_222_45).trans ?_
    rfl
  · refine (S_aload_n rfl at_222_34).trans ?_
    refine (S_invv (b := 0) kn_215 rfl (ka_109 L _) (Nat.le_of_ble_eq_true rfl) at_222_35).trans ?_
    rfl
theorem T222_38 {C : Nat → List j_V → j_H → Option j_Z} {L : Nat} {m : j_M0} {x1 : Int} {x2 : Int} {s0 : Int} : j_fin C 222 38 [some (jR 109), some (jI x1), some (jI x2)] [jI s0] (hH L m) = if s0 = 0 then some (some (jI x2), hH L m) else (C 216 [jR 109, jI x2] (hH L m)).bind fun z => j_fin C 222 48 [some (jR 109), some (jI x1), some (jI x2)] (z.1.toList ++ []) z.2 := by
  refine (S_if_ne at_222_38).trans ?_
  refine ite_congr rfl (fun _ => ?_) (fun _ => ?_)
  · refine (S_iload_n rfl at_222_41).trans ?_
    exact S_ireti rfl at_222_42
  · refine (S_aload_n rfl at_222_43).trans ?_
    refine (S_iload_n rfl at_222_44).trans ?_
    refine (S_invv (b := 1) kn_216 rfl (ka_109 L _) (Nat.le_of_ble_eq_true rfl) at_222_45).trans ?_
    rfl
theorem T222_48 {C : Nat → List j_V → j_H → Option j_Z} {L : Nat} {m : j_M0} {x1 : Int} {x2 : Int} {s0 : Int} : j_fin C 222 48 [some (jR 109), some (jI x1), some (jI x2)] [jI s0] (hH L m) = j_fin C 222 17 [some (jR 109), some (jI x1), some (jI s0)] [] (hH L m) := by
  refine (S_istore_n (l1 := [some (jR 109), some (jI x1), some (jI s0)]) rfl at_222_48).trans ?_
  refine (S_goto at_222_49).trans ?_
  rfl
theorem T223_0 {C : Nat → List j_V → j_H → Option j_Z} {L : Nat} {m : j_M0} {x1 : Int} {x2 : Int} {x3 : Int} {x4 : Int} : j_fin C 223 0 [some (jR 109), some (jI x1), some (jI x2), some (jI x3), some (jI x4), none, none] [] (hH L m) = if (m 109 21) = 40 then some (some (jI (-6)), hH L m) else j_fin C 223 31 [some (jR 109), some (jI x1), some (jI x2), some (jI x3), some (jI x4), some (jI (m 109 21)), some (jI 0)] [] (hH L (j_up m 109 21 (w32 ((m 109 21) + 1)))) := by
  refine (S_aload_n rfl at_223_0).trans ?_
  refine (H_get0 (ka_109 L _) rfl at_223_1).trans ?_
  refine (S_bipush at_223_4).trans ?_
  refine (S_icmp_ne at_223_6).trans ?_
  refine ite_congr rfl (fun _ => ?_) (fun _ => ?_)
  · refine (S_bipush at_223_9).trans ?_
    exact S_ireti rfl at_223_11
  · refine (S_aload_n rfl at_223_12).trans ?_
    refine (H_get0 (ka_109 L _) rfl at_223_13).trans ?_
    refine (S_istore (l1 := [some (jR 109), some (jI x1), some (jI x2), some (jI x3), some (jI x4), some (jI (m 109 21)), none]) rfl at_223_16).trans ?_
    refine (S_aload_n rfl at_223_18).trans ?_
    refine (S_dup rfl at_223_19).trans ?_
    refine (H_get0 (ka_109 L _) rfl at_223_20).trans ?_
    refine (S_iconst at_223_23).trans ?_
    refine (S_iadd at_223_24).trans ?_
    refine (H_put0 (ka_109 L _) rfl at_223_25).trans ?_
    refine (S_iconst at_223_28).trans ?_
    refine (S_istore (l1 := [some (jR 109), some (jI x1), some (jI x2), some (jI x3), some (jI x4), some (jI (m 109 21)), some (jI 0)]) rfl at_223_29).trans ?_
    rfl
theorem T223_31 {C : Nat → List j_V → j_H → Option j_Z} {L : Nat} {m : j_M0} {x1 : Int} {x2 : Int} {x3 : Int} {x4 : Int} {x5 : Int} {x6 : Int} : j_fin C 223 31 [some (jR 109), some (jI x1), some (jI x2), some (jI x3), some (jI x4), some (jI x5), some (jI x6)] [] (hH L m) = if x6 < 5 then if x1 < 0 then if 0 ≤ (w32 ((w32 (5 * x5)) + x6)) ∧ (w32 ((w32 (5 * x5)) + x6)) < 200 then if x1 < 0 then if 0 ≤ (w32 ((w32 (5 * x5)) + x6)) ∧ (w32 ((w32 (5 * x5)) + x6)) < 200 then j_fin C 223 31 [some (jR 109), some (jI x1), some (jI x2), some (jI x3), some (jI x4), some (jI x5), some (jI (w32 (x6 + 1)))] [] (hH L (j_up (j_up m 144 (w32 ((w32 (5 * x5)) + x6)).toNat 0) 145 (w32 ((w32 (5 * x5)) + x6)).toNat (-1))) else none else if 0 ≤ (w32 ((w32 (5 * x1)) + x6)) ∧ (w32 ((w32 (5 * x1)) + x6)) < 200 then if 0 ≤ (w32 ((w32 (5 * x5)) + x6)) ∧ (w32 ((w32 (5 * x5)) + x6)) < 200 then j_fin C 223 31 [some (jR 109), some (jI x1), some (jI x2), some (jI x3), some (jI x4), some (jI x5), some (jI (w32 (x6 + 1)))] [] (hH L (j_up (j_up m 144 (w32 ((w32 (5 * x5)) + x6)).toNat 0) 145 (w32 ((w32 (5 * x5)) + x6)).toNat ((j_up m 144 (w32 ((w32 (5 * x5)) + x6)).toNat 0) 145 (w32 ((w32 (5 * x1)) + x6)).toNat))) else none else none else none else if 0 ≤ (w32 ((w32 (5 * x1)) + x6)) ∧ (w32 ((w32 (5 * x1)) + x6)) < 200 then if 0 ≤ (w32 ((w32 (5 * x5)) + x6)) ∧ (w32 ((w32 (5 * x5)) + x6)) < 200 then if x1 < 0 then if 0 ≤ (w32 ((w32 (5 * x5)) + x6)) ∧ (w32 ((w32 (5 * x5)) + x6)) < 200 then j_fin C 223 31 [some (jR 109), some (jI x1), some (jI x2), some (jI x3), some (jI x4), some (jI x5), some (jI (w32 (x6 + 1)))] [] (hH L (j_up (j_up m 144 (w32 ((w32 (5 * x5)) + x6)).toNat (m 144 (w32 ((w32 (5 * x1)) + x6)).toNat)) 145 (w32 ((w32 (5 * x5)) + x6)).toNat (-1))) else none else if 0 ≤ (w32 ((w32 (5 * x1)) + x6)) ∧ (w32 ((w32 (5 * x1)) + x6)) < 200 then if 0 ≤ (w32 ((w32 (5 * x5)) + x6)) ∧ (w32 ((w32 (5 * x5)) + x6)) < 200 then j_fin C 223 31 [some (jR 109), some (jI x1), some (jI x2), some (jI x3), some (jI x4), some (jI x5), some (jI (w32 (x6 + 1)))] [] (hH L (j_up (j_up m 144 (w32 ((w32 (5 * x5)) + x6)).toNat (m 144 (w32 ((w32 (5 * x1)) + x6)).toNat)) 145 (w32 ((w32 (5 * x5)) + x6)).toNat ((j_up m 144 (w32 ((w32 (5 * x5)) + x6)).toNat (m 144 (w32 ((w32 (5 * x1)) + x6)).toNat)) 145 (w32 ((w32 (5 * x1)) + x6)).toNat))) else none else none else none else none else if x1 < 0 then if 0 ≤ x5 ∧ x5 < 40 then if 0 < x3 then if 0 ≤ (w32 ((w32 (5 * x5)) + x2)) ∧ (w32 ((w32 (5 * x5)) + x2)) < 200 then if x4 < 0 then (C 225 [jR 109, jI x5] (hH L (j_up (j_up m 146 x5.toNat 0) 144 (w32 ((w32 (5 * x5)) + x2)).toNat x3))).bind fun z => j_fin C 223 168 [some (jR 109), some (jI x1), some (jI x2), some (jI x3), some (jI x4), some (jI x5), some (jI x6)] (z.1.toList ++ []) z.2 else if 0 ≤ (w32 ((w32 (5 * x5)) + x2)) ∧ (w32 ((w32 (5 * x5)) + x2)) < 200 then (C 225 [jR 109, jI x5] (hH L (j_up (j_up (j_up m 146 x5.toNat 0) 144 (w32 ((w32 (5 * x5)) + x2)).toNat x3) 145 (w32 ((w32 (5 * x5)) + x2)).toNat x4))).bind fun z => j_fin C 223 168 [some (jR 109), some (jI x1), some (jI x2), some (jI x3), some (jI x4), some (jI x5), some (jI x6)] (z.1.toList ++ []) z.2 else none else none else if x4 < 0 then (C 225 [jR 109, jI x5] (hH L (j_up m 146 x5.toNat 0))).bind fun z => j_fin C 223 168 [some (jR 109), some (jI x1), some (jI x2), some (jI x3), some (jI x4), some (jI x5), some (jI x6)] (z.1.toList ++ []) z.2 else if 0 ≤ (w32 ((w32 (5 * x5)) + x2)) ∧ (w32 ((w32 (5 * x5)) + x2)) < 200 then (C 225 [jR 109, jI x5] (hH L (j_up (j_up m 146 x5.toNat 0) 145 (w32 ((w32 (5 * x5)) + x2)).toNat x4))).bind fun z => j_fin C 223 168 [some (jR 109), some (jI x1), some (jI x2), some (jI x3), some (jI x4), some (jI x5), some (jI x6)] (z.1.toList ++ []) z.2 else none else none else if 0 ≤ x1 ∧ x1 < 40 then if 0 ≤ x5 ∧ x5 < 40 then if 0 < x3 then if 0 ≤ (w32 ((w32 (5 * x5)) + x2)) ∧ (w32 ((w32 (5 * x5)) + x2)) < 200 then if x4 < 0 then (C 225 [jR 109, jI x5] (hH L (j_up (j_up m 146 x5.toNat (w32 ((m 146 x1.toNat) + 1))) 144 (w32 ((w32 (5 * x5)) + x2)).toNat x3))).bind fun z => j_fin C 223 168 [some (jR 109), some (jI x1), some (jI x2), some (jI x3), some (jI x4), some (jI x5), some (jI x6)] (z.1.toList ++ []) z.2 else if 0 ≤ (w32 ((w32 (5 * x5)) + x2)) ∧ (w32 ((w32 (5 * x5)) + x2)) < 200 then (C 225 [jR 109, jI x5] (hH L (j_up (j_up (j_up m 146 x5.toNat (w32 ((m 146 x1.toNat) + 1))) 144 (w32 ((w32 (5 * x5)) + x2)).toNat x3) 145 (w32 ((w32 (5 * x5)) + x2)).toNat x4))).bind fun z => j_fin C 223 168 [some (jR 109), some (jI x1), some (jI x2), some (jI x3), some (jI x4), some (jI x5), some (jI x6)] (z.1.toList ++ []) z.2 else none else none else if x4 < 0 then (C 225 [jR 109, jI x5] (hH L (j_up m 146 x5.toNat (w32 ((m 146 x1.toNat) + 1))))).bind fun z => j_fin C 223 168 [some (jR 109), some (jI x1), some (jI x2), some (jI x3), some (jI x4), some (jI x5), some (jI x6)] (z.1.toList ++ []) z.2 else if 0 ≤ (w32 ((w32 (5 * x5)) + x2)) ∧ (w32 ((w32 (5 * x5)) + x2)) < 200 then (C 225 [jR 109, jI x5] (hH L (j_up (j_up m 146 x5.toNat (w32 ((m 146 x1.toNat) + 1))) 145 (w32 ((w32 (5 * x5)) + x2)).toNat x4))).bind fun z => j_fin C 223 168 [some (jR 109), some (jI x1), some (jI x2), some (jI x3), some (jI x4), some (jI x5), some (jI x6)] (z.1.toList ++ []) z.2 else none else none else none := by
  refine (S_iload rfl at_223_31).trans ?_
  refine (S_iconst at_223_33).trans ?_
  refine (S_icmp_ge at_223_34).trans ?_
  refine ite_congr rfl (fun _ => ?_) (fun _ => ?_)
  · refine (S_aload_n rfl at_223_37).trans ?_
    refine (S_getR (ka_109 L _) rfl (f_109_14 L _) at_223_38).trans ?_
    refine (S_iconst at_223_41).trans ?_
    refine (S_iload rfl at_223_42).trans ?_
    refine (S_imul at_223_44).trans ?_
    refine (S_iload rfl at_223_45).trans ?_
    refine (S_iadd at_223_47).trans ?_
    refine (S_iload_n rfl at_223_48).trans ?_
    refine (S_if_ge at_223_49).trans ?_
    refine ite_congr rfl (fun _ => ?_) (fun _ => ?_)
    · refine (S_iconst at_223_52).trans ?_
      refine (S_goto at_223_53).trans ?_
      refine (H_iastore (by omega) (ka_144 L _) at_223_67).trans ?_
      refine ite_congr rfl (fun hi => ?_) (fun _ => rfl)
      refine (S_aload_n rfl at_223_68).trans ?_
      refine (S_getR (ka_109 L _) rfl (f_109_15 L _) at_223_69).trans ?_
      refine (S_iconst at_223_72).trans ?_
      refine (S_iload rfl at_223_73).trans ?_
      refine (S_imul at_223_75).trans ?_
      refine (S_iload rfl at_223_76).trans ?_
      refine (S_iadd at_223_78).trans ?_
      refine (S_iload_n rfl at_223_79).trans ?_
      refine (S_if_ge at_223_80).trans ?_
      refine ite_congr rfl (fun _ => ?_) (fun _ => ?_)
      · refine (S_iconst at_223_83).trans ?_
        refine (S_goto at_223_84).trans ?_
        refine (H_iastore (by omega) (ka_145 L _) at_223_98).trans ?_
        refine ite_congr rfl (fun hi => ?_) (fun _ => rfl)
        refine (S_iinc (l1 := [some (jR 109), some (jI x1), some (jI x2), some (jI x3), some (jI x4), some (jI x5), some (jI (w32 (x6 + 1)))]) rfl rfl at_223_99).trans ?_
        refine (S_goto at_223_102).trans ?_
        rfl
      · refine (S_aload_n rfl at_223_87).trans ?_
        refine (S_getR (ka_109 L _) rfl (f_109_15 L _) at_223_88).trans ?_
        refine (S_iconst at_223_91).trans ?_
        refine (S_iload_n rfl at_223_92).trans ?_
        refine (S_imul at_223_93).trans ?_
        refine (S_iload rfl at_223_94).trans ?_
        refine (S_iadd at_223_96).trans ?_
        refine (H_iaload (ka_145 L _) at_223_97).trans ?_
        refine ite_congr rfl (fun hi => ?_) (fun _ => rfl)
        refine (H_iastore (by omega) (ka_145 L _) at_223_98).trans ?_
        refine ite_congr rfl (fun hi => ?_) (fun _ => rfl)
        refine (S_iinc (l1 := [some (jR 109), some (jI x1), some (jI x2), some (jI x3), some (jI x4), some (jI x5), some (jI (w32 (x6 + 1)))]) rfl rfl at_223_99).trans ?_
        refine (S_goto at_223_102).trans ?_
        rfl
    · refine (S_aload_n rfl at_223_56).trans ?_
      refine (S_getR (ka_109 L _) rfl (f_109_14 L _) at_223_57).trans ?_
      refine (S_iconst at_223_60).trans ?_
      refine (S_iload_n rfl at_223_61).trans ?_
      refine (S_imul at_223_62).trans ?_
      refine (S_iload rfl at_223_63).trans ?_
      refine (S_iadd at_223_65).trans ?_
      refine (H_iaload (ka_144 L _) at_223_66).trans ?_
      refine ite_congr rfl (fun hi => ?_) (fun _ => rfl)
      refine (H_iastore (by omega) (ka_144 L _) at_223_67).trans ?_
      refine ite_congr rfl (fun hi => ?_) (fun _ => rfl)
      refine (S_aload_n rfl at_223_68).trans ?_
      refine (S_getR (ka_109 L _) rfl (f_109_15 L _) at_223_69).trans ?_
      refine (S_iconst at_223_72).trans ?_
      refine (S_iload rfl at_223_73).trans ?_
      refine (S_imul at_223_75).trans ?_
      refine (S_iload rfl at_223_76).trans ?_
      refine (S_iadd at_223_78).trans ?_
      refine (S_iload_n rfl at_223_79).trans ?_
      refine (S_if_ge at_223_80).trans ?_
      refine ite_congr rfl (fun _ => ?_) (fun _ => ?_)
      · refine (S_iconst at_223_83).trans ?_
        refine (S_goto at_223_84).trans ?_
        refine (H_iastore (by omega) (ka_145 L _) at_223_98).trans ?_
        refine ite_congr rfl (fun hi => ?_) (fun _ => rfl)
        refine (S_iinc (l1 := [some (jR 109), some (jI x1), some (jI x2), some (jI x3), some (jI x4), some (jI x5), some (jI (w32 (x6 + 1)))]) rfl rfl at_223_99).trans ?_
        refine (S_goto at_223_102).trans ?_
        rfl
      · refine (S_aload_n rfl at_223_87).trans ?_
        refine (S_getR (ka_109 L _) rfl (f_109_15 L _) at_223_88).trans ?_
        refine (S_iconst at_223_91).trans ?_
        refine (S_iload_n rfl at_223_92).trans ?_
        refine (S_imul at_223_93).trans ?_
        refine (S_iload rfl at_223_94).trans ?_
        refine (S_iadd at_223_96).trans ?_
        refine (H_iaload (ka_145 L _) at_223_97).trans ?_
        refine ite_congr rfl (fun hi => ?_) (fun _ => rfl)
        refine (H_iastore (by omega) (ka_145 L _) at_223_98).trans ?_
        refine ite_congr rfl (fun hi => ?_) (fun _ => rfl)
        refine (S_iinc (l1 := [some (jR 109), some (jI x1), some (jI x2), some (jI x3), some (jI x4), some (jI x5), some (jI (w32 (x6 + 1)))]) rfl rfl at_223_99).trans ?_
        refine (S_goto at_223_102).trans ?_
        rfl
  · refine (S_aload_n rfl at_223_105).trans ?_
    refine (S_getR (ka_109 L _) rfl (f_109_16 L _) at_223_106).trans ?_
    refine (S_iload rfl at_223_109).trans ?_
    refine (S_iload_n rfl at_223_111).trans ?_
    refine (S_if_ge at_223_112).trans ?_
    refine ite_congr rfl (fun _ => ?_) (fun _ => ?_)
    · refine (S_iconst at_223_115).trans ?_
      refine (S_goto at_223_116).trans ?_
      refine (H_iastore (by omega) (ka_146 L _) at_223_127).trans ?_
      refine ite_congr rfl (fun hi => ?_) (fun _ => rfl)
      refine (S_iload_n rfl at_223_128).trans ?_
      refine (S_if_le at_223_129).trans ?_
      refine ite_congr rfl (fun _ => ?_) (fun _ => ?_)
      · refine (S_aload_n rfl at_223_132).trans ?_
        refine (S_getR (ka_109 L _) rfl (f_109_14 L _) at_223_133).trans ?_
        refine (S_iconst at_223_136).trans ?_
        refine (S_iload rfl at_223_137).trans ?_
        refine (S_imul at_223_139).trans ?_
        refine (S_iload_n rfl at_223_140).trans ?_
        refine (S_iadd at_223_141).trans ?_
        refine (S_iload_n rfl at_223_142).trans ?_
        refine (H_iastore (by omega) (ka_144 L _) at_223_143).trans ?_
        refine ite_congr rfl (fun hi => ?_) (fun _ => rfl)
        refine (S_iload rfl at_223_144).trans ?_
        refine (S_if_lt at_223_146).trans ?_
        refine ite_congr rfl (fun _ => ?_) (fun _ => ?_)
        · refine (S_aload_n rfl at_223_162).trans ?_
          refine (S_iload rfl at_223_163).trans ?_
          refine (S_invv (b := 1) kn_225 rfl (ka_109 L _) (Nat.le_of_ble_eq_true rfl) at_223_165).trans ?_
          rfl
        · refine (S_aload_n rfl at_223_149).trans ?_
          refine (S_getR (ka_109 L _) rfl (f_109_15 L _) at_223_150).trans ?_
          refine (S_iconst at_223_153).trans ?_
          refine (S_iload rfl at_223_154).trans ?_
          refine (S_imul at_223_156).trans ?_
          refine (S_iload_n rfl at_223_157).trans ?_
          refine (S_iadd at_223_158).trans ?_
          refine (S_iload rfl at_223_159).trans ?_
          refine (H_iastore (by omega) (ka_145 L _) at_223_161).trans ?_
          refine ite_congr rfl (fun hi => ?_) (fun _ => rfl)
          refine (S_aload_n rfl at_223_162).trans ?_
          refine (S_iload rfl at_223_163).trans ?_
          refine (S_invv (b := 1) kn_225 rfl (ka_109 L _) (Nat.le_of_ble_eq_true rfl) at_223_165).trans ?_
          rfl
      · refine (S_iload rfl at_223_144).trans ?_
        refine (S_if_lt at_223_146).trans ?_
        refine ite_congr rfl (fun _ => ?_) (fun _ => ?_)
        · refine (S_aload_n rfl at_223_162).trans ?_
          refine (S_iload rfl at_223_163).trans ?_
          refine (S_invv (b := 1) kn_225 rfl (ka_109 L _) (Nat.le_of_ble_eq_true rfl) at_223_165).trans ?_
          rfl
        · refine (S_aload_n rfl at_223_149).trans ?_
          refine (S_getR (ka_109 L _) rfl (f_109_15 L _) at_223_150).trans ?_
          refine (S_iconst at_223_153).trans ?_
          refine (S_iload rfl at_223_154).trans ?_
          refine (S_imul at_223_156).trans ?_
          refine (S_iload_n rfl at_223_157).trans ?_
          refine (S_iadd at_223_158).trans ?_
          refine (S_iload rfl at_223_159).trans ?_
          refine (H_iastore (by omega) (ka_145 L _) at_223_161).trans ?_
          refine ite_congr rfl (fun hi => ?_) (fun _ => rfl)
          refine (S_aload_n rfl at_223_162).trans ?_
          refine (S_iload rfl at_223_163).trans ?_
          refine (S_invv (b := 1) kn_225 rfl (ka_109 L _) (Nat.le_of_ble_eq_true rfl) at_223_165).trans ?_
          rfl
    · refine (S_aload_n rfl at_223_119).trans ?_
      refine (S_getR (ka_109 L _) rfl (f_109_16 L _) at_223_120).trans ?_
      refine (S_iload_n rfl at_223_123).trans ?_
      refine (H_iaload (ka_146 L _) at_223_124).trans ?_
      refine ite_congr rfl (fun hi => ?_) (fun _ => rfl)
      refine (S_iconst at_223_125).trans ?_
      refine (S_iadd at_223_126).trans ?_
      refine (H_iastore (by omega) (ka_146 L _) at_223_127).trans ?_
      refine ite_congr rfl (fun hi => ?_) (fun _ => rfl)
      refine (S_iload_n rfl at_223_128).trans ?_
      refine (S_if_le at_223_129).trans ?_
      refine ite_congr rfl (fun _ => ?_) (fun _ => ?_)
      · refine (S_aload_n rfl at_223_132).trans ?_
        refine (S_getR (ka_109 L _) rfl (f_109_14 L _) at_223_133).trans ?_
        refine (S_iconst at_223_136).trans ?_
        refine (S_iload rfl at_223_137).trans ?_
        refine (S_imul at_223_139).trans ?_
        refine (S_iload_n rfl at_223_140).trans ?_
        refine (S_iadd at_223_141).trans ?_
        refine (S_iload_n rfl at_223_142).trans ?_
        refine (H_iastore (by omega) (ka_144 L _) at_223_143).trans ?_
        refine ite_congr rfl (fun hi => ?_) (fun _ => rfl)
        refine (S_iload rfl at_223_144).trans ?_
        refine (S_if_lt at_223_146).trans ?_
        refine ite_congr rfl (fun _ => ?_) (fun _ => ?_)
        · refine (S_aload_n rfl at_223_162).trans ?_
          refine (S_iload rfl at_223_163).trans ?_
          refine (S_invv (b := 1) kn_225 rfl (ka_109 L _) (Nat.le_of_ble_eq_true rfl) at_223_165).trans ?_
          rfl
        · refine (S_aload_n rfl at_223_149).trans ?_
          refine (S_getR (ka_109 L _) rfl (f_109_15 L _) at_223_150).trans ?_
          refine (S_iconst at_223_153).trans ?_
          refine (S_iload rfl at_223_154).trans ?_
          refine (S_imul at_223_156).trans ?_
          refine (S_iload_n rfl at_223_157).trans ?_
          refine (S_iadd at_223_158).trans ?_
          refine (S_iload rfl at_223_159).trans ?_
          refine (H_iastore (by omega) (ka_145 L _) at_223_161).trans ?_
          refine ite_congr rfl (fun hi => ?_) (fun _ => rfl)
          refine (S_aload_n rfl at_223_162).trans ?_
          refine (S_iload rfl at_223_163).trans ?_
          refine (S_invv (b := 1) kn_225 rfl (ka_109 L _) (Nat.le_of_ble_eq_true rfl) at_223_165).trans ?_
          rfl
      · refine (S_iload rfl at_223_144).trans ?_
        refine (S_if_lt at_223_146).trans ?_
        refine ite_congr rfl (fun _ => ?_) (fun _ => ?_)
        · refine (S_aload_n rfl at_223_162).trans ?_
          refine (S_iload rfl at_223_163).trans ?_
          refine (S_invv (b := 1) kn_225 rfl (ka_109 L _) (Nat.le_of_ble_eq_true rfl) at_223_165).trans ?_
          rfl
        · refine (S_aload_n rfl at_223_149).trans ?_
          refine (S_getR (ka_109 L _) rfl (f_109_15 L _) at_223_150).trans ?_
          refine (S_iconst at_223_153).trans ?_
          refine (S_iload rfl at_223_154).trans ?_
          refine (S_imul at_223_156).trans ?_
          refine (S_iload_n rfl at_223_157).trans ?_
          refine (S_iadd at_223_158).trans ?_
          refine (S_iload rfl at_223_159).trans ?_
          refine (H_iastore (by omega) (ka_145 L _) at_223_161).trans ?_
          refine ite_congr rfl (fun hi => ?_) (fun _ => rfl)
          refine (S_aload_n rfl at_223_162).trans ?_
          refine (S_iload rfl at_223_163).trans ?_
          refine (S_invv (b := 1) kn_225 rfl (ka_109 L _) (Nat.le_of_ble_eq_true rfl) at_223_165).trans ?_
          rfl
theorem T223_168 {C : Nat → List j_V → j_H → Option j_Z} {L : Nat} {m : j_M0} {x1 : Int} {x2 : Int} {x3 : Int} {x4 : Int} {x5 : Int} {x6 : Int} {s0 : Int} : j_fin C 223 168 [some (jR 109), some (jI x1), some (jI x2), some (jI x3), some (jI x4), some (jI x5), some (jI x6)] [jI s0] (hH L m) = some (some (jI s0), hH L m) := by
  exact S_ireti rfl at_223_168
theorem T224_0 {C : Nat → List j_V → j_H → Option j_Z} {L : Nat} {m : j_M0} {x2 : Int} {x3 : Int} : j_fin C 224 0 [some (jR 109), some (jR 128), some (jI x2), some (jI x3)] [] (hH L m) = if 0 ≤ (w32 ((w32 (5 * x2)) + x3)) ∧ (w32 ((w32 (5 * x2)) + x3)) < 200 then if 0 < (m 144 (w32 ((w32 (5 * x2)) + x3)).toNat) then if 0 ≤ (w32 ((w32 (5 * x2)) + x3)) ∧ (w32 ((w32 (5 * x2)) + x3)) < 200 then (C 177 [jR 109, jR 128, jI (w32 (40 + x3)), jL (w32 (-(m 144 (w32 ((w32 (5 * x2)) + x3)).toNat)))] (hH L m)).bind fun z => j_fin C 224 34 [some (jR 109), some (jR 128), some (jI x2), some (jI x3)] (z.1.toList ++ []) z.2 else none else if 0 ≤ (w32 ((w32 (5 * x2)) + x3)) ∧ (w32 ((w32 (5 * x2)) + x3)) < 200 then if (m 145 (w32 ((w32 (5 * x2)) + x3)).toNat) < 0 then some (none, hH L m) else if 0 ≤ (w32 ((w32 (5 * x2)) + x3)) ∧ (w32 ((w32 (5 * x2)) + x3)) < 200 then (C 177 [jR 109, jR 128, jI (w32 (50 + x3)), jL (m 145 (w32 ((w32 (5 * x2)) + x3)).toNat)] (hH L m)).bind fun z => j_fin C 224 85 [some (jR 109), some (jR 128), some (jI x2), some (jI x3)] (z.1.toList ++ []) z.2 else none else none else none := by
  refine (S_aload_n rfl at_224_0).trans ?_
  refine (S_getR (ka_109 L _) rfl (f_109_14 L _) at_224_1).trans ?_
  refine (S_iconst at_224_4).trans ?_
  refine (S_iload_n rfl at_224_5).trans ?_
  refine (S_imul at_224_6).trans ?_
  refine (S_iload_n rfl at_224_7).trans ?_
  refine (S_iadd at_224_8).trans ?_
  refine (H_iaload (ka_144 L _) at_224_9).trans ?_
  refine ite_congr rfl (fun hi => ?_) (fun _ => rfl)
  refine (S_if_le at_224_10).trans ?_
  refine ite_congr rfl (fun _ => ?_) (fun _ => ?_)
  · refine (S_aload_n rfl at_224_13).trans ?_
    refine (S_aload_n rfl at_224_14).trans ?_
    refine (S_bipush at_224_15).trans ?_
    refine (S_iload_n rfl at_224_17).trans ?_
    refine (S_iadd at_224_18).trans ?_
    refine (S_aload_n rfl at_224_19).trans ?_
    refine (S_getR (ka_109 L _) rfl (f_109_14 L _) at_224_20).trans ?_
    refine (S_iconst at_224_23).trans ?_
    refine (S_iload_n rfl at_224_24).trans ?_
    refine (S_imul at_224_25).trans ?_
    refine (S_iload_n rfl at_224_26).trans ?_
    refine (S_iadd at_224_27).trans ?_
    refine (H_iaload (ka_144 L _) at_224_28).trans ?_
    refine ite_congr rfl (fun hi => ?_) (fun _ => rfl)
    refine (S_ineg at_224_29).trans ?_
    refine (S_i2l at_224_30).trans ?_
    refine (S_invv (b := 3) kn_177 rfl (ka_109 L _) (Nat.le_of_ble_eq_true rfl) at_224_31).trans ?_
    rfl
  · refine (S_aload_n rfl at_224_52).trans ?_
    refine (S_getR (ka_109 L _) rfl (f_109_15 L _) at_224_53).trans ?_
    refine (S_iconst at_224_56).trans ?_
    refine (S_iload_n rfl at_224_57).trans ?_
    refine (S_imul at_224_58).trans ?_
    refine (S_iload_n rfl at_224_59).trans ?_
    refine (S_iadd at_224_60).trans ?_
    refine (H_iaload (ka_145 L _) at_224_61).trans ?_
    refine ite_congr rfl (fun hi => ?_) (fun _ => rfl)
    refine (S_if_lt at_224_62).trans ?_
    refine ite_congr rfl (fun _ => ?_) (fun _ => ?_)
    · exact S_ret rfl at_224_101
    · refine (S_aload_n rfl at_224_65).trans ?_
      refine (S_aload_n rfl at_224_66).trans ?_
      refine (S_bipush at_224_67).trans ?_
      refine (S_iload_n rfl at_224_69).trans ?_
      refine (S_iadd at_224_70).trans ?_
      refine (S_aload_n rfl at_224_71).trans ?_
      refine (S_getR (ka_109 L _) rfl (f_109_15 L _) at_224_72).trans ?_
      refine (S_iconst at_224_75).trans ?_
      refine (S_iload_n rfl at_224_76).trans ?_
      refine (S_imul at_224_77).trans ?_
      refine (S_iload_n rfl at_224_78).trans ?_
      refine (S_iadd at_224_79).trans ?_
      refine (H_iaload (ka_145 L _) at_224_80).trans ?_
      refine ite_congr rfl (fun hi => ?_) (fun _ => rfl)
      refine (S_i2l at_224_81).trans ?_
      refine (S_invv (b := 3) kn_177 rfl (ka_109 L _) (Nat.le_of_ble_eq_true rfl) at_224_82).trans ?_
      rfl
theorem T224_34 {C : Nat → List j_V → j_H → Option j_Z} {L : Nat} {m : j_M0} {x2 : Int} {x3 : Int} : j_fin C 224 34 [some (jR 109), some (jR 128), some (jI x2), some (jI x3)] [] (hH L m) = if 0 ≤ (w32 ((w32 (5 * (w32 ((m 128 15) - 1)))) + x3)) ∧ (w32 ((w32 (5 * (w32 ((m 128 15) - 1)))) + x3)) < 100 then if 0 ≤ (w32 ((w32 (5 * x2)) + x3)) ∧ (w32 ((w32 (5 * x2)) + x3)) < 200 then if ((j_up m 129 (w32 ((w32 (5 * (w32 ((m 128 15) - 1)))) + x3)).toNat (-1)) 145 (w32 ((w32 (5 * x2)) + x3)).toNat) < 0 then some (none, hH L (j_up m 129 (w32 ((w32 (5 * (w32 ((m 128 15) - 1)))) + x3)).toNat (-1))) else if 0 ≤ (w32 ((w32 (5 * x2)) + x3)) ∧ (w32 ((w32 (5 * x2)) + x3)) < 200 then (C 177 [jR 109, jR 128, jI (w32 (50 + x3)), jL ((j_up m 129 (w32 ((w32 (5 * (w32 ((m 128 15) - 1)))) + x3)).toNat (-1)) 145 (w32 ((w32 (5 * x2)) + x3)).toNat)] (hH L (j_up m 129 (w32 ((w32 (5 * (w32 ((m 128 15) - 1)))) + x3)).toNat (-1)))).bind fun z => j_fin C 224 85 [some (jR 109), some (jR 128), some (jI x2), some (jI x3)] (z.1.toList ++ []) z.2 else none else none else none := by
  refine (S_aload_n rfl at_224_34).trans ?_
  refine (S_getR (ka_128 L _) rfl (f_128_0 L _) at_224_35).trans ?_
  refine (S_iconst at_224_38).trans ?_
  refine (S_aload_n rfl at_224_39).trans ?_
  refine (H_get0 (ka_128 L _) rfl at_224_40).trans ?_
  refine (S_iconst at_224_43).trans ?_
  refine (S_isub at_224_44).trans ?_
  refine (S_imul at_224_45).trans ?_
  refine (S_iload_n rfl at_224_46).trans ?_
  refine (S_iadd at_224_47).trans ?_
  refine (S_ldc2_w at_224_48).trans ?_
  refine (H_lastore (by omega) (ka_129 L _) at_224_51).trans ?_
  refine ite_congr rfl (fun hi => ?_) (fun _ => rfl)
  refine (S_aload_n rfl at_224_52).trans ?_
  refine (S_getR (ka_109 L _) rfl (f_109_15 L _) at_224_53).trans ?_
  refine (S_iconst at_224_56).trans ?_
  refine (S_iload_n rfl at_224_57).trans ?_
  refine (S_imul at_224_58).trans ?_
  refine (S_iload_n rfl at_224_59).trans ?_
  refine (S_iadd at_224_60).trans ?_
  refine (H_iaload (ka_145 L _) at_224_61).trans ?_
  refine ite_congr rfl (fun hi => ?_) (fun _ => rfl)
  refine (S_if_lt at_224_62).trans ?_
  refine ite_congr rfl (fun _ => ?_) (fun _ => ?_)
  · exact S_ret rfl at_224_101
  · refine (S_aload_n rfl at_224_65).trans ?_
    refine (S_aload_n rfl at_224_66).trans ?_
    refine (S_bipush at_224_67).trans ?_
    refine (S_iload_n rfl at_224_69).trans ?_
    refine (S_iadd at_224_70).trans ?_
    refine (S_aload_n rfl at_224_71).trans ?_
    refine (S_getR (ka_109 L _) rfl (f_109_15 L _) at_224_72).trans ?_
    refine (S_iconst at_224_75).trans ?_
    refine (S_iload_n rfl at_224_76).trans ?_
    refine (S_imul at_224_77).trans ?_
    refine (S_iload_n rfl at_224_78).trans ?_
    refine (S_iadd at_224_79).trans ?_
    refine (H_iaload (ka_145 L _) at_224_80).trans ?_
    refine ite_congr rfl (fun hi => ?_) (fun _ => rfl)
    refine (S_i2l at_224_81).trans ?_
    refine (S_invv (b := 3) kn_177 rfl (ka_109 L _) (Nat.le_of_ble_eq_true rfl) at_224_82).trans ?_
    rfl
theorem T224_85 {C : Nat → List j_V → j_H → Option j_Z} {L : Nat} {m : j_M0} {x2 : Int} {x3 : Int} : j_fin C 224 85 [some (jR 109), some (jR 128), some (jI x2), some (jI x3)] [] (hH L m) = if 0 ≤ (w32 ((w32 (5 * (w32 ((m 128 15) - 1)))) + x3)) ∧ (w32 ((w32 (5 * (w32 ((m 128 15) - 1)))) + x3)) < 100 then some (none, hH L (j_up m 129 (w32 ((w32 (5 * (w32 ((m 128 15) - 1)))) + x3)).toNat 1)) else none := by
  refine (S_aload_n rfl at_224_85).trans ?_
  refine (S_getR (ka_128 L _) rfl (f_128_0 L _) at_224_86).trans ?_
  refine (S_iconst at_224_89).trans ?_
  refine (S_aload_n rfl at_224_90).trans ?_
  refine (H_get0 (ka_128 L _) rfl at_224_91).trans ?_
  refine (S_iconst at_224_94).trans ?_
  refine (S_isub at_224_95).trans ?_
  refine (S_imul at_224_96).trans ?_
  refine (S_iload_n rfl at_224_97).trans ?_
  refine (S_iadd at_224_98).trans ?_
  refine (S_lconst at_224_99).trans ?_
  refine (H_lastore (by omega) (ka_129 L _) at_224_100).trans ?_
  refine ite_congr rfl (fun hi => ?_) (fun _ => rfl)
  exact S_ret rfl at_224_101
theorem T225_0 {C : Nat → List j_V → j_H → Option j_Z} {L : Nat} {m : j_M0} {x1 : Int} : j_fin C 225 0 [some (jR 109), some (jI x1), none, none] [] (hH L m) = (C 178 [jR 109, jR 128] (hH L m)).bind fun z => j_fin C 225 8 [some (jR 109), some (jI x1), none, none] (z.1.toList ++ []) z.2 := by
  refine (S_aload_n rfl at_225_0).trans ?_
  refine (S_aload_n rfl at_225_1).trans ?_
  refine (S_getR (ka_109 L _) rfl (f_109_10 L _) at_225_2).trans ?_
  refine (S_invv (b := 1) kn_178 rfl (ka_109 L _) (Nat.le_of_ble_eq_true rfl) at_225_5).trans ?_
  rfl
theorem T225_8 {C : Nat → List j_V → j_H → Option j_Z} {L : Nat} {m : j_M0} {x1 : Int} : j_fin C 225 8 [some (jR 109), some (jI x1), none, none] [] (hH L m) = j_fin C 225 10 [some (jR 109), some (jI x1), some (jI 0), none] [] (hH L m) := by
  refine (S_iconst at_225_8).trans ?_
  refine (S_istore_n (l1 := [some (jR 109), some (jI x1), some (jI 0), none]) rfl at_225_9).trans ?_
  rfl
theorem T225_10 {C : Nat → List j_V → j_H → Option j_Z} {L : Nat} {m : j_M0} {x1 : Int} {x2 : Int} : j_fin C 225 10 [some (jR 109), some (jI x1), some (jI x2), none] [] (hH L m) = (C 151 [jR 109] (hH L m)).bind fun z => j_fin C 225 15 [some (jR 109), some (jI x1), some (jI x2), none] (z.1.toList ++ [jI x2]) z.2 := by
  refine (S_iload_n rfl at_225_10).trans ?_
  refine (S_aload_n rfl at_225_11).trans ?_
  refine (S_invv (b := 0) kn_151 rfl (ka_109 L _) (Nat.le_of_ble_eq_true rfl) at_225_12).trans ?_
  rfl
theorem T225_15 {C : Nat → List j_V → j_H → Option j_Z} {L : Nat} {m : j_M0} {x1 : Int} {x2 : Int} {s0 : Int} {s1 : Int} : j_fin C 225 15 [some (jR 109), some (jI x1), some (jI x2), none] [jI s1, jI s0] (hH L m) = if s0 < s1 then (C 224 [jR 109, jR 128, jI x1, jI x2] (hH L m)).bind fun z => j_fin C 225 28 [some (jR 109), some (jI x1), some (jI x2), none] (z.1.toList ++ []) z.2 else (C 183 [jR 109, jR 128] (hH L m)).bind fun z => j_fin C 225 42 [some (jR 109), some (jI x1), some (jI x2), none] (z.1.toList ++ []) z.2 := by
  refine (S_icmp_ge at_225_15).trans ?_
  refine ite_congr rfl (fun _ => ?_) (fun _ => ?_)
  · refine (S_aload_n rfl at_225_18).trans ?_
    refine (S_aload_n rfl at_225_19).trans ?_
    refine (S_getR (ka_109 L _) rfl (f_109_10 L _) at_225_20).trans ?_
    refine (S_iload_n rfl at_225_23).trans ?_
    refine (S_iload_n rfl at_225_24).trans ?_
    refine (S_invv (b := 3) kn_224 rfl (ka_109 L _) (Nat.le_of_ble_eq_true rfl) at_225_25).trans ?_
    rfl
  · refine (S_aload_n rfl at_225_34).trans ?_
    refine (S_aload_n rfl at_225_35).trans ?_
    refine (S_getR (ka_109 L _) rfl (f_109_10 L _) at_225_36).trans ?_
    refine (S_invv (b := 1) kn_183 rfl (ka_109 L _) (Nat.le_of_ble_eq_true rfl) at_225_39).trans ?_
    rfl
theorem T225_28 {C : Nat → List j_V → j_H → Option j_Z} {L : Nat} {m : j_M0} {x1 : Int} {x2 : Int} : j_fin C 225 28 [some (jR 109), some (jI x1), some (jI x2), none] [] (hH L m) = j_fin C 225 10 [some (jR 109), some (jI x1), some (jI (w32 (x2 + 1))), none] [] (hH L m) := by
  refine (S_iinc (l1 := [some (jR 109), some (jI x1), some (jI (w32 (x2 + 1))), none]) rfl rfl at_225_28).trans ?_
  refine (S_goto at_225_31).trans ?_
  rfl
theorem T225_42 {C : Nat → List j_V → j_H → Option j_Z} {L : Nat} {m : j_M0} {x1 : Int} {x2 : Int} {s0 : Int} : j_fin C 225 42 [some (jR 109), some (jI x1), some (jI x2), none] [jI s0] (hH L m) = if s0 = 1 then if 0 ≤ x1 ∧ x1 < 40 then if 0 ≤ x1 ∧ x1 < 40 then if 0 ≤ x1 ∧ x1 < 40 then j_fin C 225 103 [some (jR 109), some (jI x1), some (jI s0), some (jI 0)] [] (hH L (j_up (j_up (j_up (j_up m 109 22 (w32 ((m 109 22) + (m 128 17)))) 150 x1.toNat 1) 148 x1.toNat ((j_up (j_up m 109 22 (w32 ((m 109 22) + (m 128 17)))) 150 x1.toNat 1) 128 12)) 149 x1.toNat ((j_up (j_up (j_up m 109 22 (w32 ((m 109 22) + (m 128 17)))) 150 x1.toNat 1) 148 x1.toNat ((j_up (j_up m 109 22 (w32 ((m 109 22) + (m 128 17)))) 150 x1.toNat 1) 128 12)) 128 13))) else none else none else none else if 0 ≤ x1 ∧ x1 < 40 then if 0 ≤ x1 ∧ x1 < 40 then if 0 ≤ x1 ∧ x1 < 40 then j_fin C 225 103 [some (jR 109), some (jI x1), some (jI s0), some (jI 0)] [] (hH L (j_up (j_up (j_up (j_up m 109 22 (w32 ((m 109 22) + (m 128 17)))) 150 x1.toNat 0) 148 x1.toNat ((j_up (j_up m 109 22 (w32 ((m 109 22) + (m 128 17)))) 150 x1.toNat 0) 128 12)) 149 x1.toNat ((j_up (j_up (j_up m 109 22 (w32 ((m 109 22) + (m 128 17)))) 150 x1.toNat 0) 148 x1.toNat ((j_up (j_up m 109 22 (w32 ((m 109 22) + (m 128 17)))) 150 x1.toNat 0) 128 12)) 128 13))) else none else none else none := by
  refine (S_istore_n (l1 := [some (jR 109), some (jI x1), some (jI s0), none]) rfl at_225_42).trans ?_
  refine (S_aload_n rfl at_225_43).trans ?_
  refine (S_dup rfl at_225_44).trans ?_
  refine (H_get0 (ka_109 L _) rfl at_225_45).trans ?_
  refine (S_aload_n rfl at_225_48).trans ?_
  refine (S_getR (ka_109 L _) rfl (f_109_10 L _) at_225_49).trans ?_
  refine (H_get0 (ka_128 L _) rfl at_225_52).trans ?_
  refine (S_iadd at_225_55).trans ?_
  refine (H_put0 (ka_109 L _) rfl at_225_56).trans ?_
  refine (S_aload_n rfl at_225_59).trans ?_
  refine (S_getR (ka_109 L _) rfl (f_109_20 L _) at_225_60).trans ?_
  refine (S_iload_n rfl at_225_63).trans ?_
  refine (S_iload_n rfl at_225_64).trans ?_
  refine (S_iconst at_225_65).trans ?_
  refine (S_icmp_ne at_225_66).trans ?_
  refine ite_congr rfl (fun _ => ?_) (fun _ => ?_)
  · refine (S_iconst at_225_69).trans ?_
    refine (S_goto at_225_70).trans ?_
    refine (H_bastore35 (by omega) (ka_150 L _) at_225_74).trans ?_
    refine ite_congr rfl (fun hi => ?_) (fun _ => rfl)
    refine (if_pos (by decide)).trans ?_
    refine (S_aload_n rfl at_225_75).trans ?_
    refine (S_getR (ka_109 L _) rfl (f_109_18 L _) at_225_76).trans ?_
    refine (S_iload_n rfl at_225_79).trans ?_
    refine (S_aload_n rfl at_225_80).trans ?_
    refine (S_getR (ka_109 L _) rfl (f_109_10 L _) at_225_81).trans ?_
    refine (H_get1 (ka_128 L _) rfl at_225_84).trans ?_
    refine (H_lastore (by omega) (ka_148 L _) at_225_87).trans ?_
    refine ite_congr rfl (fun hi => ?_) (fun _ => rfl)
    refine (S_aload_n rfl at_225_88).trans ?_
    refine (S_getR (ka_109 L _) rfl (f_109_19 L _) at_225_89).trans ?_
    refine (S_iload_n rfl at_225_92).trans ?_
    refine (S_aload_n rfl at_225_93).trans ?_
    refine (S_getR (ka_109 L _) rfl (f_109_10 L _) at_225_94).trans ?_
    refine (H_get1 (ka_128 L _) rfl at_225_97).trans ?_
    refine (H_lastore (by omega) (ka_149 L _) at_225_100).trans ?_
    refine ite_congr rfl (fun hi => ?_) (fun _ => rfl)
    refine (S_iconst at_225_101).trans ?_
    refine (S_istore_n (l1 := [some (jR 109), some (jI x1), some (jI s0), some (jI 0)]) rfl at_225_102).trans ?_
    rfl
  · refine (S_iconst at_225_73).trans ?_
    refine (H_bastore35 (by omega) (ka_150 L _) at_225_74).trans ?_
    refine ite_congr rfl (fun hi => ?_) (fun _ => rfl)
    refine (if_pos (by decide)).trans ?_
    refine (S_aload_n rfl at_225_75).trans ?_
    refine (S_getR (ka_109 L _) rfl (f_109_18 L _) at_225_76).trans ?_
    refine (S_iload_n rfl at_225_79).trans ?_
    refine (S_aload_n rfl at_225_80).trans ?_
    refine (S_getR (ka_109 L _) rfl (f_109_10 L _) at_225_81).trans ?_
    refine (H_get1 (ka_128 L _) rfl at_225_84).trans ?_
    refine (H_lastore (by omega) (ka_148 L _) at_225_87).trans ?_
    refine ite_congr rfl (fun hi => ?_) (fun _ => rfl)
    refine (S_aload_n rfl at_225_88).trans ?_
    refine (S_getR (ka_109 L _) rfl (f_109_19 L _) at_225_89).trans ?_
    refine (S_iload_n rfl at_225_92).trans ?_
    refine (S_aload_n rfl at_225_93).trans ?_
    refine (S_getR (ka_109 L _) rfl (f_109_10 L _) at_225_94).trans ?_
    refine (H_get1 (ka_128 L _) rfl at_225_97).trans ?_
    refine (H_lastore (by omega) (ka_149 L _) at_225_100).trans ?_
    refine ite_congr rfl (fun hi => ?_) (fun _ => rfl)
    refine (S_iconst at_225_101).trans ?_
    refine (S_istore_n (l1 := [some (jR 109), some (jI x1), some (jI s0), some (jI 0)]) rfl at_225_102).trans ?_
    rfl
theorem T225_103 {C : Nat → List j_V → j_H → Option j_Z} {L : Nat} {m : j_M0} {x1 : Int} {x2 : Int} {x3 : Int} : j_fin C 225 103 [some (jR 109), some (jI x1), some (jI x2), some (jI x3)] [] (hH L m) = (C 151 [jR 109] (hH L m)).bind fun z => j_fin C 225 108 [some (jR 109), some (jI x1), some (jI x2), some (jI x3)] (z.1.toList ++ [jI x3]) z.2 := by
  refine (S_iload_n rfl at_225_103).trans ?_
  refine (S_aload_n rfl at_225_104).trans ?_
  refine (S_invv (b := 0) kn_151 rfl (ka_109 L _) (Nat.le_of_ble_eq_true rfl) at_225_105).trans ?_
  rfl
theorem T225_108 {C : Nat → List j_V → j_H → Option j_Z} {L : Nat} {m : j_M0} {x1 : Int} {x2 : Int} {x3 : Int} {s0 : Int} {s1 : Int} : j_fin C 225 108 [some (jR 109), some (jI x1), some (jI x2), some (jI x3)] [jI s1, jI s0] (hH L m) = if s0 < s1 then (C 197 [jR 109, jR 128, jI x3] (hH L m)).bind fun z => j_fin C 225 129 [some (jR 109), some (jI x1), some (jI x2), some (jI x3)] (z.1.toList ++ [jI (w32 ((w32 (5 * x1)) + x3)), jR 147]) z.2 else if x2 = (-6) then some (some (jI (-6)), hH L m) else some (some (jI 1), hH L m) := by
  refine (S_icmp_ge at_225_108).trans ?_
  refine ite_congr rfl (fun _ => ?_) (fun _ => ?_)
  · refine (S_aload_n rfl at_225_111).trans ?_
    refine (S_getR (ka_109 L _) rfl (f_109_17 L _) at_225_112).trans ?_
    refine (S_iconst at_225_115).trans ?_
    refine (S_iload_n rfl at_225_116).trans ?_
    refine (S_imul at_225_117).trans ?_
    refine (S_iload_n rfl at_225_118).trans ?_
    refine (S_iadd at_225_119).trans ?_
    refine (S_aload_n rfl at_225_120).trans ?_
    refine (S_aload_n rfl at_225_121).trans ?_
    refine (S_getR (ka_109 L _) rfl (f_109_10 L _) at_225_122).trans ?_
    refine (S_iload_n rfl at_225_125).trans ?_
    refine (S_invv (b := 2) kn_197 rfl (ka_109 L _) (Nat.le_of_ble_eq_true rfl) at_225_126).trans ?_
    rfl
  · refine (S_iload_n rfl at_225_136).trans ?_
    refine (S_bipush at_225_137).trans ?_
    refine (S_icmp_ne at_225_139).trans ?_
    refine ite_congr rfl (fun _ => ?_) (fun _ => ?_)
    · refine (S_bipush at_225_142).trans ?_
      refine (S_goto at_225_144).trans ?_
      exact S_ireti rfl at_225_148
    · refine (S_iconst at_225_147).trans ?_
      exact S_ireti rfl at_225_148
theorem T225_129 {C : Nat → List j_V → j_H → Option j_Z} {L : Nat} {m : j_M0} {x1 : Int} {x2 : Int} {x3 : Int} {s1 : Int} {t2 : Int} : j_fin C 225 129 [some (jR 109), some (jI x1), some (jI x2), some (jI x3)] [jL t2, jI s1, jR 147] (hH L m) = if 0 ≤ s1 ∧ s1 < 200 then j_fin C 225 103 [some (jR 109), some (jI x1), some (jI x2), some (jI (w32 (x3 + 1)))] [] (hH L (j_up m 147 s1.toNat t2)) else none := by
  refine (H_lastore (by omega) (ka_147 L _) at_225_129).trans ?_
  refine ite_congr rfl (fun hi => ?_) (fun _ => rfl)
  refine (S_iinc (l1 := [some (jR 109), some (jI x1), some (jI x2), some (jI (w32 (x3 + 1)))]) rfl rfl at_225_130).trans ?_
  refine (S_goto at_225_133).trans ?_
  rfl
theorem T226_0 {C : Nat → List j_V → j_H → Option j_Z} {L : Nat} {m : j_M0} : j_fin C 226 0 [some (jR 109), none, none] [] (hH L m) = j_fin C 226 4 [some (jR 109), some (jI (-1)), some (jI 0)] [] (hH L m) := by
  refine (S_iconst at_226_0).trans ?_
  refine (S_istore_n (l1 := [some (jR 109), some (jI (-1)), none]) rfl at_226_1).trans ?_
  refine (S_iconst at_226_2).trans ?_
  refine (S_istore_n (l1 := [some (jR 109), some (jI (-1)), some (jI 0)]) rfl at_226_3).trans ?_
  rfl
theorem T226_4 {C : Nat → List j_V → j_H → Option j_Z} {L : Nat} {m : j_M0} {x1 : Int} {x2 : Int} : j_fin C 226 4 [some (jR 109), some (jI x1), some (jI x2)] [] (hH L m) = if x2 < (m 109 21) then if 0 ≤ x2 ∧ x2 < 40 then if (m 150 x2.toNat) = 0 then j_fin C 226 4 [some (jR 109), some (jI x1), some (jI (w32 (x2 + 1)))] [] (hH L m) else if x1 < 0 then j_fin C 226 4 [some (jR 109), some (jI x2), some (jI (w32 (x2 + 1)))] [] (hH L m) else if 0 ≤ x2 ∧ x2 < 40 then if 0 ≤ x1 ∧ x1 < 40 then if 0 ≤ x1 ∧ x1 < 40 then if 0 ≤ x2 ∧ x2 < 40 then if (j_cmp (w64 ((m 148 x2.toNat) * (m 149 x1.toNat))) (w64 ((m 148 x1.toNat) * (m 149 x2.toNat)))) < 0 then j_fin C 226 4 [some (jR 109), some (jI x2), some (jI (w32 (x2 + 1)))] [] (hH L m) else j_fin C 226 4 [some (jR 109), some (jI x1), some (jI (w32 (x2 + 1)))] [] (hH L m) else none else none else none else none else none else some (some (jI x1), hH L m) := by
  refine (S_iload_n rfl at_226_4).trans ?_
  refine (S_aload_n rfl at_226_5).trans ?_
  refine (H_get0 (ka_109 L _) rfl at_226_6).trans ?_
  refine (S_icmp_ge at_226_9).trans ?_
  refine ite_congr rfl (fun _ => ?_) (fun _ => ?_)
  · refine (S_aload_n rfl at_226_12).trans ?_
    refine (S_getR (ka_109 L _) rfl (f_109_20 L _) at_226_13).trans ?_
    refine (S_iload_n rfl at_226_16).trans ?_
    refine (H_baload35 (ka_150 L _) at_226_17).trans ?_
    refine ite_congr rfl (fun hi => ?_) (fun _ => rfl)
    refine (S_if_eq at_226_18).trans ?_
    refine ite_congr rfl (fun _ => ?_) (fun _ => ?_)
    · refine (S_iinc (l1 := [some (jR 109), some (jI x1), some (jI (w32 (x2 + 1)))]) rfl rfl at_226_57).trans ?_
      refine (S_goto at_226_60).trans ?_
      rfl
    · refine (S_iload_n rfl at_226_21).trans ?_
      refine (S_if_lt at_226_22).trans ?_
      refine ite_congr rfl (fun _ => ?_) (fun _ => ?_)
      · refine (S_iload_n rfl at_226_55).trans ?_
        refine (S_istore_n (l1 := [some (jR 109), some (jI x2), some (jI x2)]) rfl at_226_56).trans ?_
        refine (S_iinc (l1 := [some (jR 109), some (jI x2), some (jI (w32 (x2 + 1)))]) rfl rfl at_226_57).trans ?_
        refine (S_goto at_226_60).trans ?_
        rfl
      · refine (S_aload_n rfl at_226_25).trans ?_
        refine (S_getR (ka_109 L _) rfl (f_109_18 L _) at_226_26).trans ?_
        refine (S_iload_n rfl at_226_29).trans ?_
        refine (H_laload (ka_148 L _) at_226_30).trans ?_
        refine ite_congr rfl (fun hi => ?_) (fun _ => rfl)
        refine (S_aload_n rfl at_226_31).trans ?_
        refine (S_getR (ka_109 L _) rfl (f_109_19 L _) at_226_32).trans ?_
        refine (S_iload_n rfl at_226_35).trans ?_
        refine (H_laload (ka_149 L _) at_226_36).trans ?_
        refine ite_congr rfl (fun hi => ?_) (fun _ => rfl)
        refine (S_lmul at_226_37).trans ?_
        refine (S_aload_n rfl at_226_38).trans ?_
        refine (S_getR (ka_109 L _) rfl (f_109_18 L _) at_226_39).trans ?_
        refine (S_iload_n rfl at_226_42).trans ?_
        refine (H_laload (ka_148 L _) at_226_43).trans ?_
        refine ite_congr rfl (fun hi => ?_) (fun _ => rfl)
        refine (S_aload_n rfl at_226_44).trans ?_
        refine (S_getR (ka_109 L _) rfl (f_109_19 L _) at_226_45).trans ?_
        refine (S_iload_n rfl at_226_48).trans ?_
        refine (H_laload (ka_149 L _) at_226_49).trans ?_
        refine ite_congr rfl (fun hi => ?_) (fun _ => rfl)
        refine (S_lmul at_226_50).trans ?_
        refine (S_lcmp at_226_51).trans ?_
        refine (S_if_ge at_226_52).trans ?_
        refine ite_congr rfl (fun _ => ?_) (fun _ => ?_)
        · refine (S_iload_n rfl at_226_55).trans ?_
          refine (S_istore_n (l1 := [some (jR 109), some (jI x2), some (jI x2)]) rfl at_226_56).trans ?_
          refine (S_iinc (l1 := [some (jR 109), some (jI x2), some (jI (w32 (x2 + 1)))]) rfl rfl at_226_57).trans ?_
          refine (S_goto at_226_60).trans ?_
          rfl
        · refine (S_iinc (l1 := [some (jR 109), some (jI x1), some (jI (w32 (x2 + 1)))]) rfl rfl at_226_57).trans ?_
          refine (S_goto at_226_60).trans ?_
          rfl
  · refine (S_iload_n rfl at_226_63).trans ?_
    exact S_ireti rfl at_226_64
theorem T227_0 {C : Nat → List j_V → j_H → Option j_Z} {L : Nat} {m : j_M0} {x1 : Int} : j_fin C 227 0 [some (jR 109), some (jI x1), none] [] (hH L m) = j_fin C 227 2 [some (jR 109), some (jI x1), some (jI 0)] [] (hH L m) := by
  refine (S_iconst at_227_0).trans ?_
  refine (S_istore_n (l1 := [some (jR 109), some (jI x1), some (jI 0)]) rfl at_227_1).trans ?_
  rfl
theorem T227_2 {C : Nat → List j_V → j_H → Option j_Z} {L : Nat} {m : j_M0} {x1 : Int} {x2 : Int} : j_fin C 227 2 [some (jR 109), some (jI x1), some (jI x2)] [] (hH L m) = (C 151 [jR 109] (hH L m)).bind fun z => j_fin C 227 7 [some (jR 109), some (jI x1), some (jI x2)] (z.1.toList ++ [jI x2]) z.2 := by
  refine (S_iload_n rfl at_227_2).trans ?_
  refine (S_aload_n rfl at_227_3).trans ?_
  refine (S_invv (b := 0) kn_151 rfl (ka_109 L _) (Nat.le_of_ble_eq_true rfl) at_227_4).trans ?_
  rfl
theorem T227_7 {C : Nat → List j_V → j_H → Option j_Z} {L : Nat} {m : j_M0} {x1 : Int} {x2 : Int} {s0 : Int} {s1 : Int} : j_fin C 227 7 [some (jR 109), some (jI x1), some (jI x2)] [jI s1, jI s0] (hH L m) = if s0 < s1 then if 0 ≤ (w32 ((w32 (5 * x1)) + x2)) ∧ (w32 ((w32 (5 * x1)) + x2)) < 200 then if 0 ≤ x1 ∧ x1 < 40 then if m 149 x1.toNat = 0 then none else if (j_cmp (Int.tmod (m 147 (w32 ((w32 (5 * x1)) + x2)).toNat) (m 149 x1.toNat)) 0) = 0 then j_fin C 227 2 [some (jR 109), some (jI x1), some (jI (w32 (x2 + 1)))] [] (hH L m) else some (some (jI x2), hH L m) else none else none else some (some (jI (-1)), hH L m) := by
  refine (S_icmp_ge at_227_7).trans ?_
  refine ite_congr rfl (fun _ => ?_) (fun _ => ?_)
  · refine (S_aload_n rfl at_227_10).trans ?_
    refine (S_getR (ka_109 L _) rfl (f_109_17 L _) at_227_11).trans ?_
    refine (S_iconst at_227_14).trans ?_
    refine (S_iload_n rfl at_227_15).trans ?_
    refine (S_imul at_227_16).trans ?_
    refine (S_iload_n rfl at_227_17).trans ?_
    refine (S_iadd at_227_18).trans ?_
    refine (H_laload (ka_147 L _) at_227_19).trans ?_
    refine ite_congr rfl (fun hi => ?_) (fun _ => rfl)
    refine (S_aload_n rfl at_227_20).trans ?_
    refine (S_getR (ka_109 L _) rfl (f_109_19 L _) at_227_21).trans ?_
    refine (S_iload_n rfl at_227_24).trans ?_
    refine (H_laload (ka_149 L _) at_227_25).trans ?_
    refine ite_congr rfl (fun hi => ?_) (fun _ => rfl)
    refine (S_lrem at_227_26).trans ?_
    refine ite_congr rfl (fun _ => rfl) (fun hz => ?_)
    refine (S_lconst at_227_27).trans ?_
    refine (S_lcmp at_227_28).trans ?_
    refine (S_if_eq at_227_29).trans ?_
    refine ite_congr rfl (fun _ => ?_) (fun _ => ?_)
    · refine (S_iinc (l1 := [some (jR 109), some (jI x1), some (jI (w32 (x2 + 1)))]) rfl rfl at_227_34).trans ?_
      refine (S_goto at_227_37).trans ?_
      rfl
    · refine (S_iload_n rfl at_227_32).trans ?_
      exact S_ireti rfl at_227_33
  · refine (S_iconst at_227_40).trans ?_
    exact S_ireti rfl at_227_41
theorem T228_0 {C : Nat → List j_V → j_H → Option j_Z} {L : Nat} {m : j_M0} : j_fin C 228 0 [some (jR 109), none, none, none, none] [] (hH L m) = (C 223 [jR 109, jI (-1), jI 0, jI 0, jI (-1)] (hH L (j_up (j_up m 109 21 0) 109 22 0))).bind fun z => j_fin C 228 18 [some (jR 109), none, none, none, none] (z.1.toList ++ []) z.2 := by
  refine (S_aload_n rfl at_228_0).trans ?_
  refine (S_iconst at_228_1).trans ?_
  refine (H_put0 (ka_109 L _) rfl at_228_2).trans ?_
  refine (S_aload_n rfl at_228_5).trans ?_
  refine (S_iconst at_228_6).trans ?_
  refine (H_put0 (ka_109 L _) rfl at_228_7).trans ?_
  refine (S_aload_n rfl at_228_10).trans ?_
  refine (S_iconst at_228_11).trans ?_
  refine (S_iconst at_228_12).trans ?_
  refine (S_iconst at_228_13).trans ?_
  refine (S_iconst at_228_14).trans ?_
  refine (S_invv (b := 4) kn_223 rfl (ka_109 L _) (Nat.le_of_ble_eq_true rfl) at_228_15).trans ?_
  rfl
theorem T228_18 {C : Nat → List j_V → j_H → Option j_Z} {L : Nat} {m : j_M0} {s0 : Int} : j_fin C 228 18 [some (jR 109), none, none, none, none] [jI s0] (hH L m) = j_fin C 228 19 [some (jR 109), some (jI s0), none, none, none] [] (hH L m) := by
  refine (S_istore_n (l1 := [some (jR 109), some (jI s0), none, none, none]) rfl at_228_18).trans ?_
  rfl
theorem T228_19 {C : Nat → List j_V → j_H → Option j_Z} {L : Nat} {m : j_M0} {x1 : Int} {o2 : Option j_V} {o3 : Option j_V} {o4 : Option j_V} : j_fin C 228 19 [some (jR 109), some (jI x1), o2, o3, o4] [] (hH L m) = if x1 = 1 then (C 226 [jR 109] (hH L m)).bind fun z => j_fin C 228 28 [some (jR 109), some (jI x1), o2, o3, o4] (z.1.toList ++ []) z.2 else some (some (jI x1), hH L m) := by
  refine (S_iload_n rfl at_228_19).trans ?_
  refine (S_iconst at_228_20).trans ?_
  refine (S_icmp_ne at_228_21).trans ?_
  refine ite_congr rfl (fun _ => ?_) (fun _ => ?_)
  · refine (S_aload_n rfl at_228_24).trans ?_
    refine (S_invv (b := 0) kn_226 rfl (ka_109 L _) (Nat.le_of_ble_eq_true rfl) at_228_25).trans ?_
    rfl
  · refine (S_iload_n rfl at_228_110).trans ?_
    exact S_ireti rfl at_228_111
theorem T228_28 {C : Nat → List j_V → j_H → Option j_Z} {L : Nat} {m : j_M0} {x1 : Int} {o2 : Option j_V} {o3 : Option j_V} {o4 : Option j_V} {s0 : Int} : j_fin C 228 28 [some (jR 109), some (jI x1), o2, o3, o4] [jI s0] (hH L m) = if s0 < 0 then some (some (jI (-5)), hH L m) else if 0 ≤ s0 ∧ s0 < 40 then (C 227 [jR 109, jI s0] (hH L (j_up (j_up m 150 s0.toNat 0) 109 23 s0))).bind fun z => j_fin C 228 53 [some (jR 109), some (jI x1), some (jI s0), o3, o4] (z.1.toList ++ []) z.2 else none := by
  refine (S_istore_n (l1 := [some (jR 109), some (jI x1), some (jI s0), o3, o4]) rfl at_228_28).trans ?_
  refine (S_iload_n rfl at_228_29).trans ?_
  refine (S_if_ge at_228_30).trans ?_
  refine ite_congr rfl (fun _ => ?_) (fun _ => ?_)
  · refine (S_bipush at_228_33).trans ?_
    exact S_ireti rfl at_228_35
  · refine (S_aload_n rfl at_228_36).trans ?_
    refine (S_getR (ka_109 L _) rfl (f_109_20 L _) at_228_37).trans ?_
    refine (S_iload_n rfl at_228_40).trans ?_
    refine (S_iconst at_228_41).trans ?_
    refine (H_bastore35 (by omega) (ka_150 L _) at_228_42).trans ?_
    refine ite_congr rfl (fun hi => ?_) (fun _ => rfl)
    refine (if_pos (by decide)).trans ?_
    refine (S_aload_n rfl at_228_43).trans ?_
    refine (S_iload_n rfl at_228_44).trans ?_
    refine (H_put0 (ka_109 L _) rfl at_228_45).trans ?_
    refine (S_aload_n rfl at_228_48).trans ?_
    refine (S_iload_n rfl at_228_49).trans ?_
    refine (S_invv (b := 1) kn_227 rfl (ka_109 L _) (Nat.le_of_ble_eq_true rfl) at_228_50).trans ?_
    rfl
theorem T228_53 {C : Nat → List j_V → j_H → Option j_Z} {L : Nat} {m : j_M0} {x1 : Int} {x2 : Int} {o3 : Option j_V} {o4 : Option j_V} {s0 : Int} : j_fin C 228 53 [some (jR 109), some (jI x1), some (jI x2), o3, o4] [jI s0] (hH L m) = if s0 < 0 then some (some (jI 1), hH L m) else if 0 ≤ (w32 ((w32 (5 * x2)) + s0)) ∧ (w32 ((w32 (5 * x2)) + s0)) < 200 then if 0 ≤ x2 ∧ x2 < 40 then if m 149 x2.toNat = 0 then none else (C 223 [jR 109, jI x2, jI s0, jI 0, jI (w32 (w64 (Int.tdiv (m 147 (w32 ((w32 (5 * x2)) + s0)).toNat) (m 149 x2.toNat))))] (hH L m)).bind fun z => j_fin C 228 89 [some (jR 109), some (jI x1), some (jI x2), some (jI s0), some (jI (w32 (w64 (Int.tdiv (m 147 (w32 ((w32 (5 * x2)) + s0)).toNat) (m 149 x2.toNat)))))] (z.1.toList ++ []) z.2 else none else none := by
  refine (S_istore_n (l1 := [some (jR 109), some (jI x1), some (jI x2), some (jI s0), o4]) rfl at_228_53).trans ?_
  refine (S_iload_n rfl at_228_54).trans ?_
  refine (S_if_ge at_228_55).trans ?_
  refine ite_congr rfl (fun _ => ?_) (fun _ => ?_)
  · refine (S_iconst at_228_58).trans ?_
    exact S_ireti rfl at_228_59
  · refine (S_aload_n rfl at_228_60).trans ?_
    refine (S_getR (ka_109 L _) rfl (f_109_17 L _) at_228_61).trans ?_
    refine (S_iconst at_228_64).trans ?_
    refine (S_iload_n rfl at_228_65).trans ?_
    refine (S_imul at_228_66).trans ?_
    refine (S_iload_n rfl at_228_67).trans ?_
    refine (S_iadd at_228_68).trans ?_
    refine (H_laload (ka_147 L _) at_228_69).trans ?_
    refine ite_congr rfl (fun hi => ?_) (fun _ => rfl)
    refine (S_aload_n rfl at_228_70).trans ?_
    refine (S_getR (ka_109 L _) rfl (f_109_19 L _) at_228_71).trans ?_
    refine (S_iload_n rfl at_228_74).trans ?_
    refine (H_laload (ka_149 L _) at_228_75).trans ?_
    refine ite_congr rfl (fun hi => ?_) (fun _ => rfl)
    refine (S_ldiv at_228_76).trans ?_
    refine ite_congr rfl (fun _ => rfl) (fun hz => ?_)
    refine (S_l2i at_228_77).trans ?_
    refine (S_istore (l1 := [some (jR 109), some (jI x1), some (jI x2), some (jI s0), some (jI (w32 (w64 (Int.tdiv (m 147 (w32 ((w32 (5 * x2)) + s0)).toNat) (m 149 x2.toNat)))))]) rfl at_228_78).trans ?_
    refine (S_aload_n rfl at_228_80).trans ?_
    refine (S_iload_n rfl at_228_81).trans ?_
    refine (S_iload_n rfl at_228_82).trans ?_
    refine (S_iconst at_228_83).trans ?_
    refine (S_iload rfl at_228_84).trans ?_
    refine (S_invv (b := 4) kn_223 rfl (ka_109 L _) (Nat.le_of_ble_eq_true rfl) at_228_86).trans ?_
    rfl
theorem T228_89 {C : Nat → List j_V → j_H → Option j_Z} {L : Nat} {m : j_M0} {x1 : Int} {x2 : Int} {x3 : Int} {x4 : Int} {s0 : Int} : j_fin C 228 89 [some (jR 109), some (jI x1), some (jI x2), some (jI x3), some (jI x4)] [jI s0] (hH L m) = if s0 = 1 then (C 223 [jR 109, jI x2, jI x3, jI (w32 (x4 + 1)), jI (-1)] (hH L m)).bind fun z => j_fin C 228 106 [some (jR 109), some (jI s0), some (jI x2), some (jI x3), some (jI x4)] (z.1.toList ++ []) z.2 else j_fin C 228 19 [some (jR 109), some (jI s0), some (jI x2), some (jI x3), some (jI x4)] [] (hH L m) := by
  refine (S_istore_n (l1 := [some (jR 109), some (jI s0), some (jI x2), some (jI x3), some (jI x4)]) rfl at_228_89).trans ?_
  refine (S_iload_n rfl at_228_90).trans ?_
  refine (S_iconst at_228_91).trans ?_
  refine (S_icmp_ne at_228_92).trans ?_
  refine ite_congr rfl (fun _ => ?_) (fun _ => ?_)
  · refine (S_aload_n rfl at_228_95).trans ?_
    refine (S_iload_n rfl at_228_96).trans ?_
    refine (S_iload_n rfl at_228_97).trans ?_
    refine (S_iload rfl at_228_98).trans ?_
    refine (S_iconst at_228_100).trans ?_
    refine (S_iadd at_228_101).trans ?_
    refine (S_iconst at_228_102).trans ?_
    refine (S_invv (b := 4) kn_223 rfl (ka_109 L _) (Nat.le_of_ble_eq_true rfl) at_228_103).trans ?_
    rfl
  · refine (S_goto at_228_107).trans ?_
    rfl
theorem T228_106 {C : Nat → List j_V → j_H → Option j_Z} {L : Nat} {m : j_M0} {x1 : Int} {x2 : Int} {x3 : Int} {x4 : Int} {s0 : Int} : j_fin C 228 106 [some (jR 109), some (jI x1), some (jI x2), some (jI x3), some (jI x4)] [jI s0] (hH L m) = j_fin C 228 19 [some (jR 109), some (jI s0), some (jI x2), some (jI x3), some (jI x4)] [] (hH L m) := by
  refine (S_istore_n (l1 := [some (jR 109), some (jI s0), some (jI x2), some (jI x3), some (jI x4)]) rfl at_228_106).trans ?_
  refine (S_goto at_228_107).trans ?_
  rfl
theorem T229_0 {C : Nat → List j_V → j_H → Option j_Z} {L : Nat} {m : j_M0} {x1 : Int} : j_fin C 229 0 [some (jR 109), some (jI x1), none] [] (hH L m) = (C 151 [jR 109] (hH L m)).bind fun z => j_fin C 229 8 [some (jR 109), some (jI x1), none] (z.1.toList ++ [jI 3, jL 0, jL x1]) z.2 := by
  refine (S_iload_n rfl at_229_0).trans ?_
  refine (S_i2l at_229_1).trans ?_
  refine (S_lconst at_229_2).trans ?_
  refine (S_iconst at_229_3).trans ?_
  refine (S_aload_n rfl at_229_4).trans ?_
  refine (S_invv (b := 0) kn_151 rfl (ka_109 L _) (Nat.le_of_ble_eq_true rfl) at_229_5).trans ?_
  rfl
theorem T229_8 {C : Nat → List j_V → j_H → Option j_Z} {L : Nat} {m : j_M0} {x1 : Int} {t0 : Int} {t1 : Int} {s2 : Int} {s3 : Int} : j_fin C 229 8 [some (jR 109), some (jI x1), none] [jI s3, jI s2, jL t1, jL t0] (hH L m) = (C 150 [jL t0, jL t1, jL (w32 (s2 + s3))] (hH L m)).bind fun z => j_fin C 229 13 [some (jR 109), some (jI x1), none] (z.1.toList ++ []) z.2 := by
  refine (S_iadd at_229_8).trans ?_
  refine (S_i2l at_229_9).trans ?_
  refine (S_invs (by decide) (Nat.le_of_ble_eq_true rfl) (Nat.le_of_ble_eq_true rfl) at_229_10).trans ?_
  rfl
theorem T229_13 {C : Nat → List j_V → j_H → Option j_Z} {L : Nat} {m : j_M0} {x1 : Int} {s0 : Int} : j_fin C 229 13 [some (jR 109), some (jI x1), none] [jI s0] (hH L m) = if s0 = 0 then some (some (jI (-1)), hH L m) else (C 228 [jR 109] (hH L m)).bind fun z => j_fin C 229 22 [some (jR 109), some (jI x1), none] (z.1.toList ++ []) z.2 := by
  refine (S_if_ne at_229_13).trans ?_
  refine ite_congr rfl (fun _ => ?_) (fun _ => ?_)
  · refine (S_iconst at_229_16).trans ?_
    exact S_ireti rfl at_229_17
  · refine (S_aload_n rfl at_229_18).trans ?_
    refine (S_invv (b := 0) kn_228 rfl (ka_109 L _) (Nat.le_of_ble_eq_true rfl) at_229_19).trans ?_
    rfl
theorem T229_22 {C : Nat → List j_V → j_H → Option j_Z} {L : Nat} {m : j_M0} {x1 : Int} {s0 : Int} : j_fin C 229 22 [some (jR 109), some (jI x1), none] [jI s0] (hH L m) = if x1 = 1 then some (some (jI (m 109 21)), hH L m) else if x1 = 3 then some (some (jI (m 109 22)), hH L m) else if s0 < 0 then some (some (jI s0), hH L m) else if x1 = 0 then if 0 ≤ (m 109 23) ∧ (m 109 23) < 40 then if 0 ≤ (m 109 23) ∧ (m 109 23) < 40 then if m 149 (m 109 23).toNat = 0 then none else some (some (jI (w32 (w64 (Int.tdiv (m 148 (m 109 23).toNat) (m 149 (m 109 23).toNat))))), hH L m) else none else none else if x1 = 2 then if 0 ≤ (m 109 23) ∧ (m 109 23) < 40 then some (some (jI (m 146 (m 109 23).toNat)), hH L m) else none else if 0 ≤ (w32 ((w32 ((w32 (5 * (m 109 23))) + x1)) - 4)) ∧ (w32 ((w32 ((w32 (5 * (m 109 23))) + x1)) - 4)) < 200 then if 0 ≤ (m 109 23) ∧ (m 109 23) < 40 then if m 149 (m 109 23).toNat = 0 then none else some (some (jI (w32 (w64 (Int.tdiv (m 147 (w32 ((w32 ((w32 (5 * (m 109 23))) + x1)) - 4)).toNat) (m 149 (m 109 23).toNat))))), hH L m) else none else none := by
  refine (S_istore_n (l1 := [some (jR 109), some (jI x1), some (jI s0)]) rfl at_229_22).trans ?_
  refine (S_iload_n rfl at_229_23).trans ?_
  refine (S_iconst at_229_24).trans ?_
  refine (S_icmp_ne at_229_25).trans ?_
  refine ite_congr rfl (fun _ => ?_) (fun _ => ?_)
  · refine (S_aload_n rfl at_229_28).trans ?_
    refine (H_get0 (ka_109 L _) rfl at_229_29).trans ?_
    exact S_ireti rfl at_229_32
  · refine (S_iload_n rfl at_229_33).trans ?_
    refine (S_iconst at_229_34).trans ?_
    refine (S_icmp_ne at_229_35).trans ?_
    refine ite_congr rfl (fun _ => ?_) (fun _ => ?_)
    · refine (S_aload_n rfl at_229_38).trans ?_
      refine (H_get0 (ka_109 L _) rfl at_229_39).trans ?_
      exact S_ireti rfl at_229_42
    · refine (S_iload_n rfl at_229_43).trans ?_
      refine (S_if_ge at_229_44).trans ?_
      refine ite_congr rfl (fun _ => ?_) (fun _ => ?_)
      · refine (S_iload_n rfl at_229_47).trans ?_
        exact S_ireti rfl at_229_48
      · refine (S_iload_n rfl at_229_49).trans ?_
        refine (S_if_ne at_229_50).trans ?_
        refine ite_congr rfl (fun _ => ?_) (fun _ => ?_)
        · refine (S_aload_n rfl at_229_53).trans ?_
          refine (S_getR (ka_109 L _) rfl (f_109_18 L _) at_229_54).trans ?_
          refine (S_aload_n rfl at_229_57).trans ?_
          refine (H_get0 (ka_109 L _) rfl at_229_58).trans ?_
          refine (H_laload (ka_148 L _) at_229_61).trans ?_
          refine ite_congr rfl (fun hi => ?_) (fun _ => rfl)
          refine (S_aload_n rfl at_229_62).trans ?_
          refine (S_getR (ka_109 L _) rfl (f_109_19 L _) at_229_63).trans ?_
          refine (S_aload_n rfl at_229_66).trans ?_
          refine (H_get0 (ka_109 L _) rfl at_229_67).trans ?_
          refine (H_laload (ka_149 L _) at_229_70).trans ?_
          refine ite_congr rfl (fun hi => ?_) (fun _ => rfl)
          refine (S_ldiv at_229_71).trans ?_
          refine ite_congr rfl (fun _ => rfl) (fun hz => ?_)
          refine (S_l2i at_229_72).trans ?_
          refine (S_goto at_229_73).trans ?_
          exact S_ireti rfl at_229_119
        · refine (S_iload_n rfl at_229_76).trans ?_
          refine (S_iconst at_229_77).trans ?_
          refine (S_icmp_ne at_229_78).trans ?_
          refine ite_congr rfl (fun _ => ?_) (fun _ => ?_)
          · refine (S_aload_n rfl at_229_81).trans ?_
            refine (S_getR (ka_109 L _) rfl (f_109_16 L _) at_229_82).trans ?_
            refine (S_aload_n rfl at_229_85).trans ?_
            refine (H_get0 (ka_109 L _) rfl at_229_86).trans ?_
            refine (H_iaload (ka_146 L _) at_229_89).trans ?_
            refine ite_congr rfl (fun hi => ?_) (fun _ => rfl)
            refine (S_goto at_229_90).trans ?_
            exact S_ireti rfl at_229_119
          · refine (S_aload_n rfl at_229_93).trans ?_
            refine (S_getR (ka_109 L _) rfl (f_109_17 L _) at_229_94).trans ?_
            refine (S_iconst at_229_97).trans ?_
            refine (S_aload_n rfl at_229_98).trans ?_
            refine (H_get0 (ka_109 L _) rfl at_229_99).trans ?_
            refine (S_imul at_229_102).trans ?_
            refine (S_iload_n rfl at_229_103).trans ?_
            refine (S_iadd at_229_104).trans ?_
            refine (S_iconst at_229_105).trans ?_
            refine (S_isub at_229_106).trans ?_
            refine (H_laload (ka_147 L _) at_229_107).trans ?_
            refine ite_congr rfl (fun hi => ?_) (fun _ => rfl)
            refine (S_aload_n rfl at_229_108).trans ?_
            refine (S_getR (ka_109 L _) rfl (f_109_19 L _) at_229_109).trans ?_
            refine (S_aload_n rfl at_229_112).trans ?_
            refine (H_get0 (ka_109 L _) rfl at_229_113).trans ?_
            refine (H_laload (ka_149 L _) at_229_116).trans ?_
            refine ite_congr rfl (fun hi => ?_) (fun _ => rfl)
            refine (S_ldiv at_229_117).trans ?_
            refine ite_congr rfl (fun _ => rfl) (fun hz => ?_)
            refine (S_l2i at_229_118).trans ?_
            exact S_ireti rfl at_229_119
theorem T230_0 {C : Nat → List j_V → j_H → Option j_Z} {L : Nat} {m : j_M0} {x1 : Int} {x2 : Int} : j_fin C 230 0 [some (jR 109), some (jI x1), some (jI x2), none, none, none] [] (hH L m) = if 0 ≤ (w32 ((w32 (12 + (w32 (7 * x1)))) + 1)) ∧ (w32 ((w32 (12 + (w32 (7 * x1)))) + 1)) < 150 then if 0 ≤ (w32 ((w32 (12 + (w32 (7 * x1)))) + 1)) ∧ (w32 ((w32 (12 + (w32 (7 * x1)))) + 1)) < 150 then (C 192 [jR 109] (hH L (j_up m 110 (w32 ((w32 (12 + (w32 (7 * x1)))) + 1)).toNat x2))).bind fun z => j_fin C 230 29 [some (jR 109), some (jI x1), some (jI x2), some (jI (w32 ((w32 (12 + (w32 (7 * x1)))) + 1))), some (jI (m 110 (w32 ((w32 (12 + (w32 (7 * x1)))) + 1)).toNat)), none] (z.1.toList ++ []) z.2 else none else none := by
  refine (S_bipush at_230_0).trans ?_
  refine (S_bipush at_230_2).trans ?_
  refine (S_iload_n rfl at_230_4).trans ?_
  refine (S_imul at_230_5).trans ?_
  refine (S_iadd at_230_6).trans ?_
  refine (S_iconst at_230_7).trans ?_
  refine (S_iadd at_230_8).trans ?_
  refine (S_istore_n (l1 := [some (jR 109), some (jI x1), some (jI x2), some (jI (w32 ((w32 (12 + (w32 (7 * x1)))) + 1))), none, none]) rfl at_230_9).trans ?_
  refine (S_aload_n rfl at_230_10).trans ?_
  refine (S_getR (ka_109 L _) rfl (f_109_0 L _) at_230_11).trans ?_
  refine (S_iload_n rfl at_230_14).trans ?_
  refine (H_iaload (ka_110 L _) at_230_15).trans ?_
  refine ite_congr rfl (fun hi => ?_) (fun _ => rfl)
  refine (S_istore (l1 := [some (jR 109), some (jI x1), some (jI x2), some (jI (w32 ((w32 (12 + (w32 (7 * x1)))) + 1))), some (jI (m 110 (w32 ((w32 (12 + (w32 (7 * x1)))) + 1)).toNat)), none]) rfl at_230_16).trans ?_
  refine (S_aload_n rfl at_230_18).trans ?_
  refine (S_getR (ka_109 L _) rfl (f_109_0 L _) at_230_19).trans ?_
  refine (S_iload_n rfl at_230_22).trans ?_
  refine (S_iload_n rfl at_230_23).trans ?_
  refine (H_iastore (by omega) (ka_110 L _) at_230_24).trans ?_
  refine ite_congr rfl (fun hi => ?_) (fun _ => rfl)
  refine (S_aload_n rfl at_230_25).trans ?_
  refine (S_invv (b := 0) kn_192 rfl (ka_109 L _) (Nat.le_of_ble_eq_true rfl) at_230_26).trans ?_
  rfl
theorem T230_29 {C : Nat → List j_V → j_H → Option j_Z} {L : Nat} {m : j_M0} {x1 : Int} {x2 : Int} {x3 : Int} {x4 : Int} {s0 : Int} : j_fin C 230 29 [some (jR 109), some (jI x1), some (jI x2), some (jI x3), some (jI x4), none] [jI s0] (hH L m) = if 0 ≤ x3 ∧ x3 < 150 then some (some (jI s0), hH L (j_up m 110 x3.toNat x4)) else none := by
  refine (S_istore (l1 := [some (jR 109), some (jI x1), some (jI x2), some (jI x3), some (jI x4), some (jI s0)]) rfl at_230_29).trans ?_
  refine (S_aload_n rfl at_230_31).trans ?_
  refine (S_getR (ka_109 L _) rfl (f_109_0 L _) at_230_32).trans ?_
  refine (S_iload_n rfl at_230_35).trans ?_
  refine (S_iload rfl at_230_36).trans ?_
  refine (H_iastore (by omega) (ka_110 L _) at_230_38).trans ?_
  refine ite_congr rfl (fun hi => ?_) (fun _ => rfl)
  refine (S_iload rfl at_230_39).trans ?_
  exact S_ireti rfl at_230_41
theorem T231_0 {C : Nat → List j_V → j_H → Option j_Z} {L : Nat} {m : j_M0} {x1 : Int} {x2 : Int} : j_fin C 231 0 [some (jR 109), some (jI x1), some (jI x2)] [] (hH L m) = (C 153 [jR 109, jI x1] (hH L m)).bind fun z => j_fin C 231 5 [some (jR 109), some (jI x1), some (jI x2)] (z.1.toList ++ []) z.2 := by
  refine (S_aload_n rfl at_231_0).trans ?_
  refine (S_iload_n rfl at_231_1).trans ?_
  refine (S_invv (b := 1) kn_153 rfl (ka_109 L _) (Nat.le_of_ble_eq_true rfl) at_231_2).trans ?_
  rfl
theorem T231_5 {C : Nat → List j_V → j_H → Option j_Z} {L : Nat} {m : j_M0} {x1 : Int} {x2 : Int} {s0 : Int} : j_fin C 231 5 [some (jR 109), some (jI x1), some (jI x2)] [jI s0] (hH L m) = if s0 = 0 then some (some (jI (-1)), hH L m) else (C 150 [jL x2, jL (-99), jL 999] (hH L m)).bind fun z => j_fin C 231 23 [some (jR 109), some (jI x1), some (jI x2)] (z.1.toList ++ []) z.2 := by
  refine (S_if_ne at_231_5).trans ?_
  refine ite_congr rfl (fun _ => ?_) (fun _ => ?_)
  · refine (S_iconst at_231_8).trans ?_
    refine (S_goto at_231_9).trans ?_
    exact S_ireti rfl at_231_37
  · refine (S_iload_n rfl at_231_12).trans ?_
    refine (S_i2l at_231_13).trans ?_
    refine (S_ldc2_w at_231_14).trans ?_
    refine (S_ldc2_w at_231_17).trans ?_
    refine (S_invs (by decide) (Nat.le_of_ble_eq_true rfl) (Nat.le_of_ble_eq_true rfl) at_231_20).trans ?_
    rfl
theorem T231_23 {C : Nat → List j_V → j_H → Option j_Z} {L : Nat} {m : j_M0} {x1 : Int} {x2 : Int} {s0 : Int} : j_fin C 231 23 [some (jR 109), some (jI x1), some (jI x2)] [jI s0] (hH L m) = if s0 = 0 then some (some (jI (-2)), hH L m) else (C 230 [jR 109, jI x1, jI x2] (hH L m)).bind fun z => j_fin C 231 32 [some (jR 109), some (jI x1), some (jI x2)] (z.1.toList ++ []) z.2 := by
  refine (S_if_eq at_231_23).trans ?_
  refine ite_congr rfl (fun _ => ?_) (fun _ => ?_)
  · refine (S_bipush at_231_35).trans ?_
    exact S_ireti rfl at_231_37
  · refine (S_aload_n rfl at_231_26).trans ?_
    refine (S_iload_n rfl at_231_27).trans ?_
    refine (S_iload_n rfl at_231_28).trans ?_
    refine (S_invv (b := 2) kn_230 rfl (ka_109 L _) (Nat.le_of_ble_eq_true rfl) at_231_29).trans ?_
    rfl
