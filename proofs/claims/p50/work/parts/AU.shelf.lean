/-! The law's walk: offers by what they cost (pc 998 to 1240). -/
/-- what stands of the class's shelf, by the law's own rows -/
def oS (n : Nat) (co : Nat → Int) (m : j_M0) (N : Nat) (a c : Nat → Int) : Prop := (∀ i : Nat, i < N → ∃ z : Nat, z < 100 ∧ m 10 i = z ∧ a z = m 12 i ∧ (0 ≤ m 12 i ∧ m 12 i ≤ 127) ∧ c z = m 11 i ∧ 0 ≤ m 11 i ∧ m 11 i ≤ 270) ∧ ∀ i j : Nat, i < j → j < N → lsO (m 11 i) (m 10 i) (m 11 j) (m 10 j)
theorem oS_of {xs : Nat → Int32} {n M N : Nat} {co g a c t : Nat → Int} {q : Option (Nat → Int)} {m : j_M0} (r : Rel xs g q t M m) (hN : lNk n co) (hD : lD n co 3 g) (h : oI n co g N a c) : oS n co m N a c := by
  obtain ⟨n', ox, of, -, e6⟩ := RQ_of r
  obtain ⟨h1, h2, h3⟩ := h
  obtain ⟨-, f2, f3, f4, f5⟩ := of
  simp only [Nat.reduceAdd] at f2 f3 f4 f5
  refine ⟨fun i hi => ?_, fun i j hij hj => f2 i j hij (by omega)⟩
  obtain ⟨k, k1, k2, k3⟩ := f4 i (by omega)
  obtain ⟨z, z1, z2, z3, z4, z5⟩ := h2 k (by omega)
  have e10 : m 10 i = z := k2.symm.trans z2
  have e12 : oA g k = m 12 i := k3
  have e11 : m 11 i = cvF co n z := by
    rw [f3 i (by omega), e10]
    exact cos_cv hN.1 hD.1 hD.2.2.2.2 z1
  have r127 : a z ≤ 127 := by
    rcases h3 z z1 with e | e
    · omega
    · exact e.2.1
  have cv := cv_r hN z1
  exact ⟨z, z1, e10, z3.trans e12, by omega, z5.trans e11.symm, by omega, by omega⟩
/-- behind k offers: the last, the best -/
def oT (m : j_M0) (k : Nat) (last best : Int) : Prop := (k = 0 ∧ last = -1 ∧ best = -1) ∨ (0 < k ∧ last = m 10 (k - 1) ∧ ∃ b : Nat, b < k ∧ best = m 10 b ∧ deC (m 11) (m 12) k = b)
set_option maxHeartbeats 1000000 in
theorem L_1007 {Ls : Nat} {xs : Nat → Int32} {A n N M Ka Kc : Nat} {Q : Int} {co g a c t : Nat → Int} {q : Option (Nat → Int)} {B : j_B} {m : j_M0} {d14 d15 : Option j_V} (n14 : nL d14) (n15 : nL d15) (r : Rel xs g q t M m) (h6 : g 6 = N) (hN8 : N ≤ 8) (cK : aI (hH B m) Ka 100 a) (cC : aI (hH B m) Kc 100 c) (hS : oS n co m N a c) : ∀ (j k : Nat), k + j = N → ∀ (last best : Int) (d13 : Option j_V), nL d13 → oT m k last best → (∀ (last best : Int) (d13 : Option j_V), nL d13 → oT m N last best → lG Ls (j_fin (c_call 10) 271 1170 [some (jR 0), some (jR 2), some (jI Q), some (jI (n : Int)), some (jI 1), some (jR A), some (jI 3), some (jR Ka), some (jI (N : Int)), some (jR Kc), some (jI last), some (jI best), some (jI (N : Int)), d13, d14, d15, none, none, none, none, none, none] [] (hH B m))) → lG Ls (j_fin (c_call 10) 271 1007 [some (jR 0), some (jR 2), some (jI Q), some (jI (n : Int)), some (jI 1), some (jR A), some (jI 3), some (jR Ka), some (jI (N : Int)), some (jR Kc), some (jI last), some (jI best), some (jI (k : Int)), d13, d14, d15, none, none, none, none, none, none] [] (hH B m)) := by
  intro j
  induction j with
  | zero =>
    intro k hk last best d13 n13 hT K
    obtain rfl : k = N := by omega
    have K1 := K last best d13 n13 hT
    refine gS (S_iload rfl at_271_1007) ?_
    refine gS (S_iload rfl at_271_1009) ?_
    refine gS (S_icmp_ge at_271_1011) ?_
    refine gS (if_neg (by omega)) ?_
    exact K1
  | succ j ih =>
    intro k hk last best d13 n13 hT K
    obtain ⟨z, z1, z2, z3, z4, z5, z6, z7⟩ := hS.1 k (by omega)
    obtain ⟨e0, e1, e2⟩ := PB122 (L := B) r h6 (p := k) (by omega)
    obtain ⟨ak, hak⟩ : ∃ ak, m 12 k = ak := ⟨_, rfl⟩
    obtain ⟨cs, hcs⟩ : ∃ cs, m 11 k = cs := ⟨_, rfl⟩
    rw [z2] at e0
    rw [hak] at e1 z3 z4
    rw [hcs] at e2 z5 z6 z7
    have za : (hH B m).2.2 Ka z = ak := (cK.2 z z1).trans z3
    have zc : (hH B m).2.2 Kc z = cs := (cC.2 z z1).trans z5
    rcases hT with ⟨rfl, rfl, rfl⟩ | ⟨hk0, hl, b, b1, b2, b3⟩
    · have K1 := ih 1 (by omega) (z : Int) (z : Int) (some (jI (z : Int))) (nL_i _) (Or.inr ⟨Nat.one_pos, z2.symm, 0, Nat.one_pos, z2.symm, rfl⟩) K
      refine gS (S_iload rfl at_271_1007) ?_
      refine gS (S_iload rfl at_271_1009) ?_
      refine gS (S_icmp_ge at_271_1011) ?_
      refine gS (if_pos (by omega)) ?_
      refine gS (S_aload_n rfl at_271_1014) ?_
      refine gS (S_iload rfl at_271_1015) ?_
      refine gS (S_iconst at_271_1017) ?_
      refine gS (S_invv (b := 2) (by decide) kn_122 rfl (kd_2 B m) (Nat.le_of_ble_eq_true rfl) at_271_1018) ?_
      show lG Ls (((c_call 10) 122 [jR 2, jI ((0 : Nat) : Int), jI 0] (hH B m)).bind _)
      rw [e0]
      show lG Ls (j_fin (c_call 10) 271 1021 [some (jR 0), some (jR 2), some (jI Q), some (jI (n : Int)), some (jI 1), some (jR A), some (jI 3), some (jR Ka), some (jI (N : Int)), some (jR Kc), some (jI (-1)), some (jI (-1)), some (jI ((0 : Nat) : Int)), d13, d14, d15, none, none, none, none, none, none] [jI (z : Int)] (hH B m))
      refine gS (S_istore (l1 := [some (jR 0), some (jR 2), some (jI Q), some (jI (n : Int)), some (jI 1), some (jR A), some (jI 3), some (jR Ka), some (jI (N : Int)), some (jR Kc), some (jI (-1)), some (jI (-1)), some (jI ((0 : Nat) : Int)), some (jI (z : Int)), d14, d15, none, none, none, none, none, none]) rfl at_271_1021) ?_
      refine gS (S_iload rfl at_271_1023) ?_
      refine gS (S_iload rfl at_271_1025) ?_
      refine gS (S_if_lt at_271_1027) ?_
      refine gS (if_neg (by omega)) ?_
      refine gS (S_iload rfl at_271_1030) ?_
      refine gS (S_bipush at_271_1032) ?_
      refine gS (S_icmp_ge at_271_1034) ?_
      refine gS (if_pos (by omega)) ?_
      refine gS (S_aload rfl at_271_1037) ?_
      refine gS (S_iload rfl at_271_1039) ?_
      refine gS (S_iaload (aI_1 cK) at_271_1041) ?_
      refine gS (if_pos ⟨by omega, by omega⟩) ?_
      rw [show (hH B m).2.2 Ka (z : Int).toNat = ak from za]
      refine gS (S_if_lt at_271_1042) ?_
      refine gS (if_neg (by omega)) ?_
      refine gS (S_aload_n rfl at_271_1045) ?_
      refine gS (S_iload rfl at_271_1046) ?_
      refine gS (S_iconst at_271_1048) ?_
      refine gS (S_invv (b := 2) (by decide) kn_122 rfl (kd_2 B m) (Nat.le_of_ble_eq_true rfl) at_271_1049) ?_
      show lG Ls (((c_call 10) 122 [jR 2, jI ((0 : Nat) : Int), jI 1] (hH B m)).bind _)
      rw [e1]
      show lG Ls (j_fin (c_call 10) 271 1052 [some (jR 0), some (jR 2), some (jI Q), some (jI (n : Int)), some (jI 1), some (jR A), some (jI 3), some (jR Ka), some (jI (N : Int)), some (jR Kc), some (jI (-1)), some (jI (-1)), some (jI ((0 : Nat) : Int)), some (jI (z : Int)), d14, d15, none, none, none, none, none, none] [jI ak, jI 1] (hH B m))
      refine gS (S_aload rfl at_271_1052) ?_
      refine gS (S_iload rfl at_271_1054) ?_
      refine gS (S_iaload (aI_1 cK) at_271_1056) ?_
      refine gS (if_pos ⟨by omega, by omega⟩) ?_
      rw [show (hH B m).2.2 Ka (z : Int).toNat = ak from za]
      refine gS (S_icmp_ne at_271_1057) ?_
      refine gS (if_pos rfl) ?_
      refine gS (S_aload_n rfl at_271_1060) ?_
      refine gS (S_iload rfl at_271_1061) ?_
      refine gS (S_iconst at_271_1063) ?_
      refine gS (S_invv (b := 2) (by decide) kn_122 rfl (kd_2 B m) (Nat.le_of_ble_eq_true rfl) at_271_1064) ?_
      show lG Ls (((c_call 10) 122 [jR 2, jI ((0 : Nat) : Int), jI 2] (hH B m)).bind _)
      rw [e2]
      show lG Ls (j_fin (c_call 10) 271 1067 [some (jR 0), some (jR 2), some (jI Q), some (jI (n : Int)), some (jI 1), some (jR A), some (jI 3), some (jR Ka), some (jI (N : Int)), some (jR Kc), some (jI (-1)), some (jI (-1)), some (jI ((0 : Nat) : Int)), some (jI (z : Int)), d14, d15, none, none, none, none, none, none] [jI cs, jI 1] (hH B m))
      refine gS (S_aload rfl at_271_1067) ?_
      refine gS (S_iload rfl at_271_1069) ?_
      refine gS (S_iaload (aI_1 cC) at_271_1071) ?_
      refine gS (if_pos ⟨by omega, by omega⟩) ?_
      rw [show (hH B m).2.2 Kc (z : Int).toNat = cs from zc]
      refine gS (S_icmp_ne at_271_1072) ?_
      refine gS (if_pos rfl) ?_
      refine gS (S_iload rfl at_271_1075) ?_
      refine gS (S_if_lt at_271_1077) ?_
      refine gS (if_pos (by decide)) ?_
      refine gS (S_iconst at_271_1113) ?_
      refine gS (S_goto at_271_1114) ?_
      refine gS (S_iand at_271_1118) ?_
      rw [j_and11]
      refine gS (S_istore (l1 := [some (jR 0), some (jR 2), some (jI Q), some (jI (n : Int)), some (jI 1), some (jR A), some (jI 3), some (jR Ka), some (jI (N : Int)), some (jR Kc), some (jI (-1)), some (jI (-1)), some (jI ((0 : Nat) : Int)), some (jI (z : Int)), d14, d15, none, none, none, none, none, none]) rfl at_271_1119) ?_
      refine gS (S_iload rfl at_271_1121) ?_
      refine gS (S_if_lt at_271_1123) ?_
      refine gS (if_pos (by decide)) ?_
      refine gS (S_iload rfl at_271_1151) ?_
      refine gS (S_goto at_271_1153) ?_
      refine gS (S_istore (l1 := [some (jR 0), some (jR 2), some (jI Q), some (jI (n : Int)), some (jI 1), some (jR A), some (jI 3), some (jR Ka), some (jI (N : Int)), some (jR Kc), some (jI (-1)), some (jI (z : Int)), some (jI ((0 : Nat) : Int)), some (jI (z : Int)), d14, d15, none, none, none, none, none, none]) rfl at_271_1158) ?_
      refine gS (S_iload rfl at_271_1160) ?_
      refine gS (S_istore (l1 := [some (jR 0), some (jR 2), some (jI Q), some (jI (n : Int)), some (jI 1), some (jR A), some (jI 3), some (jR Ka), some (jI (N : Int)), some (jR Kc), some (jI (z : Int)), some (jI (z : Int)), some (jI ((0 : Nat) : Int)), some (jI (z : Int)), d14, d15, none, none, none, none, none, none]) rfl at_271_1162) ?_
      refine gS (S_iinc (l1 := [some (jR 0), some (jR 2), some (jI Q), some (jI (n : Int)), some (jI 1), some (jR A), some (jI 3), some (jR Ka), some (jI (N : Int)), some (jR Kc), some (jI (z : Int)), some (jI (z : Int)), some (jI (w32 (((0 : Nat) : Int) + 1))), some (jI (z : Int)), d14, d15, none, none, none, none, none, none]) rfl rfl at_271_1164) ?_
      rw [show w32 (((0 : Nat) : Int) + 1) = ((0 + 1 : Nat) : Int) from nat1 (by omega)]
      refine gS (S_goto at_271_1167) ?_
      exact K1
    · obtain ⟨y, y1, y2, y3, y4, y5, y6, y7⟩ := hS.1 (k - 1) (by omega)
      obtain ⟨zb, bb1, bb2, bb3, bb4, bb5, bb6, bb7⟩ := hS.1 b (by omega)
      have ls := hS.2 (k - 1) k (by omega) (by omega)
      obtain ⟨csl, hcsl⟩ : ∃ csl, m 11 (k - 1) = csl := ⟨_, rfl⟩
      obtain ⟨akb, hakb⟩ : ∃ akb, m 12 b = akb := ⟨_, rfl⟩
      obtain ⟨csb, hcsb⟩ : ∃ csb, m 11 b = csb := ⟨_, rfl⟩
      have yc : (hH B m).2.2 Kc y = csl := (cC.2 y y1).trans (y5.trans hcsl)
      have ba : (hH B m).2.2 Ka zb = akb := (cK.2 zb bb1).trans (bb3.trans hakb)
      have bc : (hH B m).2.2 Kc zb = csb := (cC.2 zb bb1).trans (bb5.trans hcsb)
      unfold lsO at ls
      rw [hcsl, hcs, y2, z2] at ls
      rw [y2] at hl
      rw [bb2] at b2
      subst hl
      subst b2
      have bb2' := bb2.symm
      by_cases hlt : csl < cs
      · by_cases hb : akb - csb < ak - cs
        · skip
          have K1 := ih (k + 1) (by omega) (z : Int) (z : Int) (some (jI (z : Int))) (nL_i _) (Or.inr ⟨Nat.succ_pos k, by rw [show k + 1 - 1 = k by omega]; exact z2.symm, k, by omega, z2.symm, (if_neg (by omega)).trans (if_pos (by rw [b3, Int.toNat_natCast]; omega))⟩) K
          refine gS (S_iload rfl at_271_1007) ?_
          refine gS (S_iload rfl at_271_1009) ?_
          refine gS (S_icmp_ge at_271_1011) ?_
          refine gS (if_pos (by omega)) ?_
          refine gS (S_aload_n rfl at_271_1014) ?_
          refine gS (S_iload rfl at_271_1015) ?_
          refine gS (S_iconst at_271_1017) ?_
          refine gS (S_invv (b := 2) (by decide) kn_122 rfl (kd_2 B m) (Nat.le_of_ble_eq_true rfl) at_271_1018) ?_
          show lG Ls (((c_call 10) 122 [jR 2, jI (k : Int), jI 0] (hH B m)).bind _)
          rw [e0]
          show lG Ls (j_fin (c_call 10) 271 1021 [some (jR 0), some (jR 2), some (jI Q), some (jI (n : Int)), some (jI 1), some (jR A), some (jI 3), some (jR Ka), some (jI (N : Int)), some (jR Kc), some (jI (y : Int)), some (jI (zb : Int)), some (jI (k : Int)), d13, d14, d15, none, none, none, none, none, none] [jI (z : Int)] (hH B m))
          refine gS (S_istore (l1 := [some (jR 0), some (jR 2), some (jI Q), some (jI (n : Int)), some (jI 1), some (jR A), some (jI 3), some (jR Ka), some (jI (N : Int)), some (jR Kc), some (jI (y : Int)), some (jI (zb : Int)), some (jI (k : Int)), some (jI (z : Int)), d14, d15, none, none, none, none, none, none]) rfl at_271_1021) ?_
          refine gS (S_iload rfl at_271_1023) ?_
          refine gS (S_iload rfl at_271_1025) ?_
          refine gS (S_if_lt at_271_1027) ?_
          refine gS (if_neg (by omega)) ?_
          refine gS (S_iload rfl at_271_1030) ?_
          refine gS (S_bipush at_271_1032) ?_
          refine gS (S_icmp_ge at_271_1034) ?_
          refine gS (if_pos (by omega)) ?_
          refine gS (S_aload rfl at_271_1037) ?_
          refine gS (S_iload rfl at_271_1039) ?_
          refine gS (S_iaload (aI_1 cK) at_271_1041) ?_
          refine gS (if_pos ⟨by omega, by omega⟩) ?_
          rw [show (hH B m).2.2 Ka (z : Int).toNat = ak from za]
          refine gS (S_if_lt at_271_1042) ?_
          refine gS (if_neg (by omega)) ?_
          refine gS (S_aload_n rfl at_271_1045) ?_
          refine gS (S_iload rfl at_271_1046) ?_
          refine gS (S_iconst at_271_1048) ?_
          refine gS (S_invv (b := 2) (by decide) kn_122 rfl (kd_2 B m) (Nat.le_of_ble_eq_true rfl) at_271_1049) ?_
          show lG Ls (((c_call 10) 122 [jR 2, jI (k : Int), jI 1] (hH B m)).bind _)
          rw [e1]
          show lG Ls (j_fin (c_call 10) 271 1052 [some (jR 0), some (jR 2), some (jI Q), some (jI (n : Int)), some (jI 1), some (jR A), some (jI 3), some (jR Ka), some (jI (N : Int)), some (jR Kc), some (jI (y : Int)), some (jI (zb : Int)), some (jI (k : Int)), some (jI (z : Int)), d14, d15, none, none, none, none, none, none] [jI ak, jI 1] (hH B m))
          refine gS (S_aload rfl at_271_1052) ?_
          refine gS (S_iload rfl at_271_1054) ?_
          refine gS (S_iaload (aI_1 cK) at_271_1056) ?_
          refine gS (if_pos ⟨by omega, by omega⟩) ?_
          rw [show (hH B m).2.2 Ka (z : Int).toNat = ak from za]
          refine gS (S_icmp_ne at_271_1057) ?_
          refine gS (if_pos rfl) ?_
          refine gS (S_aload_n rfl at_271_1060) ?_
          refine gS (S_iload rfl at_271_1061) ?_
          refine gS (S_iconst at_271_1063) ?_
          refine gS (S_invv (b := 2) (by decide) kn_122 rfl (kd_2 B m) (Nat.le_of_ble_eq_true rfl) at_271_1064) ?_
          show lG Ls (((c_call 10) 122 [jR 2, jI (k : Int), jI 2] (hH B m)).bind _)
          rw [e2]
          show lG Ls (j_fin (c_call 10) 271 1067 [some (jR 0), some (jR 2), some (jI Q), some (jI (n : Int)), some (jI 1), some (jR A), some (jI 3), some (jR Ka), some (jI (N : Int)), some (jR Kc), some (jI (y : Int)), some (jI (zb : Int)), some (jI (k : Int)), some (jI (z : Int)), d14, d15, none, none, none, none, none, none] [jI cs, jI 1] (hH B m))
          refine gS (S_aload rfl at_271_1067) ?_
          refine gS (S_iload rfl at_271_1069) ?_
          refine gS (S_iaload (aI_1 cC) at_271_1071) ?_
          refine gS (if_pos ⟨by omega, by omega⟩) ?_
          rw [show (hH B m).2.2 Kc (z : Int).toNat = cs from zc]
          refine gS (S_icmp_ne at_271_1072) ?_
          refine gS (if_pos rfl) ?_
          refine gS (S_iload rfl at_271_1075) ?_
          refine gS (S_if_lt at_271_1077) ?_
          refine gS (if_neg (by omega)) ?_
          refine gS (S_aload rfl at_271_1080) ?_
          refine gS (S_iload rfl at_271_1082) ?_
          refine gS (S_iaload (aI_1 cC) at_271_1084) ?_
          refine gS (if_pos ⟨by omega, by omega⟩) ?_
          rw [show (hH B m).2.2 Kc (y : Int).toNat = csl from yc]
          refine gS (S_aload rfl at_271_1085) ?_
          refine gS (S_iload rfl at_271_1087) ?_
          refine gS (S_iaload (aI_1 cC) at_271_1089) ?_
          refine gS (if_pos ⟨by omega, by omega⟩) ?_
          rw [show (hH B m).2.2 Kc (z : Int).toNat = cs from zc]
          refine gS (S_icmp_lt at_271_1090) ?_
          refine gS (if_pos hlt) ?_
          refine gS (S_iconst at_271_1113) ?_
          refine gS (S_goto at_271_1114) ?_
          refine gS (S_iand at_271_1118) ?_
          rw [j_and11]
          refine gS (S_istore (l1 := [some (jR 0), some (jR 2), some (jI Q), some (jI (n : Int)), some (jI 1), some (jR A), some (jI 3), some (jR Ka), some (jI (N : Int)), some (jR Kc), some (jI (y : Int)), some (jI (zb : Int)), some (jI (k : Int)), some (jI (z : Int)), d14, d15, none, none, none, none, none, none]) rfl at_271_1119) ?_
          refine gS (S_iload rfl at_271_1121) ?_
          refine gS (S_if_lt at_271_1123) ?_
          refine gS (if_neg (by omega)) ?_
          refine gS (S_aload rfl at_271_1126) ?_
          refine gS (S_iload rfl at_271_1128) ?_
          refine gS (S_iaload (aI_1 cK) at_271_1130) ?_
          refine gS (if_pos ⟨by omega, by omega⟩) ?_
          rw [show (hH B m).2.2 Ka (z : Int).toNat = ak from za]
          refine gS (S_aload rfl at_271_1131) ?_
          refine gS (S_iload rfl at_271_1133) ?_
          refine gS (S_iaload (aI_1 cC) at_271_1135) ?_
          refine gS (if_pos ⟨by omega, by omega⟩) ?_
          rw [show (hH B m).2.2 Kc (z : Int).toNat = cs from zc]
          refine gS (S_isub at_271_1136) ?_
          rw [show w32 (ak - cs) = ak - cs from w32_id (by omega) (by omega)]
          refine gS (S_aload rfl at_271_1137) ?_
          refine gS (S_iload rfl at_271_1139) ?_
          refine gS (S_iaload (aI_1 cK) at_271_1141) ?_
          refine gS (if_pos ⟨by omega, by omega⟩) ?_
          rw [show (hH B m).2.2 Ka (zb : Int).toNat = akb from ba]
          refine gS (S_aload rfl at_271_1142) ?_
          refine gS (S_iload rfl at_271_1144) ?_
          refine gS (S_iaload (aI_1 cC) at_271_1146) ?_
          refine gS (if_pos ⟨by omega, by omega⟩) ?_
          rw [show (hH B m).2.2 Kc (zb : Int).toNat = csb from bc]
          refine gS (S_isub at_271_1147) ?_
          rw [show w32 (akb - csb) = akb - csb from w32_id (by omega) (by omega)]
          refine gS (S_icmp_le at_271_1148) ?_
          refine gS (if_pos hb) ?_
          refine gS (S_iload rfl at_271_1151) ?_
          refine gS (S_goto at_271_1153) ?_
          refine gS (S_istore (l1 := [some (jR 0), some (jR 2), some (jI Q), some (jI (n : Int)), some (jI 1), some (jR A), some (jI 3), some (jR Ka), some (jI (N : Int)), some (jR Kc), some (jI (y : Int)), some (jI (z : Int)), some (jI (k : Int)), some (jI (z : Int)), d14, d15, none, none, none, none, none, none]) rfl at_271_1158) ?_
          refine gS (S_iload rfl at_271_1160) ?_
          refine gS (S_istore (l1 := [some (jR 0), some (jR 2), some (jI Q), some (jI (n : Int)), some (jI 1), some (jR A), some (jI 3), some (jR Ka), some (jI (N : Int)), some (jR Kc), some (jI (z : Int)), some (jI (z : Int)), some (jI (k : Int)), some (jI (z : Int)), d14, d15, none, none, none, none, none, none]) rfl at_271_1162) ?_
          refine gS (S_iinc (l1 := [some (jR 0), some (jR 2), some (jI Q), some (jI (n : Int)), some (jI 1), some (jR A), some (jI 3), some (jR Ka), some (jI (N : Int)), some (jR Kc), some (jI (z : Int)), some (jI (z : Int)), some (jI (w32 ((k : Int) + 1))), some (jI (z : Int)), d14, d15, none, none, none, none, none, none]) rfl rfl at_271_1164) ?_
          rw [show w32 ((k : Int) + 1) = ((k + 1 : Nat) : Int) from nat1 (by omega)]
          refine gS (S_goto at_271_1167) ?_
          exact K1
        · skip
          have K1 := ih (k + 1) (by omega) (z : Int) (zb : Int) (some (jI (z : Int))) (nL_i _) (Or.inr ⟨Nat.succ_pos k, by rw [show k + 1 - 1 = k by omega]; exact z2.symm, b, by omega, bb2.symm, (if_neg (by omega)).trans ((if_neg (by rw [b3, Int.toNat_natCast]; omega)).trans b3)⟩) K
          refine gS (S_iload rfl at_271_1007) ?_
          refine gS (S_iload rfl at_271_1009) ?_
          refine gS (S_icmp_ge at_271_1011) ?_
          refine gS (if_pos (by omega)) ?_
          refine gS (S_aload_n rfl at_271_1014) ?_
          refine gS (S_iload rfl at_271_1015) ?_
          refine gS (S_iconst at_271_1017) ?_
          refine gS (S_invv (b := 2) (by decide) kn_122 rfl (kd_2 B m) (Nat.le_of_ble_eq_true rfl) at_271_1018) ?_
          show lG Ls (((c_call 10) 122 [jR 2, jI (k : Int), jI 0] (hH B m)).bind _)
          rw [e0]
          show lG Ls (j_fin (c_call 10) 271 1021 [some (jR 0), some (jR 2), some (jI Q), some (jI (n : Int)), some (jI 1), some (jR A), some (jI 3), some (jR Ka), some (jI (N : Int)), some (jR Kc), some (jI (y : Int)), some (jI (zb : Int)), some (jI (k : Int)), d13, d14, d15, none, none, none, none, none, none] [jI (z : Int)] (hH B m))
          refine gS (S_istore (l1 := [some (jR 0), some (jR 2), some (jI Q), some (jI (n : Int)), some (jI 1), some (jR A), some (jI 3), some (jR Ka), some (jI (N : Int)), some (jR Kc), some (jI (y : Int)), some (jI (zb : Int)), some (jI (k : Int)), some (jI (z : Int)), d14, d15, none, none, none, none, none, none]) rfl at_271_1021) ?_
          refine gS (S_iload rfl at_271_1023) ?_
          refine gS (S_iload rfl at_271_1025) ?_
          refine gS (S_if_lt at_271_1027) ?_
          refine gS (if_neg (by omega)) ?_
          refine gS (S_iload rfl at_271_1030) ?_
          refine gS (S_bipush at_271_1032) ?_
          refine gS (S_icmp_ge at_271_1034) ?_
          refine gS (if_pos (by omega)) ?_
          refine gS (S_aload rfl at_271_1037) ?_
          refine gS (S_iload rfl at_271_1039) ?_
          refine gS (S_iaload (aI_1 cK) at_271_1041) ?_
          refine gS (if_pos ⟨by omega, by omega⟩) ?_
          rw [show (hH B m).2.2 Ka (z : Int).toNat = ak from za]
          refine gS (S_if_lt at_271_1042) ?_
          refine gS (if_neg (by omega)) ?_
          refine gS (S_aload_n rfl at_271_1045) ?_
          refine gS (S_iload rfl at_271_1046) ?_
          refine gS (S_iconst at_271_1048) ?_
          refine gS (S_invv (b := 2) (by decide) kn_122 rfl (kd_2 B m) (Nat.le_of_ble_eq_true rfl) at_271_1049) ?_
          show lG Ls (((c_call 10) 122 [jR 2, jI (k : Int), jI 1] (hH B m)).bind _)
          rw [e1]
          show lG Ls (j_fin (c_call 10) 271 1052 [some (jR 0), some (jR 2), some (jI Q), some (jI (n : Int)), some (jI 1), some (jR A), some (jI 3), some (jR Ka), some (jI (N : Int)), some (jR Kc), some (jI (y : Int)), some (jI (zb : Int)), some (jI (k : Int)), some (jI (z : Int)), d14, d15, none, none, none, none, none, none] [jI ak, jI 1] (hH B m))
          refine gS (S_aload rfl at_271_1052) ?_
          refine gS (S_iload rfl at_271_1054) ?_
          refine gS (S_iaload (aI_1 cK) at_271_1056) ?_
          refine gS (if_pos ⟨by omega, by omega⟩) ?_
          rw [show (hH B m).2.2 Ka (z : Int).toNat = ak from za]
          refine gS (S_icmp_ne at_271_1057) ?_
          refine gS (if_pos rfl) ?_
          refine gS (S_aload_n rfl at_271_1060) ?_
          refine gS (S_iload rfl at_271_1061) ?_
          refine gS (S_iconst at_271_1063) ?_
          refine gS (S_invv (b := 2) (by decide) kn_122 rfl (kd_2 B m) (Nat.le_of_ble_eq_true rfl) at_271_1064) ?_
          show lG Ls (((c_call 10) 122 [jR 2, jI (k : Int), jI 2] (hH B m)).bind _)
          rw [e2]
          show lG Ls (j_fin (c_call 10) 271 1067 [some (jR 0), some (jR 2), some (jI Q), some (jI (n : Int)), some (jI 1), some (jR A), some (jI 3), some (jR Ka), some (jI (N : Int)), some (jR Kc), some (jI (y : Int)), some (jI (zb : Int)), some (jI (k : Int)), some (jI (z : Int)), d14, d15, none, none, none, none, none, none] [jI cs, jI 1] (hH B m))
          refine gS (S_aload rfl at_271_1067) ?_
          refine gS (S_iload rfl at_271_1069) ?_
          refine gS (S_iaload (aI_1 cC) at_271_1071) ?_
          refine gS (if_pos ⟨by omega, by omega⟩) ?_
          rw [show (hH B m).2.2 Kc (z : Int).toNat = cs from zc]
          refine gS (S_icmp_ne at_271_1072) ?_
          refine gS (if_pos rfl) ?_
          refine gS (S_iload rfl at_271_1075) ?_
          refine gS (S_if_lt at_271_1077) ?_
          refine gS (if_neg (by omega)) ?_
          refine gS (S_aload rfl at_271_1080) ?_
          refine gS (S_iload rfl at_271_1082) ?_
          refine gS (S_iaload (aI_1 cC) at_271_1084) ?_
          refine gS (if_pos ⟨by omega, by omega⟩) ?_
          rw [show (hH B m).2.2 Kc (y : Int).toNat = csl from yc]
          refine gS (S_aload rfl at_271_1085) ?_
          refine gS (S_iload rfl at_271_1087) ?_
          refine gS (S_iaload (aI_1 cC) at_271_1089) ?_
          refine gS (if_pos ⟨by omega, by omega⟩) ?_
          rw [show (hH B m).2.2 Kc (z : Int).toNat = cs from zc]
          refine gS (S_icmp_lt at_271_1090) ?_
          refine gS (if_pos hlt) ?_
          refine gS (S_iconst at_271_1113) ?_
          refine gS (S_goto at_271_1114) ?_
          refine gS (S_iand at_271_1118) ?_
          rw [j_and11]
          refine gS (S_istore (l1 := [some (jR 0), some (jR 2), some (jI Q), some (jI (n : Int)), some (jI 1), some (jR A), some (jI 3), some (jR Ka), some (jI (N : Int)), some (jR Kc), some (jI (y : Int)), some (jI (zb : Int)), some (jI (k : Int)), some (jI (z : Int)), d14, d15, none, none, none, none, none, none]) rfl at_271_1119) ?_
          refine gS (S_iload rfl at_271_1121) ?_
          refine gS (S_if_lt at_271_1123) ?_
          refine gS (if_neg (by omega)) ?_
          refine gS (S_aload rfl at_271_1126) ?_
          refine gS (S_iload rfl at_271_1128) ?_
          refine gS (S_iaload (aI_1 cK) at_271_1130) ?_
          refine gS (if_pos ⟨by omega, by omega⟩) ?_
          rw [show (hH B m).2.2 Ka (z : Int).toNat = ak from za]
          refine gS (S_aload rfl at_271_1131) ?_
          refine gS (S_iload rfl at_271_1133) ?_
          refine gS (S_iaload (aI_1 cC) at_271_1135) ?_
          refine gS (if_pos ⟨by omega, by omega⟩) ?_
          rw [show (hH B m).2.2 Kc (z : Int).toNat = cs from zc]
          refine gS (S_isub at_271_1136) ?_
          rw [show w32 (ak - cs) = ak - cs from w32_id (by omega) (by omega)]
          refine gS (S_aload rfl at_271_1137) ?_
          refine gS (S_iload rfl at_271_1139) ?_
          refine gS (S_iaload (aI_1 cK) at_271_1141) ?_
          refine gS (if_pos ⟨by omega, by omega⟩) ?_
          rw [show (hH B m).2.2 Ka (zb : Int).toNat = akb from ba]
          refine gS (S_aload rfl at_271_1142) ?_
          refine gS (S_iload rfl at_271_1144) ?_
          refine gS (S_iaload (aI_1 cC) at_271_1146) ?_
          refine gS (if_pos ⟨by omega, by omega⟩) ?_
          rw [show (hH B m).2.2 Kc (zb : Int).toNat = csb from bc]
          refine gS (S_isub at_271_1147) ?_
          rw [show w32 (akb - csb) = akb - csb from w32_id (by omega) (by omega)]
          refine gS (S_icmp_le at_271_1148) ?_
          refine gS (if_neg hb) ?_
          refine gS (S_iload rfl at_271_1156) ?_
          refine gS (S_istore (l1 := [some (jR 0), some (jR 2), some (jI Q), some (jI (n : Int)), some (jI 1), some (jR A), some (jI 3), some (jR Ka), some (jI (N : Int)), some (jR Kc), some (jI (y : Int)), some (jI (zb : Int)), some (jI (k : Int)), some (jI (z : Int)), d14, d15, none, none, none, none, none, none]) rfl at_271_1158) ?_
          refine gS (S_iload rfl at_271_1160) ?_
          refine gS (S_istore (l1 := [some (jR 0), some (jR 2), some (jI Q), some (jI (n : Int)), some (jI 1), some (jR A), some (jI 3), some (jR Ka), some (jI (N : Int)), some (jR Kc), some (jI (z : Int)), some (jI (zb : Int)), some (jI (k : Int)), some (jI (z : Int)), d14, d15, none, none, none, none, none, none]) rfl at_271_1162) ?_
          refine gS (S_iinc (l1 := [some (jR 0), some (jR 2), some (jI Q), some (jI (n : Int)), some (jI 1), some (jR A), some (jI 3), some (jR Ka), some (jI (N : Int)), some (jR Kc), some (jI (z : Int)), some (jI (zb : Int)), some (jI (w32 ((k : Int) + 1))), some (jI (z : Int)), d14, d15, none, none, none, none, none, none]) rfl rfl at_271_1164) ?_
          rw [show w32 ((k : Int) + 1) = ((k + 1 : Nat) : Int) from nat1 (by omega)]
          refine gS (S_goto at_271_1167) ?_
          exact K1
      · have heq : csl = cs := by omega
        have hzz : (y : Int) < (z : Int) := by omega
        by_cases hb : akb - csb < ak - cs
        · skip
          have K1 := ih (k + 1) (by omega) (z : Int) (z : Int) (some (jI (z : Int))) (nL_i _) (Or.inr ⟨Nat.succ_pos k, by rw [show k + 1 - 1 = k by omega]; exact z2.symm, k, by omega, z2.symm, (if_neg (by omega)).trans (if_pos (by rw [b3, Int.toNat_natCast]; omega))⟩) K
          refine gS (S_iload rfl at_271_1007) ?_
          refine gS (S_iload rfl at_271_1009) ?_
          refine gS (S_icmp_ge at_271_1011) ?_
          refine gS (if_pos (by omega)) ?_
          refine gS (S_aload_n rfl at_271_1014) ?_
          refine gS (S_iload rfl at_271_1015) ?_
          refine gS (S_iconst at_271_1017) ?_
          refine gS (S_invv (b := 2) (by decide) kn_122 rfl (kd_2 B m) (Nat.le_of_ble_eq_true rfl) at_271_1018) ?_
          show lG Ls (((c_call 10) 122 [jR 2, jI (k : Int), jI 0] (hH B m)).bind _)
          rw [e0]
          show lG Ls (j_fin (c_call 10) 271 1021 [some (jR 0), some (jR 2), some (jI Q), some (jI (n : Int)), some (jI 1), some (jR A), some (jI 3), some (jR Ka), some (jI (N : Int)), some (jR Kc), some (jI (y : Int)), some (jI (zb : Int)), some (jI (k : Int)), d13, d14, d15, none, none, none, none, none, none] [jI (z : Int)] (hH B m))
          refine gS (S_istore (l1 := [some (jR 0), some (jR 2), some (jI Q), some (jI (n : Int)), some (jI 1), some (jR A), some (jI 3), some (jR Ka), some (jI (N : Int)), some (jR Kc), some (jI (y : Int)), some (jI (zb : Int)), some (jI (k : Int)), some (jI (z : Int)), d14, d15, none, none, none, none, none, none]) rfl at_271_1021) ?_
          refine gS (S_iload rfl at_271_1023) ?_
          refine gS (S_iload rfl at_271_1025) ?_
          refine gS (S_if_lt at_271_1027) ?_
          refine gS (if_neg (by omega)) ?_
          refine gS (S_iload rfl at_271_1030) ?_
          refine gS (S_bipush at_271_1032) ?_
          refine gS (S_icmp_ge at_271_1034) ?_
          refine gS (if_pos (by omega)) ?_
          refine gS (S_aload rfl at_271_1037) ?_
          refine gS (S_iload rfl at_271_1039) ?_
          refine gS (S_iaload (aI_1 cK) at_271_1041) ?_
          refine gS (if_pos ⟨by omega, by omega⟩) ?_
          rw [show (hH B m).2.2 Ka (z : Int).toNat = ak from za]
          refine gS (S_if_lt at_271_1042) ?_
          refine gS (if_neg (by omega)) ?_
          refine gS (S_aload_n rfl at_271_1045) ?_
          refine gS (S_iload rfl at_271_1046) ?_
          refine gS (S_iconst at_271_1048) ?_
          refine gS (S_invv (b := 2) (by decide) kn_122 rfl (kd_2 B m) (Nat.le_of_ble_eq_true rfl) at_271_1049) ?_
          show lG Ls (((c_call 10) 122 [jR 2, jI (k : Int), jI 1] (hH B m)).bind _)
          rw [e1]
          show lG Ls (j_fin (c_call 10) 271 1052 [some (jR 0), some (jR 2), some (jI Q), some (jI (n : Int)), some (jI 1), some (jR A), some (jI 3), some (jR Ka), some (jI (N : Int)), some (jR Kc), some (jI (y : Int)), some (jI (zb : Int)), some (jI (k : Int)), some (jI (z : Int)), d14, d15, none, none, none, none, none, none] [jI ak, jI 1] (hH B m))
          refine gS (S_aload rfl at_271_1052) ?_
          refine gS (S_iload rfl at_271_1054) ?_
          refine gS (S_iaload (aI_1 cK) at_271_1056) ?_
          refine gS (if_pos ⟨by omega, by omega⟩) ?_
          rw [show (hH B m).2.2 Ka (z : Int).toNat = ak from za]
          refine gS (S_icmp_ne at_271_1057) ?_
          refine gS (if_pos rfl) ?_
          refine gS (S_aload_n rfl at_271_1060) ?_
          refine gS (S_iload rfl at_271_1061) ?_
          refine gS (S_iconst at_271_1063) ?_
          refine gS (S_invv (b := 2) (by decide) kn_122 rfl (kd_2 B m) (Nat.le_of_ble_eq_true rfl) at_271_1064) ?_
          show lG Ls (((c_call 10) 122 [jR 2, jI (k : Int), jI 2] (hH B m)).bind _)
          rw [e2]
          show lG Ls (j_fin (c_call 10) 271 1067 [some (jR 0), some (jR 2), some (jI Q), some (jI (n : Int)), some (jI 1), some (jR A), some (jI 3), some (jR Ka), some (jI (N : Int)), some (jR Kc), some (jI (y : Int)), some (jI (zb : Int)), some (jI (k : Int)), some (jI (z : Int)), d14, d15, none, none, none, none, none, none] [jI cs, jI 1] (hH B m))
          refine gS (S_aload rfl at_271_1067) ?_
          refine gS (S_iload rfl at_271_1069) ?_
          refine gS (S_iaload (aI_1 cC) at_271_1071) ?_
          refine gS (if_pos ⟨by omega, by omega⟩) ?_
          rw [show (hH B m).2.2 Kc (z : Int).toNat = cs from zc]
          refine gS (S_icmp_ne at_271_1072) ?_
          refine gS (if_pos rfl) ?_
          refine gS (S_iload rfl at_271_1075) ?_
          refine gS (S_if_lt at_271_1077) ?_
          refine gS (if_neg (by omega)) ?_
          refine gS (S_aload rfl at_271_1080) ?_
          refine gS (S_iload rfl at_271_1082) ?_
          refine gS (S_iaload (aI_1 cC) at_271_1084) ?_
          refine gS (if_pos ⟨by omega, by omega⟩) ?_
          rw [show (hH B m).2.2 Kc (y : Int).toNat = csl from yc]
          refine gS (S_aload rfl at_271_1085) ?_
          refine gS (S_iload rfl at_271_1087) ?_
          refine gS (S_iaload (aI_1 cC) at_271_1089) ?_
          refine gS (if_pos ⟨by omega, by omega⟩) ?_
          rw [show (hH B m).2.2 Kc (z : Int).toNat = cs from zc]
          refine gS (S_icmp_lt at_271_1090) ?_
          refine gS (if_neg hlt) ?_
          refine gS (S_aload rfl at_271_1093) ?_
          refine gS (S_iload rfl at_271_1095) ?_
          refine gS (S_iaload (aI_1 cC) at_271_1097) ?_
          refine gS (if_pos ⟨by omega, by omega⟩) ?_
          rw [show (hH B m).2.2 Kc (y : Int).toNat = csl from yc]
          refine gS (S_aload rfl at_271_1098) ?_
          refine gS (S_iload rfl at_271_1100) ?_
          refine gS (S_iaload (aI_1 cC) at_271_1102) ?_
          refine gS (if_pos ⟨by omega, by omega⟩) ?_
          rw [show (hH B m).2.2 Kc (z : Int).toNat = cs from zc]
          refine gS (S_icmp_ne at_271_1103) ?_
          refine gS (if_pos heq) ?_
          refine gS (S_iload rfl at_271_1106) ?_
          refine gS (S_iload rfl at_271_1108) ?_
          refine gS (S_icmp_ge at_271_1110) ?_
          refine gS (if_pos hzz) ?_
          refine gS (S_iconst at_271_1113) ?_
          refine gS (S_goto at_271_1114) ?_
          refine gS (S_iand at_271_1118) ?_
          rw [j_and11]
          refine gS (S_istore (l1 := [some (jR 0), some (jR 2), some (jI Q), some (jI (n : Int)), some (jI 1), some (jR A), some (jI 3), some (jR Ka), some (jI (N : Int)), some (jR Kc), some (jI (y : Int)), some (jI (zb : Int)), some (jI (k : Int)), some (jI (z : Int)), d14, d15, none, none, none, none, none, none]) rfl at_271_1119) ?_
          refine gS (S_iload rfl at_271_1121) ?_
          refine gS (S_if_lt at_271_1123) ?_
          refine gS (if_neg (by omega)) ?_
          refine gS (S_aload rfl at_271_1126) ?_
          refine gS (S_iload rfl at_271_1128) ?_
          refine gS (S_iaload (aI_1 cK) at_271_1130) ?_
          refine gS (if_pos ⟨by omega, by omega⟩) ?_
          rw [show (hH B m).2.2 Ka (z : Int).toNat = ak from za]
          refine gS (S_aload rfl at_271_1131) ?_
          refine gS (S_iload rfl at_271_1133) ?_
          refine gS (S_iaload (aI_1 cC) at_271_1135) ?_
          refine gS (if_pos ⟨by omega, by omega⟩) ?_
          rw [show (hH B m).2.2 Kc (z : Int).toNat = cs from zc]
          refine gS (S_isub at_271_1136) ?_
          rw [show w32 (ak - cs) = ak - cs from w32_id (by omega) (by omega)]
          refine gS (S_aload rfl at_271_1137) ?_
          refine gS (S_iload rfl at_271_1139) ?_
          refine gS (S_iaload (aI_1 cK) at_271_1141) ?_
          refine gS (if_pos ⟨by omega, by omega⟩) ?_
          rw [show (hH B m).2.2 Ka (zb : Int).toNat = akb from ba]
          refine gS (S_aload rfl at_271_1142) ?_
          refine gS (S_iload rfl at_271_1144) ?_
          refine gS (S_iaload (aI_1 cC) at_271_1146) ?_
          refine gS (if_pos ⟨by omega, by omega⟩) ?_
          rw [show (hH B m).2.2 Kc (zb : Int).toNat = csb from bc]
          refine gS (S_isub at_271_1147) ?_
          rw [show w32 (akb - csb) = akb - csb from w32_id (by omega) (by omega)]
          refine gS (S_icmp_le at_271_1148) ?_
          refine gS (if_pos hb) ?_
          refine gS (S_iload rfl at_271_1151) ?_
          refine gS (S_goto at_271_1153) ?_
          refine gS (S_istore (l1 := [some (jR 0), some (jR 2), some (jI Q), some (jI (n : Int)), some (jI 1), some (jR A), some (jI 3), some (jR Ka), some (jI (N : Int)), some (jR Kc), some (jI (y : Int)), some (jI (z : Int)), some (jI (k : Int)), some (jI (z : Int)), d14, d15, none, none, none, none, none, none]) rfl at_271_1158) ?_
          refine gS (S_iload rfl at_271_1160) ?_
          refine gS (S_istore (l1 := [some (jR 0), some (jR 2), some (jI Q), some (jI (n : Int)), some (jI 1), some (jR A), some (jI 3), some (jR Ka), some (jI (N : Int)), some (jR Kc), some (jI (z : Int)), some (jI (z : Int)), some (jI (k : Int)), some (jI (z : Int)), d14, d15, none, none, none, none, none, none]) rfl at_271_1162) ?_
          refine gS (S_iinc (l1 := [some (jR 0), some (jR 2), some (jI Q), some (jI (n : Int)), some (jI 1), some (jR A), some (jI 3), some (jR Ka), some (jI (N : Int)), some (jR Kc), some (jI (z : Int)), some (jI (z : Int)), some (jI (w32 ((k : Int) + 1))), some (jI (z : Int)), d14, d15, none, none, none, none, none, none]) rfl rfl at_271_1164) ?_
          rw [show w32 ((k : Int) + 1) = ((k + 1 : Nat) : Int) from nat1 (by omega)]
          refine gS (S_goto at_271_1167) ?_
          exact K1
        · skip
          have K1 := ih (k + 1) (by omega) (z : Int) (zb : Int) (some (jI (z : Int))) (nL_i _) (Or.inr ⟨Nat.succ_pos k, by rw [show k + 1 - 1 = k by omega]; exact z2.symm, b, by omega, bb2.symm, (if_neg (by omega)).trans ((if_neg (by rw [b3, Int.toNat_natCast]; omega)).trans b3)⟩) K
          refine gS (S_iload rfl at_271_1007) ?_
          refine gS (S_iload rfl at_271_1009) ?_
          refine gS (S_icmp_ge at_271_1011) ?_
          refine gS (if_pos (by omega)) ?_
          refine gS (S_aload_n rfl at_271_1014) ?_
          refine gS (S_iload rfl at_271_1015) ?_
          refine gS (S_iconst at_271_1017) ?_
          refine gS (S_invv (b := 2) (by decide) kn_122 rfl (kd_2 B m) (Nat.le_of_ble_eq_true rfl) at_271_1018) ?_
          show lG Ls (((c_call 10) 122 [jR 2, jI (k : Int), jI 0] (hH B m)).bind _)
          rw [e0]
          show lG Ls (j_fin (c_call 10) 271 1021 [some (jR 0), some (jR 2), some (jI Q), some (jI (n : Int)), some (jI 1), some (jR A), some (jI 3), some (jR Ka), some (jI (N : Int)), some (jR Kc), some (jI (y : Int)), some (jI (zb : Int)), some (jI (k : Int)), d13, d14, d15, none, none, none, none, none, none] [jI (z : Int)] (hH B m))
          refine gS (S_istore (l1 := [some (jR 0), some (jR 2), some (jI Q), some (jI (n : Int)), some (jI 1), some (jR A), some (jI 3), some (jR Ka), some (jI (N : Int)), some (jR Kc), some (jI (y : Int)), some (jI (zb : Int)), some (jI (k : Int)), some (jI (z : Int)), d14, d15, none, none, none, none, none, none]) rfl at_271_1021) ?_
          refine gS (S_iload rfl at_271_1023) ?_
          refine gS (S_iload rfl at_271_1025) ?_
          refine gS (S_if_lt at_271_1027) ?_
          refine gS (if_neg (by omega)) ?_
          refine gS (S_iload rfl at_271_1030) ?_
          refine gS (S_bipush at_271_1032) ?_
          refine gS (S_icmp_ge at_271_1034) ?_
          refine gS (if_pos (by omega)) ?_
          refine gS (S_aload rfl at_271_1037) ?_
          refine gS (S_iload rfl at_271_1039) ?_
          refine gS (S_iaload (aI_1 cK) at_271_1041) ?_
          refine gS (if_pos ⟨by omega, by omega⟩) ?_
          rw [show (hH B m).2.2 Ka (z : Int).toNat = ak from za]
          refine gS (S_if_lt at_271_1042) ?_
          refine gS (if_neg (by omega)) ?_
          refine gS (S_aload_n rfl at_271_1045) ?_
          refine gS (S_iload rfl at_271_1046) ?_
          refine gS (S_iconst at_271_1048) ?_
          refine gS (S_invv (b := 2) (by decide) kn_122 rfl (kd_2 B m) (Nat.le_of_ble_eq_true rfl) at_271_1049) ?_
          show lG Ls (((c_call 10) 122 [jR 2, jI (k : Int), jI 1] (hH B m)).bind _)
          rw [e1]
          show lG Ls (j_fin (c_call 10) 271 1052 [some (jR 0), some (jR 2), some (jI Q), some (jI (n : Int)), some (jI 1), some (jR A), some (jI 3), some (jR Ka), some (jI (N : Int)), some (jR Kc), some (jI (y : Int)), some (jI (zb : Int)), some (jI (k : Int)), some (jI (z : Int)), d14, d15, none, none, none, none, none, none] [jI ak, jI 1] (hH B m))
          refine gS (S_aload rfl at_271_1052) ?_
          refine gS (S_iload rfl at_271_1054) ?_
          refine gS (S_iaload (aI_1 cK) at_271_1056) ?_
          refine gS (if_pos ⟨by omega, by omega⟩) ?_
          rw [show (hH B m).2.2 Ka (z : Int).toNat = ak from za]
          refine gS (S_icmp_ne at_271_1057) ?_
          refine gS (if_pos rfl) ?_
          refine gS (S_aload_n rfl at_271_1060) ?_
          refine gS (S_iload rfl at_271_1061) ?_
          refine gS (S_iconst at_271_1063) ?_
          refine gS (S_invv (b := 2) (by decide) kn_122 rfl (kd_2 B m) (Nat.le_of_ble_eq_true rfl) at_271_1064) ?_
          show lG Ls (((c_call 10) 122 [jR 2, jI (k : Int), jI 2] (hH B m)).bind _)
          rw [e2]
          show lG Ls (j_fin (c_call 10) 271 1067 [some (jR 0), some (jR 2), some (jI Q), some (jI (n : Int)), some (jI 1), some (jR A), some (jI 3), some (jR Ka), some (jI (N : Int)), some (jR Kc), some (jI (y : Int)), some (jI (zb : Int)), some (jI (k : Int)), some (jI (z : Int)), d14, d15, none, none, none, none, none, none] [jI cs, jI 1] (hH B m))
          refine gS (S_aload rfl at_271_1067) ?_
          refine gS (S_iload rfl at_271_1069) ?_
          refine gS (S_iaload (aI_1 cC) at_271_1071) ?_
          refine gS (if_pos ⟨by omega, by omega⟩) ?_
          rw [show (hH B m).2.2 Kc (z : Int).toNat = cs from zc]
          refine gS (S_icmp_ne at_271_1072) ?_
          refine gS (if_pos rfl) ?_
          refine gS (S_iload rfl at_271_1075) ?_
          refine gS (S_if_lt at_271_1077) ?_
          refine gS (if_neg (by omega)) ?_
          refine gS (S_aload rfl at_271_1080) ?_
          refine gS (S_iload rfl at_271_1082) ?_
          refine gS (S_iaload (aI_1 cC) at_271_1084) ?_
          refine gS (if_pos ⟨by omega, by omega⟩) ?_
          rw [show (hH B m).2.2 Kc (y : Int).toNat = csl from yc]
          refine gS (S_aload rfl at_271_1085) ?_
          refine gS (S_iload rfl at_271_1087) ?_
          refine gS (S_iaload (aI_1 cC) at_271_1089) ?_
          refine gS (if_pos ⟨by omega, by omega⟩) ?_
          rw [show (hH B m).2.2 Kc (z : Int).toNat = cs from zc]
          refine gS (S_icmp_lt at_271_1090) ?_
          refine gS (if_neg hlt) ?_
          refine gS (S_aload rfl at_271_1093) ?_
          refine gS (S_iload rfl at_271_1095) ?_
          refine gS (S_iaload (aI_1 cC) at_271_1097) ?_
          refine gS (if_pos ⟨by omega, by omega⟩) ?_
          rw [show (hH B m).2.2 Kc (y : Int).toNat = csl from yc]
          refine gS (S_aload rfl at_271_1098) ?_
          refine gS (S_iload rfl at_271_1100) ?_
          refine gS (S_iaload (aI_1 cC) at_271_1102) ?_
          refine gS (if_pos ⟨by omega, by omega⟩) ?_
          rw [show (hH B m).2.2 Kc (z : Int).toNat = cs from zc]
          refine gS (S_icmp_ne at_271_1103) ?_
          refine gS (if_pos heq) ?_
          refine gS (S_iload rfl at_271_1106) ?_
          refine gS (S_iload rfl at_271_1108) ?_
          refine gS (S_icmp_ge at_271_1110) ?_
          refine gS (if_pos hzz) ?_
          refine gS (S_iconst at_271_1113) ?_
          refine gS (S_goto at_271_1114) ?_
          refine gS (S_iand at_271_1118) ?_
          rw [j_and11]
          refine gS (S_istore (l1 := [some (jR 0), some (jR 2), some (jI Q), some (jI (n : Int)), some (jI 1), some (jR A), some (jI 3), some (jR Ka), some (jI (N : Int)), some (jR Kc), some (jI (y : Int)), some (jI (zb : Int)), some (jI (k : Int)), some (jI (z : Int)), d14, d15, none, none, none, none, none, none]) rfl at_271_1119) ?_
          refine gS (S_iload rfl at_271_1121) ?_
          refine gS (S_if_lt at_271_1123) ?_
          refine gS (if_neg (by omega)) ?_
          refine gS (S_aload rfl at_271_1126) ?_
          refine gS (S_iload rfl at_271_1128) ?_
          refine gS (S_iaload (aI_1 cK) at_271_1130) ?_
          refine gS (if_pos ⟨by omega, by omega⟩) ?_
          rw [show (hH B m).2.2 Ka (z : Int).toNat = ak from za]
          refine gS (S_aload rfl at_271_1131) ?_
          refine gS (S_iload rfl at_271_1133) ?_
          refine gS (S_iaload (aI_1 cC) at_271_1135) ?_
          refine gS (if_pos ⟨by omega, by omega⟩) ?_
          rw [show (hH B m).2.2 Kc (z : Int).toNat = cs from zc]
          refine gS (S_isub at_271_1136) ?_
          rw [show w32 (ak - cs) = ak - cs from w32_id (by omega) (by omega)]
          refine gS (S_aload rfl at_271_1137) ?_
          refine gS (S_iload rfl at_271_1139) ?_
          refine gS (S_iaload (aI_1 cK) at_271_1141) ?_
          refine gS (if_pos ⟨by omega, by omega⟩) ?_
          rw [show (hH B m).2.2 Ka (zb : Int).toNat = akb from ba]
          refine gS (S_aload rfl at_271_1142) ?_
          refine gS (S_iload rfl at_271_1144) ?_
          refine gS (S_iaload (aI_1 cC) at_271_1146) ?_
          refine gS (if_pos ⟨by omega, by omega⟩) ?_
          rw [show (hH B m).2.2 Kc (zb : Int).toNat = csb from bc]
          refine gS (S_isub at_271_1147) ?_
          rw [show w32 (akb - csb) = akb - csb from w32_id (by omega) (by omega)]
          refine gS (S_icmp_le at_271_1148) ?_
          refine gS (if_neg hb) ?_
          refine gS (S_iload rfl at_271_1156) ?_
          refine gS (S_istore (l1 := [some (jR 0), some (jR 2), some (jI Q), some (jI (n : Int)), some (jI 1), some (jR A), some (jI 3), some (jR Ka), some (jI (N : Int)), some (jR Kc), some (jI (y : Int)), some (jI (zb : Int)), some (jI (k : Int)), some (jI (z : Int)), d14, d15, none, none, none, none, none, none]) rfl at_271_1158) ?_
          refine gS (S_iload rfl at_271_1160) ?_
          refine gS (S_istore (l1 := [some (jR 0), some (jR 2), some (jI Q), some (jI (n : Int)), some (jI 1), some (jR A), some (jI 3), some (jR Ka), some (jI (N : Int)), some (jR Kc), some (jI (z : Int)), some (jI (zb : Int)), some (jI (k : Int)), some (jI (z : Int)), d14, d15, none, none, none, none, none, none]) rfl at_271_1162) ?_
          refine gS (S_iinc (l1 := [some (jR 0), some (jR 2), some (jI Q), some (jI (n : Int)), some (jI 1), some (jR A), some (jI 3), some (jR Ka), some (jI (N : Int)), some (jR Kc), some (jI (z : Int)), some (jI (zb : Int)), some (jI (w32 ((k : Int) + 1))), some (jI (z : Int)), d14, d15, none, none, none, none, none, none]) rfl rfl at_271_1164) ?_
          rw [show w32 ((k : Int) + 1) = ((k + 1 : Nat) : Int) from nat1 (by omega)]
          refine gS (S_goto at_271_1167) ?_
          exact K1
set_option maxHeartbeats 1000000 in
theorem T_998 {Ls : Nat} {xs : Nat → Int32} {A n N M Ka Kc : Nat} {Q : Int} {co g a c t : Nat → Int} {q : Option (Nat → Int)} {B : j_B} {m : j_M0} {d11 d12 d13 d14 d15 : Option j_V} (n11 : nL d11) (n12 : nL d12) (n13 : nL d13) (n14 : nL d14) (n15 : nL d15) (r : Rel xs g q t M m) (h6 : g 6 = N) (hN0 : 0 < N) (hN8 : N ≤ 8) (cK : aI (hH B m) Ka 100 a) (cC : aI (hH B m) Kc 100 c) (hS : oS n co m N a c) (K : ∀ (last best : Int) (d13 : Option j_V), nL d13 → lG Ls (j_fin (c_call 10) 271 1240 [some (jR 0), some (jR 2), some (jI Q), some (jI (n : Int)), some (jI 1), some (jR A), some (jI 3), some (jR Ka), some (jI (N : Int)), some (jR Kc), some (jI last), some (jI best), some (jI (N : Int)), d13, d14, d15, none, none, none, none, none, none] [] (hH B m))) : lG Ls (j_fin (c_call 10) 271 998 [some (jR 0), some (jR 2), some (jI Q), some (jI (n : Int)), some (jI 1), some (jR A), some (jI 3), some (jR Ka), some (jI (N : Int)), some (jR Kc), some (jI 8), d11, d12, d13, d14, d15, none, none, none, none, none, none] [] (hH B m)) := by
  have K2 := L_1007 (Ls := Ls) (Q := Q) (A := A) n14 n15 r h6 hN8 cK cC hS N 0 (by omega) (-1) (-1) d13 n13 (Or.inl ⟨rfl, rfl, rfl⟩) (fun last best d13 n13 hT => by
    have K1 := K last best d13 n13
    rcases hT with ⟨h0, -, -⟩ | ⟨-, hl, b, b1, b2, b3⟩
    · exact absurd h0 (by omega)
    have c7 : c_call 10 130 [jR 2, jI 7] (hH B m) = some (some (jI (N : Int)), hH B m) := Q130s r (Or.inr (Or.inr (Or.inr (Or.inl ⟨rfl, h6.symm⟩))))
    have c0 := PB122n (L := B) r h6
    have cd := PB124 (L := B) r h6
    rw [b3, if_neg (by omega), Int.toNat_natCast, ← b2] at cd
    have cu := PB123 (L := B) r h6 1000000
    have eu : upC (m 11) (m 10) 1000000 N = last := by
      rcases upC_p (m 11) (m 10) 1000000 N with ⟨-, h⟩ | ⟨p, p1, p2, -, p4⟩
      · obtain ⟨z, -, -, -, -, -, -, z7⟩ := hS.1 0 hN0
        have := h 0 hN0
        omega
      · by_cases e : p = N - 1
        · rw [p2, hl, e]
        · obtain ⟨z, -, -, -, -, -, -, z7⟩ := hS.1 (N - 1) (by omega)
          have := p4 (N - 1) (by omega) (by omega)
          omega
    rw [eu] at cu
    have cm := PB123 (L := B) r h6 (-1)
    have em : upC (m 11) (m 10) (-1) N = -5 := by
      rcases upC_p (m 11) (m 10) (-1) N with ⟨h, -⟩ | ⟨p, p1, -, p3, -⟩
      · exact h
      · obtain ⟨z, -, -, -, -, -, z6, -⟩ := hS.1 p p1
        omega
    rw [em] at cm
    refine gS (S_iload rfl at_271_1170) ?_
    refine gS (S_aload_n rfl at_271_1172) ?_
    refine gS (S_bipush at_271_1173) ?_
    refine gS (S_invv (b := 1) (by decide) kn_130 rfl (kd_2 B m) (Nat.le_of_ble_eq_true rfl) at_271_1175) ?_
    show lG Ls (((c_call 10) 130 [jR 2, jI 7] (hH B m)).bind _)
    rw [c7]
    show lG Ls (j_fin (c_call 10) 271 1178 [some (jR 0), some (jR 2), some (jI Q), some (jI (n : Int)), some (jI 1), some (jR A), some (jI 3), some (jR Ka), some (jI (N : Int)), some (jR Kc), some (jI last), some (jI best), some (jI (N : Int)), d13, d14, d15, none, none, none, none, none, none] [jI (N : Int), jI 1] (hH B m))
    refine gS (S_iload rfl at_271_1178) ?_
    refine gS (S_icmp_ne at_271_1180) ?_
    refine gS (if_pos rfl) ?_
    refine gS (S_aload_n rfl at_271_1183) ?_
    refine gS (S_iload rfl at_271_1184) ?_
    refine gS (S_iconst at_271_1186) ?_
    refine gS (S_invv (b := 2) (by decide) kn_122 rfl (kd_2 B m) (Nat.le_of_ble_eq_true rfl) at_271_1187) ?_
    show lG Ls (((c_call 10) 122 [jR 2, jI (N : Int), jI 0] (hH B m)).bind _)
    rw [c0]
    show lG Ls (j_fin (c_call 10) 271 1190 [some (jR 0), some (jR 2), some (jI Q), some (jI (n : Int)), some (jI 1), some (jR A), some (jI 3), some (jR Ka), some (jI (N : Int)), some (jR Kc), some (jI last), some (jI best), some (jI (N : Int)), d13, d14, d15, none, none, none, none, none, none] [jI (-2), jI 1] (hH B m))
    refine gS (S_bipush at_271_1190) ?_
    refine gS (S_icmp_ne at_271_1192) ?_
    refine gS (if_pos (by decide)) ?_
    refine gS (S_aload_n rfl at_271_1195) ?_
    refine gS (S_invv (b := 0) (by decide) kn_124 rfl (kd_2 B m) (Nat.le_of_ble_eq_true rfl) at_271_1196) ?_
    show lG Ls (((c_call 10) 124 [jR 2] (hH B m)).bind _)
    rw [cd]
    show lG Ls (j_fin (c_call 10) 271 1199 [some (jR 0), some (jR 2), some (jI Q), some (jI (n : Int)), some (jI 1), some (jR A), some (jI 3), some (jR Ka), some (jI (N : Int)), some (jR Kc), some (jI last), some (jI best), some (jI (N : Int)), d13, d14, d15, none, none, none, none, none, none] [jI best, jI 1] (hH B m))
    refine gS (S_iload rfl at_271_1199) ?_
    refine gS (S_icmp_ne at_271_1201) ?_
    refine gS (if_pos rfl) ?_
    refine gS (S_aload_n rfl at_271_1204) ?_
    refine gS (S_ldc rfl at_271_1205) ?_
    refine gS (S_invv (b := 1) (by decide) kn_123 rfl (kd_2 B m) (Nat.le_of_ble_eq_true rfl) at_271_1207) ?_
    show lG Ls (((c_call 10) 123 [jR 2, jI 1000000] (hH B m)).bind _)
    rw [cu]
    show lG Ls (j_fin (c_call 10) 271 1210 [some (jR 0), some (jR 2), some (jI Q), some (jI (n : Int)), some (jI 1), some (jR A), some (jI 3), some (jR Ka), some (jI (N : Int)), some (jR Kc), some (jI last), some (jI best), some (jI (N : Int)), d13, d14, d15, none, none, none, none, none, none] [jI last, jI 1] (hH B m))
    refine gS (S_iload rfl at_271_1210) ?_
    refine gS (S_icmp_ne at_271_1212) ?_
    refine gS (if_pos rfl) ?_
    refine gS (S_aload_n rfl at_271_1215) ?_
    refine gS (S_iconst at_271_1216) ?_
    refine gS (S_invv (b := 1) (by decide) kn_123 rfl (kd_2 B m) (Nat.le_of_ble_eq_true rfl) at_271_1217) ?_
    show lG Ls (((c_call 10) 123 [jR 2, jI (-1)] (hH B m)).bind _)
    rw [cm]
    show lG Ls (j_fin (c_call 10) 271 1220 [some (jR 0), some (jR 2), some (jI Q), some (jI (n : Int)), some (jI 1), some (jR A), some (jI 3), some (jR Ka), some (jI (N : Int)), some (jR Kc), some (jI last), some (jI best), some (jI (N : Int)), d13, d14, d15, none, none, none, none, none, none] [jI (-5), jI 1] (hH B m))
    refine gS (S_bipush at_271_1220) ?_
    refine gS (S_icmp_ne at_271_1222) ?_
    refine gS (if_pos (by decide)) ?_
    refine gS (S_iconst at_271_1225) ?_
    refine gS (S_goto at_271_1226) ?_
    refine gS (S_iand at_271_1230) ?_
    rw [j_and11]
    refine gS (S_istore (l1 := [some (jR 0), some (jR 2), some (jI Q), some (jI (n : Int)), some (jI 1), some (jR A), some (jI 3), some (jR Ka), some (jI (N : Int)), some (jR Kc), some (jI last), some (jI best), some (jI (N : Int)), d13, d14, d15, none, none, none, none, none, none]) rfl at_271_1231) ?_
    refine gS (S_iload rfl at_271_1233) ?_
    refine gS (S_if_ne at_271_1235) ?_
    refine gS (if_neg (by decide)) ?_
    exact K1)
  refine gS (S_iconst at_271_998) ?_
  refine gS (S_istore (l1 := [some (jR 0), some (jR 2), some (jI Q), some (jI (n : Int)), some (jI 1), some (jR A), some (jI 3), some (jR Ka), some (jI (N : Int)), some (jR Kc), some (jI (-1)), d11, d12, d13, d14, d15, none, none, none, none, none, none]) rfl at_271_999) ?_
  refine gS (S_iconst at_271_1001) ?_
  refine gS (S_istore (l1 := [some (jR 0), some (jR 2), some (jI Q), some (jI (n : Int)), some (jI 1), some (jR A), some (jI 3), some (jR Ka), some (jI (N : Int)), some (jR Kc), some (jI (-1)), some (jI (-1)), d12, d13, d14, d15, none, none, none, none, none, none]) rfl at_271_1002) ?_
  refine gS (S_iconst at_271_1004) ?_
  refine gS (S_istore (l1 := [some (jR 0), some (jR 2), some (jI Q), some (jI (n : Int)), some (jI 1), some (jR A), some (jI 3), some (jR Ka), some (jI (N : Int)), some (jR Kc), some (jI (-1)), some (jI (-1)), some (jI 0), d13, d14, d15, none, none, none, none, none, none]) rfl at_271_1005) ?_
  exact K2
