/-! The law's walk: bounds that fit, the end (pc 1574 to 1967). -/
/-- the row with one thing seen -/
def rwS (g : Nat → Int) (v : Int) : Nat → Int := gU (gU (gU g 76 0) 77 v) 4 1
theorem rwS_ne {g : Nat → Int} {v : Int} {z : Nat} (h : z ≠ 4) (h2 : z ≠ 76) (h3 : z ≠ 77) : rwS g v z = g z := by
  unfold rwS
  rw [gU_ne h, gU_ne h3, gU_ne h2]
theorem T_1574 {Ls : Nat} {xs : Nat → Int32} {A n N Ka Kc : Nat} {Q last best : Int} {co t : Nat → Int} {B : j_B} {m : j_M0} {g : Nat → Int} {q : Option (Nat → Int)} {W0 E3 D b : Int} {r : Nat} (hn : 2 ≤ n ∧ n ≤ 4) (hr : r < 3) (hD : lD n co 3 g) (w : Rel xs g q t 0 m)
  (K : ∀ (mn : j_M0) (sv : Int) (p : Nat → Bool), j_and (j_shr Q 8) 3 = sv → (0 ≤ sv ∧ sv ≤ 3) → (∀ k : Nat, k < 10 → (p k = true ↔ fitP (rwS g sv) (pkG (gU (rwS g sv) (13 + 7 * r) (5 * (k : Int)))))) → Rel xs (rwS g sv) q t 0 mn → (∀ b z, 114 ≤ b → mn b z = m b z) → lG Ls (j_fin (c_call 10) 271 1627 [some (jR 0), some (jR 2), some (jI Q), some (jI (n : Int)), some (jI 1), some (jR A), some (jI 3), some (jR Ka), some (jI (N : Int)), some (jR Kc), some (jI last), some (jI best), some (jI (r : Int)), some (jI b), some (jI W0), some (jI E3), some (jI D), some (jI (cnV p 10 0)), some (jI (fsV p 10 0)), some (jI 0), some (jI (-5)), some (jI 0)] [] (hH B mn))) : lG Ls (j_fin (c_call 10) 271 1574 [some (jR 0), some (jR 2), some (jI Q), some (jI (n : Int)), some (jI 1), some (jR A), some (jI 3), some (jR Ka), some (jI (N : Int)), some (jR Kc), some (jI last), some (jI best), some (jI (r : Int)), some (jI b), some (jI W0), some (jI E3), some (jI D), none, none, none, none, none] [] (hH B m)) := by
  obtain ⟨h0, h1, h4, h5, hc⟩ := hD
  have g1 : g 1 = 3 := h1
  obtain ⟨sv, hsv, hs2⟩ : ∃ sv, j_and (j_shr Q 8) 3 = sv ∧ 0 ≤ sv ∧ sv ≤ 3 := ⟨_, rfl, and_r _ 3 (by decide)⟩
  obtain ⟨m1, e1, r1, q1⟩ := PB116 (L := B) w (k := 0) (x := 0) (v := sv) h4 (by omega) (by omega) (by omega)
  have e1 : c_call 10 116 [jR 2, jI 0, jI sv] (hH B m) = some (some (jI 1), hH B m1) := e1
  have r1 : Rel xs (rwS g sv) q t 0 m1 := r1
  have s1 : rwS g sv 1 = 3 := (rwS_ne (by omega) (by omega) (by omega)).trans g1
  obtain ⟨p, hp⟩ := dcP (fun k => fitP (rwS g sv) (pkG (gU (rwS g sv) (13 + 7 * r) (5 * (k : Int)))))
  obtain ⟨m2, e2, r2, q2⟩ := PB117 (L := B) r1 (r := r) (y := 0) (by omega) (by omega) (p := p) (fun k _ => hp k)
  rw [if_pos rfl] at e2
  obtain ⟨m3, e3, r3, q3⟩ := PB117 (L := B) r2 (r := r) (y := 1) (by omega) (by omega) (p := p) (fun k _ => hp k)
  rw [if_neg (by decide)] at e3
  have K1 := K m3 sv p hsv hs2 (fun k _ => hp k) r3 (fun b z h => (q3 b z h).trans ((q2 b z h).trans (q1 b z h)))
  generalize cnV p 10 0 = F0 at e2 K1
  generalize fsV p 10 0 = F1 at e3 K1
  refine gS (S_iload rfl at_271_1574) ?_
  refine gS (S_aload_n rfl at_271_1576) ?_
  refine gS (S_iconst at_271_1577) ?_
  refine gS (S_iload_n rfl at_271_1578) ?_
  refine gS (S_bipush at_271_1579) ?_
  refine gS (S_ishr at_271_1581) ?_
  refine gS (S_iconst at_271_1582) ?_
  refine gS (S_iand at_271_1583) ?_
  rw [show j_and (j_shr Q 8) 3 = sv from hsv]
  refine gS (S_invv (b := 2) (by decide) kn_116 rfl (kd_2 B m) (Nat.le_of_ble_eq_true rfl) at_271_1584) ?_
  show lG Ls (((c_call 10) 116 [jR 2, jI 0, jI sv] (hH B m)).bind _)
  rw [e1]
  show lG Ls (j_fin (c_call 10) 271 1587 [some (jR 0), some (jR 2), some (jI Q), some (jI (n : Int)), some (jI 1), some (jR A), some (jI 3), some (jR Ka), some (jI (N : Int)), some (jR Kc), some (jI last), some (jI best), some (jI (r : Int)), some (jI b), some (jI W0), some (jI E3), some (jI D), none, none, none, none, none] [jI 1, jI 1] (hH B m1))
  refine gS (S_iconst at_271_1587) ?_
  refine gS (S_icmp_ne at_271_1588) ?_
  refine gS (if_pos (by decide)) ?_
  refine gS (S_iconst at_271_1591) ?_
  refine gS (S_goto at_271_1592) ?_
  refine gS (S_iand at_271_1596) ?_
  rw [j_and11]
  refine gS (S_istore (l1 := [some (jR 0), some (jR 2), some (jI Q), some (jI (n : Int)), some (jI 1), some (jR A), some (jI 3), some (jR Ka), some (jI (N : Int)), some (jR Kc), some (jI last), some (jI best), some (jI (r : Int)), some (jI b), some (jI W0), some (jI E3), some (jI D), none, none, none, none, none]) rfl at_271_1597) ?_
  refine gS (S_aload_n rfl at_271_1599) ?_
  refine gS (S_iload rfl at_271_1600) ?_
  refine gS (S_iconst at_271_1602) ?_
  refine gS (S_invv (b := 2) (by decide) kn_117 rfl (kd_2 B m1) (Nat.le_of_ble_eq_true rfl) at_271_1603) ?_
  show lG Ls (((c_call 10) 117 [jR 2, jI (r : Int), jI 0] (hH B m1)).bind _)
  rw [e2]
  show lG Ls (j_fin (c_call 10) 271 1606 [some (jR 0), some (jR 2), some (jI Q), some (jI (n : Int)), some (jI 1), some (jR A), some (jI 3), some (jR Ka), some (jI (N : Int)), some (jR Kc), some (jI last), some (jI best), some (jI (r : Int)), some (jI b), some (jI W0), some (jI E3), some (jI D), none, none, none, none, none] [jI F0] (hH B m2))
  refine gS (S_istore (l1 := [some (jR 0), some (jR 2), some (jI Q), some (jI (n : Int)), some (jI 1), some (jR A), some (jI 3), some (jR Ka), some (jI (N : Int)), some (jR Kc), some (jI last), some (jI best), some (jI (r : Int)), some (jI b), some (jI W0), some (jI E3), some (jI D), some (jI F0), none, none, none, none]) rfl at_271_1606) ?_
  refine gS (S_aload_n rfl at_271_1608) ?_
  refine gS (S_iload rfl at_271_1609) ?_
  refine gS (S_iconst at_271_1611) ?_
  refine gS (S_invv (b := 2) (by decide) kn_117 rfl (kd_2 B m2) (Nat.le_of_ble_eq_true rfl) at_271_1612) ?_
  show lG Ls (((c_call 10) 117 [jR 2, jI (r : Int), jI 1] (hH B m2)).bind _)
  rw [e3]
  show lG Ls (j_fin (c_call 10) 271 1615 [some (jR 0), some (jR 2), some (jI Q), some (jI (n : Int)), some (jI 1), some (jR A), some (jI 3), some (jR Ka), some (jI (N : Int)), some (jR Kc), some (jI last), some (jI best), some (jI (r : Int)), some (jI b), some (jI W0), some (jI E3), some (jI D), some (jI F0), none, none, none, none] [jI F1] (hH B m3))
  refine gS (S_istore (l1 := [some (jR 0), some (jR 2), some (jI Q), some (jI (n : Int)), some (jI 1), some (jR A), some (jI 3), some (jR Ka), some (jI (N : Int)), some (jR Kc), some (jI last), some (jI best), some (jI (r : Int)), some (jI b), some (jI W0), some (jI E3), some (jI D), some (jI F0), some (jI F1), none, none, none]) rfl at_271_1615) ?_
  refine gS (S_iconst at_271_1617) ?_
  refine gS (S_istore (l1 := [some (jR 0), some (jR 2), some (jI Q), some (jI (n : Int)), some (jI 1), some (jR A), some (jI 3), some (jR Ka), some (jI (N : Int)), some (jR Kc), some (jI last), some (jI best), some (jI (r : Int)), some (jI b), some (jI W0), some (jI E3), some (jI D), some (jI F0), some (jI F1), some (jI 0), none, none]) rfl at_271_1618) ?_
  refine gS (S_bipush at_271_1620) ?_
  refine gS (S_istore (l1 := [some (jR 0), some (jR 2), some (jI Q), some (jI (n : Int)), some (jI 1), some (jR A), some (jI 3), some (jR Ka), some (jI (N : Int)), some (jR Kc), some (jI last), some (jI best), some (jI (r : Int)), some (jI b), some (jI W0), some (jI E3), some (jI D), some (jI F0), some (jI F1), some (jI 0), some (jI (-5)), none]) rfl at_271_1622) ?_
  refine gS (S_iconst at_271_1624) ?_
  refine gS (S_istore (l1 := [some (jR 0), some (jR 2), some (jI Q), some (jI (n : Int)), some (jI 1), some (jR A), some (jI 3), some (jR Ka), some (jI (N : Int)), some (jR Kc), some (jI last), some (jI best), some (jI (r : Int)), some (jI b), some (jI W0), some (jI E3), some (jI D), some (jI F0), some (jI F1), some (jI 0), some (jI (-5)), some (jI 0)]) rfl at_271_1625) ?_
  exact K1
set_option maxHeartbeats 1000000 in
theorem L_1627 {Ls : Nat} {xs : Nat → Int32} {A n N Ka Kc r bu : Nat} {Q last best W0 E3 D b sv F0 F1 : Int} {co t G : Nat → Int} {q : Option (Nat → Int)} {B : j_B} {p : Nat → Bool} (hn : 2 ≤ n ∧ n ≤ 4) (hr : r < 3) (hA : 114 ≤ A) (hsv : j_and (j_shr Q 8) 3 = sv) (hs2 : 0 ≤ sv ∧ sv ≤ 3) (G0 : G 0 = n) (G1 : G 1 = 3) (G4 : G 4 = 1) (G76 : G 76 = 0) (G77 : G 77 = sv) (hp : ∀ k : Nat, k < 10 → (p k = true ↔ fitP G (pkG (gU G (13 + 7 * r) (5 * (k : Int)))))) : ∀ (j k : Nat), k + j = 10 → ∀ (m : j_M0) (v H f1 : Int), Rel xs (gU G (13 + 7 * r) v) q t 0 m → aI (hH B m) A 4 co → (0 ≤ H ∧ H ≤ (k : Int)) → H + cnV p j k = F0 → (f1 = -5 ∧ fsV p j k = F1) ∨ (0 ≤ f1 ∧ f1 = F1) → (∀ (mn : j_M0) (v : Int), Rel xs (gU G (13 + 7 * r) v) q t 0 mn → aI (hH B mn) A 4 co → lG Ls (j_fin (c_call 10) 271 1708 [some (jR 0), some (jR 2), some (jI Q), some (jI (n : Int)), some (jI 1), some (jR A), some (jI 3), some (jR Ka), some (jI (N : Int)), some (jR Kc), some (jI last), some (jI best), some (jI (r : Int)), some (jI b), some (jI W0), some (jI E3), some (jI D), some (jI F0), some (jI F1), some (jI F0), some (jI F1), some (jI 50)] [] (hH B mn))) → lG Ls (j_fin (c_call 10) 271 1627 [some (jR 0), some (jR 2), some (jI Q), some (jI (n : Int)), some (jI 1), some (jR A), some (jI 3), some (jR Ka), some (jI (N : Int)), some (jR Kc), some (jI last), some (jI best), some (jI (r : Int)), some (jI b), some (jI W0), some (jI E3), some (jI D), some (jI F0), some (jI F1), some (jI H), some (jI f1), some (jI ((5 * (k : Int))))] [] (hH B m)) := by
  intro j
  induction j with
  | zero =>
    intro k hk m v H f1 w cA hHr hF hf K
    obtain rfl : k = 10 := by omega
    have K1 := K m v w cA
    have eH : H = F0 := by
      have : H + 0 = F0 := hF
      omega
    have ef : f1 = F1 := by
      rcases hf with ⟨h1, h2⟩ | ⟨-, h⟩
      · exact h1.trans h2
      · exact h
    rw [eH, ef]
    show lG Ls (j_fin (c_call 10) 271 1627 [some (jR 0), some (jR 2), some (jI Q), some (jI (n : Int)), some (jI 1), some (jR A), some (jI 3), some (jR Ka), some (jI (N : Int)), some (jR Kc), some (jI last), some (jI best), some (jI (r : Int)), some (jI b), some (jI W0), some (jI E3), some (jI D), some (jI F0), some (jI F1), some (jI F0), some (jI F1), some (jI 50)] [] (hH B m))
    refine gS (S_iload rfl at_271_1627) ?_
    refine gS (S_bipush at_271_1629) ?_
    refine gS (S_icmp_ge at_271_1631) ?_
    refine gS (if_neg (by decide)) ?_
    exact K1
  | succ j ih =>
    intro k hk m v H f1 w cA hHr hF hf K
    have w1 : gU G (13 + 7 * r) v 1 = 3 := (gU_ne (by omega)).trans G1
    obtain ⟨m1, e1, r1, q1⟩ := PB92 (L := B) w (r := r) (v := 5 * (k : Int)) (by omega) (by omega)
    rw [gU_gU] at r1
    have l1 := w.2.1.2.2.2.2.2.1 r (by omega)
    obtain ⟨v1, hv1, hv2⟩ : ∃ v1, gU G (13 + 7 * r) v (13 + 7 * r) + 1000 = v1 ∧ 901 ≤ v1 := ⟨_, rfl, by omega⟩
    rw [hv1] at e1
    obtain ⟨m2, e2, r2, q2, x2, vc, ok⟩ := PB97 (L := B) r1 (k := 12) (Nat.le_refl _)
    have e2 : c_call 10 97 [jR 2, jI 12] (hH B m1) = some (some (jI (solF (pkG (gU G (13 + 7 * r) (5 * (k : Int)))) 12).1), hH B m2) := e2
    have sp := (solF_p (pkG_ok r1.2.1) (k := 12) (Nat.le_refl _)).2.2
    have hpk := hp k (by omega)
    have fit : fitP G (pkG (gU G (13 + 7 * r) (5 * (k : Int)))) ↔ (solF (pkG (gU G (13 + 7 * r) (5 * (k : Int)))) 12).1 = 1 ∧ rightF (solF (pkG (gU G (13 + 7 * r) (5 * (k : Int)))) 12).2.1 0 / tD (solF (pkG (gU G (13 + 7 * r) (5 * (k : Int)))) 12).2.1 = sv := by
      unfold fitP
      refine and_congr_right (fun _ => ⟨fun h => ?_, fun h i hi => ?_⟩)
      · have h1 := h 0 (by rw [G4]; decide)
        rw [G76, G77] at h1
        exact h1
      · obtain rfl : i = 0 := by omega
        rw [G76, G77]
        exact h
    have m40 : m2 4 0 = n := (r2.2.2.2.1.1.2.1).trans ((gU_ne (by omega)).trans G0)
    have e3 := Q99 (d := 6) (L := B) (x := 0) (p := 0) (by rw [x2]; decide) vc ok
    rw [if_pos ⟨by omega, Or.inl rfl⟩] at e3
    have cA2 : aI (hH B m2) A 4 co := aI_k (aI_k cA (fun z => q1 _ z hA)) (fun z => q2 _ z hA)
    rw [fit] at hpk
    generalize solF (pkG (gU G (13 + 7 * r) (5 * (k : Int)))) 12 = R at e2 sp hpk e3 ok
    obtain ⟨s1, hs1'⟩ : ∃ s1, R.1 = s1 := ⟨_, rfl⟩
    rw [hs1'] at e2 sp hpk
    by_cases hs1 : s1 = 1
    · obtain ⟨sp1, sp2⟩ := sp hs1
      have aw := am_w ok (x := 0) (by decide) sp1 sp2
      rw [← aw] at hpk
      obtain ⟨am, ham'⟩ : ∃ am, lwF (rightF R.2.1 0) (tD R.2.1) 0 = am := ⟨_, rfl⟩
      rw [ham'] at e3 hpk
      by_cases ham : am = sv
      · have pk : p k = true := hpk.mpr ⟨hs1, ham⟩
        unfold cnV at hF
        unfold fsV at hf
        rw [if_pos pk] at hF hf
        rcases hf with ⟨hf1, hf2⟩ | ⟨hf1, hf2⟩
        · have K1 := ih (k + 1) (by omega) m2 _ (H + 1) (5 * (k : Int)) r2 cA2 (by omega) (by omega) (Or.inr ⟨by omega, hf2⟩) K
          refine gS (S_iload rfl at_271_1627) ?_
          refine gS (S_bipush at_271_1629) ?_
          refine gS (S_icmp_ge at_271_1631) ?_
          refine gS (if_pos (by omega)) ?_
          refine gS (S_iload rfl at_271_1634) ?_
          refine gS (S_aload_n rfl at_271_1636) ?_
          refine gS (S_iload rfl at_271_1637) ?_
          refine gS (S_iload rfl at_271_1639) ?_
          refine gS (S_invv (b := 2) (by decide) kn_92 rfl (kd_2 B m) (Nat.le_of_ble_eq_true rfl) at_271_1641) ?_
          show lG Ls (((c_call 10) 92 [jR 2, jI (r : Int), jI ((5 * (k : Int)))] (hH B m)).bind _)
          rw [e1]
          show lG Ls (j_fin (c_call 10) 271 1644 [some (jR 0), some (jR 2), some (jI Q), some (jI (n : Int)), some (jI 1), some (jR A), some (jI 3), some (jR Ka), some (jI (N : Int)), some (jR Kc), some (jI last), some (jI best), some (jI (r : Int)), some (jI b), some (jI W0), some (jI E3), some (jI D), some (jI F0), some (jI F1), some (jI H), some (jI f1), some (jI ((5 * (k : Int))))] [jI v1, jI 1] (hH B m1))
          refine gS (S_sipush at_271_1644) ?_
          refine gS (S_icmp_lt at_271_1647) ?_
          refine gS (if_neg (by omega)) ?_
          refine gS (S_iconst at_271_1650) ?_
          refine gS (S_goto at_271_1651) ?_
          refine gS (S_iand at_271_1655) ?_
          rw [j_and11]
          refine gS (S_istore (l1 := [some (jR 0), some (jR 2), some (jI Q), some (jI (n : Int)), some (jI 1), some (jR A), some (jI 3), some (jR Ka), some (jI (N : Int)), some (jR Kc), some (jI last), some (jI best), some (jI (r : Int)), some (jI b), some (jI W0), some (jI E3), some (jI D), some (jI F0), some (jI F1), some (jI H), some (jI f1), some (jI ((5 * (k : Int))))]) rfl at_271_1656) ?_
          refine gS (S_aload_n rfl at_271_1658) ?_
          refine gS (S_bipush at_271_1659) ?_
          refine gS (S_invv (b := 1) (by decide) kn_97 rfl (kd_2 B m1) (Nat.le_of_ble_eq_true rfl) at_271_1661) ?_
          show lG Ls (((c_call 10) 97 [jR 2, jI 12] (hH B m1)).bind _)
          rw [e2]
          show lG Ls (j_fin (c_call 10) 271 1664 [some (jR 0), some (jR 2), some (jI Q), some (jI (n : Int)), some (jI 1), some (jR A), some (jI 3), some (jR Ka), some (jI (N : Int)), some (jR Kc), some (jI last), some (jI best), some (jI (r : Int)), some (jI b), some (jI W0), some (jI E3), some (jI D), some (jI F0), some (jI F1), some (jI H), some (jI f1), some (jI ((5 * (k : Int))))] [jI s1] (hH B m2))
          refine gS (S_iconst at_271_1664) ?_
          refine gS (S_icmp_ne at_271_1665) ?_
          refine gS (if_pos hs1) ?_
          refine gS (S_aload_n rfl at_271_1668) ?_
          refine gS (S_iconst at_271_1669) ?_
          refine gS (S_iconst at_271_1670) ?_
          refine gS (S_invv (b := 2) (by decide) kn_99 rfl (kd_2 B m2) (Nat.le_of_ble_eq_true rfl) at_271_1671) ?_
          show lG Ls (((c_call 10) 99 [jR 2, jI 0, jI 0] (hH B m2)).bind _)
          rw [e3]
          show lG Ls (j_fin (c_call 10) 271 1674 [some (jR 0), some (jR 2), some (jI Q), some (jI (n : Int)), some (jI 1), some (jR A), some (jI 3), some (jR Ka), some (jI (N : Int)), some (jR Kc), some (jI last), some (jI best), some (jI (r : Int)), some (jI b), some (jI W0), some (jI E3), some (jI D), some (jI F0), some (jI F1), some (jI H), some (jI f1), some (jI ((5 * (k : Int))))] [jL am] (hH B m2))
          refine gS (S_iload_n rfl at_271_1674) ?_
          refine gS (S_bipush at_271_1675) ?_
          refine gS (S_ishr at_271_1677) ?_
          refine gS (S_iconst at_271_1678) ?_
          refine gS (S_iand at_271_1679) ?_
          rw [show j_and (j_shr Q 8) 3 = sv from hsv]
          refine gS (S_i2l at_271_1680) ?_
          refine gS (S_lcmp at_271_1681) ?_
          refine gS (S_if_ne at_271_1682) ?_
          refine gS (if_pos (cmp_0.mpr ham)) ?_
          refine gS (S_iinc (l1 := [some (jR 0), some (jR 2), some (jI Q), some (jI (n : Int)), some (jI 1), some (jR A), some (jI 3), some (jR Ka), some (jI (N : Int)), some (jR Kc), some (jI last), some (jI best), some (jI (r : Int)), some (jI b), some (jI W0), some (jI E3), some (jI D), some (jI F0), some (jI F1), some (jI (w32 (H + 1))), some (jI f1), some (jI ((5 * (k : Int))))]) rfl rfl at_271_1685) ?_
          rw [show w32 (H + 1) = H + 1 from w32_id (by omega) (by omega)]
          refine gS (S_iload rfl at_271_1688) ?_
          refine gS (S_if_ge at_271_1690) ?_
          refine gS (if_pos (by omega)) ?_
          refine gS (S_iload rfl at_271_1693) ?_
          refine gS (S_goto at_271_1695) ?_
          refine gS (S_istore (l1 := [some (jR 0), some (jR 2), some (jI Q), some (jI (n : Int)), some (jI 1), some (jR A), some (jI 3), some (jR Ka), some (jI (N : Int)), some (jR Kc), some (jI last), some (jI best), some (jI (r : Int)), some (jI b), some (jI W0), some (jI E3), some (jI D), some (jI F0), some (jI F1), some (jI (H + 1)), some (jI ((5 * (k : Int)))), some (jI ((5 * (k : Int))))]) rfl at_271_1700) ?_
          refine gS (S_iinc (l1 := [some (jR 0), some (jR 2), some (jI Q), some (jI (n : Int)), some (jI 1), some (jR A), some (jI 3), some (jR Ka), some (jI (N : Int)), some (jR Kc), some (jI last), some (jI best), some (jI (r : Int)), some (jI b), some (jI W0), some (jI E3), some (jI D), some (jI F0), some (jI F1), some (jI (H + 1)), some (jI ((5 * (k : Int)))), some (jI (w32 (((5 * (k : Int))) + 5)))]) rfl rfl at_271_1702) ?_
          rw [show w32 (((5 * (k : Int))) + 5) = 5 * ((k + 1 : Nat) : Int) from (w32_id (by omega) (by omega)).trans (by omega)]
          refine gS (S_goto at_271_1705) ?_
          exact K1
        · have K1 := ih (k + 1) (by omega) m2 _ (H + 1) f1 r2 cA2 (by omega) (by omega) (Or.inr ⟨hf1, hf2⟩) K
          refine gS (S_iload rfl at_271_1627) ?_
          refine gS (S_bipush at_271_1629) ?_
          refine gS (S_icmp_ge at_271_1631) ?_
          refine gS (if_pos (by omega)) ?_
          refine gS (S_iload rfl at_271_1634) ?_
          refine gS (S_aload_n rfl at_271_1636) ?_
          refine gS (S_iload rfl at_271_1637) ?_
          refine gS (S_iload rfl at_271_1639) ?_
          refine gS (S_invv (b := 2) (by decide) kn_92 rfl (kd_2 B m) (Nat.le_of_ble_eq_true rfl) at_271_1641) ?_
          show lG Ls (((c_call 10) 92 [jR 2, jI (r : Int), jI ((5 * (k : Int)))] (hH B m)).bind _)
          rw [e1]
          show lG Ls (j_fin (c_call 10) 271 1644 [some (jR 0), some (jR 2), some (jI Q), some (jI (n : Int)), some (jI 1), some (jR A), some (jI 3), some (jR Ka), some (jI (N : Int)), some (jR Kc), some (jI last), some (jI best), some (jI (r : Int)), some (jI b), some (jI W0), some (jI E3), some (jI D), some (jI F0), some (jI F1), some (jI H), some (jI f1), some (jI ((5 * (k : Int))))] [jI v1, jI 1] (hH B m1))
          refine gS (S_sipush at_271_1644) ?_
          refine gS (S_icmp_lt at_271_1647) ?_
          refine gS (if_neg (by omega)) ?_
          refine gS (S_iconst at_271_1650) ?_
          refine gS (S_goto at_271_1651) ?_
          refine gS (S_iand at_271_1655) ?_
          rw [j_and11]
          refine gS (S_istore (l1 := [some (jR 0), some (jR 2), some (jI Q), some (jI (n : Int)), some (jI 1), some (jR A), some (jI 3), some (jR Ka), some (jI (N : Int)), some (jR Kc), some (jI last), some (jI best), some (jI (r : Int)), some (jI b), some (jI W0), some (jI E3), some (jI D), some (jI F0), some (jI F1), some (jI H), some (jI f1), some (jI ((5 * (k : Int))))]) rfl at_271_1656) ?_
          refine gS (S_aload_n rfl at_271_1658) ?_
          refine gS (S_bipush at_271_1659) ?_
          refine gS (S_invv (b := 1) (by decide) kn_97 rfl (kd_2 B m1) (Nat.le_of_ble_eq_true rfl) at_271_1661) ?_
          show lG Ls (((c_call 10) 97 [jR 2, jI 12] (hH B m1)).bind _)
          rw [e2]
          show lG Ls (j_fin (c_call 10) 271 1664 [some (jR 0), some (jR 2), some (jI Q), some (jI (n : Int)), some (jI 1), some (jR A), some (jI 3), some (jR Ka), some (jI (N : Int)), some (jR Kc), some (jI last), some (jI best), some (jI (r : Int)), some (jI b), some (jI W0), some (jI E3), some (jI D), some (jI F0), some (jI F1), some (jI H), some (jI f1), some (jI ((5 * (k : Int))))] [jI s1] (hH B m2))
          refine gS (S_iconst at_271_1664) ?_
          refine gS (S_icmp_ne at_271_1665) ?_
          refine gS (if_pos hs1) ?_
          refine gS (S_aload_n rfl at_271_1668) ?_
          refine gS (S_iconst at_271_1669) ?_
          refine gS (S_iconst at_271_1670) ?_
          refine gS (S_invv (b := 2) (by decide) kn_99 rfl (kd_2 B m2) (Nat.le_of_ble_eq_true rfl) at_271_1671) ?_
          show lG Ls (((c_call 10) 99 [jR 2, jI 0, jI 0] (hH B m2)).bind _)
          rw [e3]
          show lG Ls (j_fin (c_call 10) 271 1674 [some (jR 0), some (jR 2), some (jI Q), some (jI (n : Int)), some (jI 1), some (jR A), some (jI 3), some (jR Ka), some (jI (N : Int)), some (jR Kc), some (jI last), some (jI best), some (jI (r : Int)), some (jI b), some (jI W0), some (jI E3), some (jI D), some (jI F0), some (jI F1), some (jI H), some (jI f1), some (jI ((5 * (k : Int))))] [jL am] (hH B m2))
          refine gS (S_iload_n rfl at_271_1674) ?_
          refine gS (S_bipush at_271_1675) ?_
          refine gS (S_ishr at_271_1677) ?_
          refine gS (S_iconst at_271_1678) ?_
          refine gS (S_iand at_271_1679) ?_
          rw [show j_and (j_shr Q 8) 3 = sv from hsv]
          refine gS (S_i2l at_271_1680) ?_
          refine gS (S_lcmp at_271_1681) ?_
          refine gS (S_if_ne at_271_1682) ?_
          refine gS (if_pos (cmp_0.mpr ham)) ?_
          refine gS (S_iinc (l1 := [some (jR 0), some (jR 2), some (jI Q), some (jI (n : Int)), some (jI 1), some (jR A), some (jI 3), some (jR Ka), some (jI (N : Int)), some (jR Kc), some (jI last), some (jI best), some (jI (r : Int)), some (jI b), some (jI W0), some (jI E3), some (jI D), some (jI F0), some (jI F1), some (jI (w32 (H + 1))), some (jI f1), some (jI ((5 * (k : Int))))]) rfl rfl at_271_1685) ?_
          rw [show w32 (H + 1) = H + 1 from w32_id (by omega) (by omega)]
          refine gS (S_iload rfl at_271_1688) ?_
          refine gS (S_if_ge at_271_1690) ?_
          refine gS (if_neg (by omega)) ?_
          refine gS (S_iload rfl at_271_1698) ?_
          refine gS (S_istore (l1 := [some (jR 0), some (jR 2), some (jI Q), some (jI (n : Int)), some (jI 1), some (jR A), some (jI 3), some (jR Ka), some (jI (N : Int)), some (jR Kc), some (jI last), some (jI best), some (jI (r : Int)), some (jI b), some (jI W0), some (jI E3), some (jI D), some (jI F0), some (jI F1), some (jI (H + 1)), some (jI f1), some (jI ((5 * (k : Int))))]) rfl at_271_1700) ?_
          refine gS (S_iinc (l1 := [some (jR 0), some (jR 2), some (jI Q), some (jI (n : Int)), some (jI 1), some (jR A), some (jI 3), some (jR Ka), some (jI (N : Int)), some (jR Kc), some (jI last), some (jI best), some (jI (r : Int)), some (jI b), some (jI W0), some (jI E3), some (jI D), some (jI F0), some (jI F1), some (jI (H + 1)), some (jI f1), some (jI (w32 (((5 * (k : Int))) + 5)))]) rfl rfl at_271_1702) ?_
          rw [show w32 (((5 * (k : Int))) + 5) = 5 * ((k + 1 : Nat) : Int) from (w32_id (by omega) (by omega)).trans (by omega)]
          refine gS (S_goto at_271_1705) ?_
          exact K1
      · have pk : ¬ p k = true := fun h => ham (hpk.mp h).2
        unfold cnV at hF
        unfold fsV at hf
        rw [if_neg pk] at hF hf
        have K1 := ih (k + 1) (by omega) m2 _ H f1 r2 cA2 (by omega) (by omega) hf K
        refine gS (S_iload rfl at_271_1627) ?_
        refine gS (S_bipush at_271_1629) ?_
        refine gS (S_icmp_ge at_271_1631) ?_
        refine gS (if_pos (by omega)) ?_
        refine gS (S_iload rfl at_271_1634) ?_
        refine gS (S_aload_n rfl at_271_1636) ?_
        refine gS (S_iload rfl at_271_1637) ?_
        refine gS (S_iload rfl at_271_1639) ?_
        refine gS (S_invv (b := 2) (by decide) kn_92 rfl (kd_2 B m) (Nat.le_of_ble_eq_true rfl) at_271_1641) ?_
        show lG Ls (((c_call 10) 92 [jR 2, jI (r : Int), jI ((5 * (k : Int)))] (hH B m)).bind _)
        rw [e1]
        show lG Ls (j_fin (c_call 10) 271 1644 [some (jR 0), some (jR 2), some (jI Q), some (jI (n : Int)), some (jI 1), some (jR A), some (jI 3), some (jR Ka), some (jI (N : Int)), some (jR Kc), some (jI last), some (jI best), some (jI (r : Int)), some (jI b), some (jI W0), some (jI E3), some (jI D), some (jI F0), some (jI F1), some (jI H), some (jI f1), some (jI ((5 * (k : Int))))] [jI v1, jI 1] (hH B m1))
        refine gS (S_sipush at_271_1644) ?_
        refine gS (S_icmp_lt at_271_1647) ?_
        refine gS (if_neg (by omega)) ?_
        refine gS (S_iconst at_271_1650) ?_
        refine gS (S_goto at_271_1651) ?_
        refine gS (S_iand at_271_1655) ?_
        rw [j_and11]
        refine gS (S_istore (l1 := [some (jR 0), some (jR 2), some (jI Q), some (jI (n : Int)), some (jI 1), some (jR A), some (jI 3), some (jR Ka), some (jI (N : Int)), some (jR Kc), some (jI last), some (jI best), some (jI (r : Int)), some (jI b), some (jI W0), some (jI E3), some (jI D), some (jI F0), some (jI F1), some (jI H), some (jI f1), some (jI ((5 * (k : Int))))]) rfl at_271_1656) ?_
        refine gS (S_aload_n rfl at_271_1658) ?_
        refine gS (S_bipush at_271_1659) ?_
        refine gS (S_invv (b := 1) (by decide) kn_97 rfl (kd_2 B m1) (Nat.le_of_ble_eq_true rfl) at_271_1661) ?_
        show lG Ls (((c_call 10) 97 [jR 2, jI 12] (hH B m1)).bind _)
        rw [e2]
        show lG Ls (j_fin (c_call 10) 271 1664 [some (jR 0), some (jR 2), some (jI Q), some (jI (n : Int)), some (jI 1), some (jR A), some (jI 3), some (jR Ka), some (jI (N : Int)), some (jR Kc), some (jI last), some (jI best), some (jI (r : Int)), some (jI b), some (jI W0), some (jI E3), some (jI D), some (jI F0), some (jI F1), some (jI H), some (jI f1), some (jI ((5 * (k : Int))))] [jI s1] (hH B m2))
        refine gS (S_iconst at_271_1664) ?_
        refine gS (S_icmp_ne at_271_1665) ?_
        refine gS (if_pos hs1) ?_
        refine gS (S_aload_n rfl at_271_1668) ?_
        refine gS (S_iconst at_271_1669) ?_
        refine gS (S_iconst at_271_1670) ?_
        refine gS (S_invv (b := 2) (by decide) kn_99 rfl (kd_2 B m2) (Nat.le_of_ble_eq_true rfl) at_271_1671) ?_
        show lG Ls (((c_call 10) 99 [jR 2, jI 0, jI 0] (hH B m2)).bind _)
        rw [e3]
        show lG Ls (j_fin (c_call 10) 271 1674 [some (jR 0), some (jR 2), some (jI Q), some (jI (n : Int)), some (jI 1), some (jR A), some (jI 3), some (jR Ka), some (jI (N : Int)), some (jR Kc), some (jI last), some (jI best), some (jI (r : Int)), some (jI b), some (jI W0), some (jI E3), some (jI D), some (jI F0), some (jI F1), some (jI H), some (jI f1), some (jI ((5 * (k : Int))))] [jL am] (hH B m2))
        refine gS (S_iload_n rfl at_271_1674) ?_
        refine gS (S_bipush at_271_1675) ?_
        refine gS (S_ishr at_271_1677) ?_
        refine gS (S_iconst at_271_1678) ?_
        refine gS (S_iand at_271_1679) ?_
        rw [show j_and (j_shr Q 8) 3 = sv from hsv]
        refine gS (S_i2l at_271_1680) ?_
        refine gS (S_lcmp at_271_1681) ?_
        refine gS (S_if_ne at_271_1682) ?_
        refine gS (if_neg (fun h => ham (cmp_0.mp h))) ?_
        refine gS (S_iinc (l1 := [some (jR 0), some (jR 2), some (jI Q), some (jI (n : Int)), some (jI 1), some (jR A), some (jI 3), some (jR Ka), some (jI (N : Int)), some (jR Kc), some (jI last), some (jI best), some (jI (r : Int)), some (jI b), some (jI W0), some (jI E3), some (jI D), some (jI F0), some (jI F1), some (jI H), some (jI f1), some (jI (w32 (((5 * (k : Int))) + 5)))]) rfl rfl at_271_1702) ?_
        rw [show w32 (((5 * (k : Int))) + 5) = 5 * ((k + 1 : Nat) : Int) from (w32_id (by omega) (by omega)).trans (by omega)]
        refine gS (S_goto at_271_1705) ?_
        exact K1
    · have pk : ¬ p k = true := fun h => hs1 (hpk.mp h).1
      unfold cnV at hF
      unfold fsV at hf
      rw [if_neg pk] at hF hf
      have K1 := ih (k + 1) (by omega) m2 _ H f1 r2 cA2 (by omega) (by omega) hf K
      refine gS (S_iload rfl at_271_1627) ?_
      refine gS (S_bipush at_271_1629) ?_
      refine gS (S_icmp_ge at_271_1631) ?_
      refine gS (if_pos (by omega)) ?_
      refine gS (S_iload rfl at_271_1634) ?_
      refine gS (S_aload_n rfl at_271_1636) ?_
      refine gS (S_iload rfl at_271_1637) ?_
      refine gS (S_iload rfl at_271_1639) ?_
      refine gS (S_invv (b := 2) (by decide) kn_92 rfl (kd_2 B m) (Nat.le_of_ble_eq_true rfl) at_271_1641) ?_
      show lG Ls (((c_call 10) 92 [jR 2, jI (r : Int), jI ((5 * (k : Int)))] (hH B m)).bind _)
      rw [e1]
      show lG Ls (j_fin (c_call 10) 271 1644 [some (jR 0), some (jR 2), some (jI Q), some (jI (n : Int)), some (jI 1), some (jR A), some (jI 3), some (jR Ka), some (jI (N : Int)), some (jR Kc), some (jI last), some (jI best), some (jI (r : Int)), some (jI b), some (jI W0), some (jI E3), some (jI D), some (jI F0), some (jI F1), some (jI H), some (jI f1), some (jI ((5 * (k : Int))))] [jI v1, jI 1] (hH B m1))
      refine gS (S_sipush at_271_1644) ?_
      refine gS (S_icmp_lt at_271_1647) ?_
      refine gS (if_neg (by omega)) ?_
      refine gS (S_iconst at_271_1650) ?_
      refine gS (S_goto at_271_1651) ?_
      refine gS (S_iand at_271_1655) ?_
      rw [j_and11]
      refine gS (S_istore (l1 := [some (jR 0), some (jR 2), some (jI Q), some (jI (n : Int)), some (jI 1), some (jR A), some (jI 3), some (jR Ka), some (jI (N : Int)), some (jR Kc), some (jI last), some (jI best), some (jI (r : Int)), some (jI b), some (jI W0), some (jI E3), some (jI D), some (jI F0), some (jI F1), some (jI H), some (jI f1), some (jI ((5 * (k : Int))))]) rfl at_271_1656) ?_
      refine gS (S_aload_n rfl at_271_1658) ?_
      refine gS (S_bipush at_271_1659) ?_
      refine gS (S_invv (b := 1) (by decide) kn_97 rfl (kd_2 B m1) (Nat.le_of_ble_eq_true rfl) at_271_1661) ?_
      show lG Ls (((c_call 10) 97 [jR 2, jI 12] (hH B m1)).bind _)
      rw [e2]
      show lG Ls (j_fin (c_call 10) 271 1664 [some (jR 0), some (jR 2), some (jI Q), some (jI (n : Int)), some (jI 1), some (jR A), some (jI 3), some (jR Ka), some (jI (N : Int)), some (jR Kc), some (jI last), some (jI best), some (jI (r : Int)), some (jI b), some (jI W0), some (jI E3), some (jI D), some (jI F0), some (jI F1), some (jI H), some (jI f1), some (jI ((5 * (k : Int))))] [jI s1] (hH B m2))
      refine gS (S_iconst at_271_1664) ?_
      refine gS (S_icmp_ne at_271_1665) ?_
      refine gS (if_neg hs1) ?_
      refine gS (S_iinc (l1 := [some (jR 0), some (jR 2), some (jI Q), some (jI (n : Int)), some (jI 1), some (jR A), some (jI 3), some (jR Ka), some (jI (N : Int)), some (jR Kc), some (jI last), some (jI best), some (jI (r : Int)), some (jI b), some (jI W0), some (jI E3), some (jI D), some (jI F0), some (jI F1), some (jI H), some (jI f1), some (jI (w32 (((5 * (k : Int))) + 5)))]) rfl rfl at_271_1702) ?_
      rw [show w32 (((5 * (k : Int))) + 5) = 5 * ((k + 1 : Nat) : Int) from (w32_id (by omega) (by omega)).trans (by omega)]
      refine gS (S_goto at_271_1705) ?_
      exact K1
set_option maxHeartbeats 1000000 in
theorem T_1708 {Ls : Nat} {xs : Nat → Int32} {A n N Ka Kc : Nat} {Q last best : Int} {co t : Nat → Int} {B : j_B} {m : j_M0} {G : Nat → Int} {q : Option (Nat → Int)} {W0 E3 D b v F1 : Int} {r bu : Nat} {p : Nat → Bool} (hN : lNk n co) (hr : r < 3) (hA : 114 ≤ A) (hB : B.1 = Ls) (hl : lB B bu) (hbu : bu ≤ 4000) (G0 : G 0 = n) (G1 : G 1 = 3) (hc : ∀ k : Nat, k < n → G (7 + k) = co k) (hp : ∀ k : Nat, k < 10 → (p k = true ↔ fitP G (pkG (gU G (13 + 7 * r) (5 * (k : Int)))))) (cA : aI (hH B m) A 4 co) (w : Rel xs (gU G (13 + 7 * r) v) q t 0 m) : lG Ls (j_fin (c_call 10) 271 1708 [some (jR 0), some (jR 2), some (jI Q), some (jI (n : Int)), some (jI 1), some (jR A), some (jI 3), some (jR Ka), some (jI (N : Int)), some (jR Kc), some (jI last), some (jI best), some (jI (r : Int)), some (jI b), some (jI W0), some (jI E3), some (jI D), some (jI (cnV p 10 0)), some (jI F1), some (jI (cnV p 10 0)), some (jI F1), some (jI 50)] [] (hH B m)) := by
  have hn := hN.1
  have w1 : gU G (13 + 7 * r) v 1 = 3 := (gU_ne (by omega)).trans G1
  have w0 : gU G (13 + 7 * r) v 0 = n := (gU_ne (by omega)).trans G0
  obtain ⟨m1, e1, r1, q1⟩ := PB116z (L := B) w 0
  have z1 : gU (gU G (13 + 7 * r) v) 4 0 1 = 3 := (gU_ne (by omega)).trans w1
  have z0 : gU (gU G (13 + 7 * r) v) 4 0 0 = n := (gU_ne (by omega)).trans w0
  have zc : ∀ k : Nat, k < n → gU (gU G (13 + 7 * r) v) 4 0 (7 + k) = co k := fun k hk => by
    rw [gU_ne (by omega), gU_ne (by omega)]
    exact hc k hk
  obtain ⟨p', hp'⟩ := dcP (fun k => fitP (gU (gU G (13 + 7 * r) v) 4 0) (pkG (gU (gU (gU G (13 + 7 * r) v) 4 0) (13 + 7 * r) (5 * (k : Int)))))
  obtain ⟨m2, e2, r2, q2⟩ := PB117 (L := B) r1 (r := r) (y := 0) (by omega) (by omega) (p := p') (fun k _ => hp' k)
  rw [if_pos rfl] at e2
  have le : ∀ j k : Nat, k + j ≤ 10 → cnV p j k ≤ cnV p' j k := by
    intro j
    induction j with
    | zero => intro k _; exact Int.le_refl _
    | succ j ih =>
      intro k hk
      have i1 := ih (k + 1) (by omega)
      have h : p k = true → p' k = true := fun h1 => by
        have h2 := (hp k (by omega)).mp h1
        refine (hp' k).mpr ⟨?_, fun i hi => ?_⟩
        · have pe : pkG (gU (gU (gU G (13 + 7 * r) v) 4 0) (13 + 7 * r) (5 * (k : Int))) = pkG (gU G (13 + 7 * r) (5 * (k : Int))) := by
            refine pkG_e ?_ ?_ (fun z hz => ?_)
            · rw [gU_ne (by omega), gU_ne (by omega), gU_ne (by omega), gU_ne (by omega)]
            · rw [gU_ne (by omega), gU_ne (by omega), gU_ne (by omega), gU_ne (by omega)]
            · show (if z = 13 + 7 * r then 5 * (k : Int) else gU (gU G (13 + 7 * r) v) 4 0 z) = (if z = 13 + 7 * r then 5 * (k : Int) else G z)
              by_cases e : z = 13 + 7 * r
              · rw [if_pos e, if_pos e]
              · rw [if_neg e, if_neg e, gU_ne (by omega), gU_ne e]
          rw [pe]
          exact h2.1
        · rw [gU_eq rfl] at hi
          omega
      unfold cnV
      by_cases e : p k = true
      · rw [if_pos e, if_pos (h e)]
        omega
      · rw [if_neg e]
        split <;> omega
  have lF := le 10 0 (by omega)
  generalize cnV p 10 0 = F0 at lF ⊢
  generalize cnV p' 10 0 = F2 at lF e2
  obtain ⟨m3, e3, r3, q3⟩ := PB119 (L := B) r2 (p := 0) (Or.inl rfl)
  obtain ⟨m4, e4, r4, q4⟩ := PB119 (L := B) r3 (p := 1) (Or.inr rfl)
  have me := me_3 hN zc
  rw [z0, Int.toNat_natCast, me] at e3 e4
  obtain ⟨S, hS⟩ : ∃ S, co 0 + co 1 + co 2 + co 3 = S := ⟨_, rfl⟩
  rw [hS] at e3 e4
  have o0 := hN.2.1 0 (by omega)
  have o1 := hN.2.1 1 (by omega)
  have o2 := hN.2.1 2 (by omega)
  have o3 := hN.2.1 3 (by omega)
  have mx := mean_x (x := S) (y := (n : Int)) (by omega) (by omega)
  have b0 := lw_b (x := S) (y := (n : Int)) (p := 0) (by omega) (by omega)
  have b1 := lw_b (x := S) (y := (n : Int)) (p := 1) (by omega) (by omega)
  obtain ⟨a0, ha0⟩ : ∃ a0, lwF S (n : Int) 0 = a0 := ⟨_, rfl⟩
  obtain ⟨a1, ha1⟩ : ∃ a1, lwF S (n : Int) 1 = a1 := ⟨_, rfl⟩
  rw [ha0] at e3 mx b0
  rw [ha1] at e4 mx b1
  have hmean : a0 * (n : Int) = a1 * S := mx
  have y0 : 0 ≤ a0 * (n : Int) ∧ a0 * (n : Int) ≤ 1000 * 4 := ⟨Int.mul_nonneg b0.1 (by omega), Int.mul_le_mul b0.2 (by omega) (by omega) (by decide)⟩
  have y1 : 0 ≤ a1 * S ∧ a1 * S ≤ 1000 * 4 := by
    rw [← hmean]
    exact y0
  have c4 : aI (hH B m4) A 4 co := aI_k (aI_k (aI_k (aI_k cA (fun z => q1 _ z hA)) (fun z => q2 _ z hA)) (fun z => q3 _ z hA)) (fun z => q4 _ z hA)
  have ten : 100 ≤ tenF (gU (gU G (13 + 7 * r) v) 4 0 0).toNat := by
    rw [z0, Int.toNat_natCast]
    have hn' : n = 2 ∨ n = 3 ∨ n = 4 := by omega
    rcases hn' with rfl | rfl | rfl <;> decide
  obtain ⟨m5, e5, r5, q5⟩ := PB116p (L := B) r4 (x := (n : Int)) (v := 0) (by omega) (by omega)
  obtain ⟨m6, e6, r6, q6⟩ := PB116v (L := B) r5 (x := 0) (v := 1000) (by omega) (by omega)
  obtain ⟨m7, e7, r7, q7⟩ := PB117n (L := B) r6 (x := 3) (y := 0) (by omega)
  obtain ⟨m8, e8, r8, q8⟩ := PB121c (L := B) r7 (x := -1) (v := 0) (by omega)
  obtain ⟨m9, e9, r9, q9⟩ := PB121v (L := B) r8 (x := 0) (v := 1000) (by omega) (by omega)
  obtain ⟨m10, e10, r10, q10⟩ := PB125w (L := B) r9 (a := 3) (x := 0) (v := 0) (by omega)
  obtain ⟨m11, e11, r11, q11⟩ := PB125r (L := B) r10 (x := 3) (v := 0) (by omega)
  obtain ⟨m12, e12, r12, q12⟩ := PB125v (L := B) r11 (x := 0) (v := 100) (by omega) (by decide)
  obtain ⟨m13, e13, r13, q13⟩ := PB131a (L := B) r12 (x := 5) (v := 1) (by omega)
  obtain ⟨m14, e14, r14, q14⟩ := PB131b (L := B) r13 (x := 0) (v := 61) (by omega) (by omega)
  obtain ⟨m15, e15, r15, q15⟩ := PB131c (L := B) r14 (x := 0) (v := -1) (by omega) (by omega)
  obtain ⟨m16, e16, r16, q16⟩ := PB132 (L := B) r15 (i := 0) (v := 1)
  have e17 : c_call 10 130 [jR 2, jI 10] (hH B m16) = some (some (jI (-2)), hH B m16) := Q130s r16 (Or.inr (Or.inr (Or.inr (Or.inr (Or.inr ⟨rfl, rfl⟩)))))
  obtain ⟨m18, e18, r18, q18⟩ := PB88n (L := B) r16 (v := 6) (by omega)
  obtain ⟨m19, e19, r19, q19⟩ := PB120n (L := B) r18 (x := 0) (v := 5) (by omega)
  have K1 : lG Ls (some (some (jI 1), hH B m19)) := by
    obtain ⟨B1, B2, B3⟩ := B
    have hB' : B1 = Ls := hB
    subst hB'
    obtain ⟨l1, l2, l3⟩ := hl
    exact ⟨B2, B3, m19, rfl, by show B2.length ≤ 100000; exact Nat.le_trans l2 (by omega), Nat.le_trans l3 (by omega)⟩
  refine gS (S_iload rfl at_271_1708) ?_
  refine gS (S_if_eq at_271_1710) ?_
  refine gS (if_neg (by decide)) ?_
  refine gS (S_iload rfl at_271_1713) ?_
  refine gS (S_iload rfl at_271_1715) ?_
  refine gS (S_icmp_ne at_271_1717) ?_
  refine gS (if_pos rfl) ?_
  refine gS (S_iload rfl at_271_1720) ?_
  refine gS (S_iload rfl at_271_1722) ?_
  refine gS (S_icmp_ne at_271_1724) ?_
  refine gS (if_pos rfl) ?_
  refine gS (S_aload_n rfl at_271_1727) ?_
  refine gS (S_iconst at_271_1728) ?_
  refine gS (S_iconst at_271_1729) ?_
  refine gS (S_invv (b := 2) (by decide) kn_116 rfl (kd_2 B m) (Nat.le_of_ble_eq_true rfl) at_271_1730) ?_
  show lG Ls (((c_call 10) 116 [jR 2, jI (-1), jI 0] (hH B m)).bind _)
  rw [e1]
  show lG Ls (j_fin (c_call 10) 271 1733 [some (jR 0), some (jR 2), some (jI Q), some (jI (n : Int)), some (jI 1), some (jR A), some (jI 3), some (jR Ka), some (jI (N : Int)), some (jR Kc), some (jI last), some (jI best), some (jI (r : Int)), some (jI b), some (jI W0), some (jI E3), some (jI D), some (jI F0), some (jI F1), some (jI F0), some (jI F1), some (jI 50)] [jI 0] (hH B m1))
  refine gS (S_if_ne at_271_1733) ?_
  refine gS (if_pos (by decide)) ?_
  refine gS (S_aload_n rfl at_271_1736) ?_
  refine gS (S_iload rfl at_271_1737) ?_
  refine gS (S_iconst at_271_1739) ?_
  refine gS (S_invv (b := 2) (by decide) kn_117 rfl (kd_2 B m1) (Nat.le_of_ble_eq_true rfl) at_271_1740) ?_
  show lG Ls (((c_call 10) 117 [jR 2, jI (r : Int), jI 0] (hH B m1)).bind _)
  rw [e2]
  show lG Ls (j_fin (c_call 10) 271 1743 [some (jR 0), some (jR 2), some (jI Q), some (jI (n : Int)), some (jI 1), some (jR A), some (jI 3), some (jR Ka), some (jI (N : Int)), some (jR Kc), some (jI last), some (jI best), some (jI (r : Int)), some (jI b), some (jI W0), some (jI E3), some (jI D), some (jI F0), some (jI F1), some (jI F0), some (jI F1), some (jI 50)] [jI F2] (hH B m2))
  refine gS (S_iload rfl at_271_1743) ?_
  refine gS (S_icmp_lt at_271_1745) ?_
  refine gS (if_neg (by omega)) ?_
  refine gS (S_aload_n rfl at_271_1748) ?_
  refine gS (S_iconst at_271_1749) ?_
  refine gS (S_invv (b := 1) (by decide) kn_119 rfl (kd_2 B m2) (Nat.le_of_ble_eq_true rfl) at_271_1750) ?_
  show lG Ls (((c_call 10) 119 [jR 2, jI 0] (hH B m2)).bind _)
  rw [e3]
  show lG Ls (j_fin (c_call 10) 271 1753 [some (jR 0), some (jR 2), some (jI Q), some (jI (n : Int)), some (jI 1), some (jR A), some (jI 3), some (jR Ka), some (jI (N : Int)), some (jR Kc), some (jI last), some (jI best), some (jI (r : Int)), some (jI b), some (jI W0), some (jI E3), some (jI D), some (jI F0), some (jI F1), some (jI F0), some (jI F1), some (jI 50)] [jL a0] (hH B m3))
  refine gS (S_iload_n rfl at_271_1753) ?_
  refine gS (S_i2l at_271_1754) ?_
  refine gS (S_lmul at_271_1755) ?_
  rw [show w64 (a0 * (n : Int)) = a0 * (n : Int) from w64_id (by omega) (by omega)]
  refine gS (S_aload_n rfl at_271_1756) ?_
  refine gS (S_iconst at_271_1757) ?_
  refine gS (S_invv (b := 1) (by decide) kn_119 rfl (kd_2 B m3) (Nat.le_of_ble_eq_true rfl) at_271_1758) ?_
  show lG Ls (((c_call 10) 119 [jR 2, jI 1] (hH B m3)).bind _)
  rw [e4]
  show lG Ls (j_fin (c_call 10) 271 1761 [some (jR 0), some (jR 2), some (jI Q), some (jI (n : Int)), some (jI 1), some (jR A), some (jI 3), some (jR Ka), some (jI (N : Int)), some (jR Kc), some (jI last), some (jI best), some (jI (r : Int)), some (jI b), some (jI W0), some (jI E3), some (jI D), some (jI F0), some (jI F1), some (jI F0), some (jI F1), some (jI 50)] [jL a1, jL ((a0 * (n : Int)))] (hH B m4))
  refine gS (S_aload rfl at_271_1761) ?_
  refine gS (S_iconst at_271_1763) ?_
  refine gS (S_iaload (aI_1 cA) at_271_1764) ?_
  refine gS (if_pos ⟨by omega, by omega⟩) ?_
  rw [show (hH B m4).2.2 A ((0 : Int).toNat) = co 0 from c4.2 0 (by omega)]
  refine gS (S_aload rfl at_271_1765) ?_
  refine gS (S_iconst at_271_1767) ?_
  refine gS (S_iaload (aI_1 cA) at_271_1768) ?_
  refine gS (if_pos ⟨by omega, by omega⟩) ?_
  rw [show (hH B m4).2.2 A ((1 : Int).toNat) = co 1 from c4.2 1 (by omega)]
  refine gS (S_iadd at_271_1769) ?_
  rw [show w32 ((co 0) + (co 1)) = co 0 + co 1 from w32_id (by omega) (by omega)]
  refine gS (S_aload rfl at_271_1770) ?_
  refine gS (S_iconst at_271_1772) ?_
  refine gS (S_iaload (aI_1 cA) at_271_1773) ?_
  refine gS (if_pos ⟨by omega, by omega⟩) ?_
  rw [show (hH B m4).2.2 A ((2 : Int).toNat) = co 2 from c4.2 2 (by omega)]
  refine gS (S_iadd at_271_1774) ?_
  rw [show w32 ((co 0 + co 1) + (co 2)) = co 0 + co 1 + co 2 from w32_id (by omega) (by omega)]
  refine gS (S_aload rfl at_271_1775) ?_
  refine gS (S_iconst at_271_1777) ?_
  refine gS (S_iaload (aI_1 cA) at_271_1778) ?_
  refine gS (if_pos ⟨by omega, by omega⟩) ?_
  rw [show (hH B m4).2.2 A ((3 : Int).toNat) = co 3 from c4.2 3 (by omega)]
  refine gS (S_iadd at_271_1779) ?_
  rw [show w32 ((co 0 + co 1 + co 2) + (co 3)) = S from (w32_id (by omega) (by omega)).trans hS]
  refine gS (S_i2l at_271_1780) ?_
  refine gS (S_lmul at_271_1781) ?_
  rw [show w64 (a1 * S) = a1 * S from w64_id (by omega) (by omega)]
  refine gS (S_lcmp at_271_1782) ?_
  refine gS (S_if_ne at_271_1783) ?_
  refine gS (if_pos (cmp_0.mpr hmean)) ?_
  refine gS (S_aload_n rfl at_271_1786) ?_
  refine gS (S_iload_n rfl at_271_1787) ?_
  refine gS (S_iconst at_271_1788) ?_
  refine gS (S_invv (b := 2) (by decide) kn_116 rfl (kd_2 B m4) (Nat.le_of_ble_eq_true rfl) at_271_1789) ?_
  show lG Ls (((c_call 10) 116 [jR 2, jI (n : Int), jI 0] (hH B m4)).bind _)
  rw [e5]
  show lG Ls (j_fin (c_call 10) 271 1792 [some (jR 0), some (jR 2), some (jI Q), some (jI (n : Int)), some (jI 1), some (jR A), some (jI 3), some (jR Ka), some (jI (N : Int)), some (jR Kc), some (jI last), some (jI best), some (jI (r : Int)), some (jI b), some (jI W0), some (jI E3), some (jI D), some (jI F0), some (jI F1), some (jI F0), some (jI F1), some (jI 50)] [jI (-1)] (hH B m5))
  refine gS (S_iconst at_271_1792) ?_
  refine gS (S_icmp_ne at_271_1793) ?_
  refine gS (if_pos (by decide)) ?_
  refine gS (S_aload_n rfl at_271_1796) ?_
  refine gS (S_iconst at_271_1797) ?_
  refine gS (S_sipush at_271_1798) ?_
  refine gS (S_invv (b := 2) (by decide) kn_116 rfl (kd_2 B m5) (Nat.le_of_ble_eq_true rfl) at_271_1801) ?_
  show lG Ls (((c_call 10) 116 [jR 2, jI 0, jI 1000] (hH B m5)).bind _)
  rw [e6]
  show lG Ls (j_fin (c_call 10) 271 1804 [some (jR 0), some (jR 2), some (jI Q), some (jI (n : Int)), some (jI 1), some (jR A), some (jI 3), some (jR Ka), some (jI (N : Int)), some (jR Kc), some (jI last), some (jI best), some (jI (r : Int)), some (jI b), some (jI W0), some (jI E3), some (jI D), some (jI F0), some (jI F1), some (jI F0), some (jI F1), some (jI 50)] [jI (-2)] (hH B m6))
  refine gS (S_bipush at_271_1804) ?_
  refine gS (S_icmp_ne at_271_1806) ?_
  refine gS (if_pos (by decide)) ?_
  refine gS (S_aload_n rfl at_271_1809) ?_
  refine gS (S_iload rfl at_271_1810) ?_
  refine gS (S_iconst at_271_1812) ?_
  refine gS (S_invv (b := 2) (by decide) kn_117 rfl (kd_2 B m6) (Nat.le_of_ble_eq_true rfl) at_271_1813) ?_
  show lG Ls (((c_call 10) 117 [jR 2, jI 3, jI 0] (hH B m6)).bind _)
  rw [e7]
  show lG Ls (j_fin (c_call 10) 271 1816 [some (jR 0), some (jR 2), some (jI Q), some (jI (n : Int)), some (jI 1), some (jR A), some (jI 3), some (jR Ka), some (jI (N : Int)), some (jR Kc), some (jI last), some (jI best), some (jI (r : Int)), some (jI b), some (jI W0), some (jI E3), some (jI D), some (jI F0), some (jI F1), some (jI F0), some (jI F1), some (jI 50)] [jI (-1)] (hH B m7))
  refine gS (S_iconst at_271_1816) ?_
  refine gS (S_icmp_ne at_271_1817) ?_
  refine gS (if_pos (by decide)) ?_
  refine gS (S_aload_n rfl at_271_1820) ?_
  refine gS (S_iconst at_271_1821) ?_
  refine gS (S_iconst at_271_1822) ?_
  refine gS (S_invv (b := 2) (by decide) kn_121 rfl (kd_2 B m7) (Nat.le_of_ble_eq_true rfl) at_271_1823) ?_
  show lG Ls (((c_call 10) 121 [jR 2, jI (-1), jI 0] (hH B m7)).bind _)
  rw [e8]
  show lG Ls (j_fin (c_call 10) 271 1826 [some (jR 0), some (jR 2), some (jI Q), some (jI (n : Int)), some (jI 1), some (jR A), some (jI 3), some (jR Ka), some (jI (N : Int)), some (jR Kc), some (jI last), some (jI best), some (jI (r : Int)), some (jI b), some (jI W0), some (jI E3), some (jI D), some (jI F0), some (jI F1), some (jI F0), some (jI F1), some (jI 50)] [jI (-2)] (hH B m8))
  refine gS (S_bipush at_271_1826) ?_
  refine gS (S_icmp_ne at_271_1828) ?_
  refine gS (if_pos (by decide)) ?_
  refine gS (S_aload_n rfl at_271_1831) ?_
  refine gS (S_iconst at_271_1832) ?_
  refine gS (S_sipush at_271_1833) ?_
  refine gS (S_invv (b := 2) (by decide) kn_121 rfl (kd_2 B m8) (Nat.le_of_ble_eq_true rfl) at_271_1836) ?_
  show lG Ls (((c_call 10) 121 [jR 2, jI 0, jI 1000] (hH B m8)).bind _)
  rw [e9]
  show lG Ls (j_fin (c_call 10) 271 1839 [some (jR 0), some (jR 2), some (jI Q), some (jI (n : Int)), some (jI 1), some (jR A), some (jI 3), some (jR Ka), some (jI (N : Int)), some (jR Kc), some (jI last), some (jI best), some (jI (r : Int)), some (jI b), some (jI W0), some (jI E3), some (jI D), some (jI F0), some (jI F1), some (jI F0), some (jI F1), some (jI 50)] [jI (-2)] (hH B m9))
  refine gS (S_bipush at_271_1839) ?_
  refine gS (S_icmp_ne at_271_1841) ?_
  refine gS (if_pos (by decide)) ?_
  refine gS (S_aload_n rfl at_271_1844) ?_
  refine gS (S_iconst at_271_1845) ?_
  refine gS (S_iconst at_271_1846) ?_
  refine gS (S_iconst at_271_1847) ?_
  refine gS (S_invv (b := 3) (by decide) kn_125 rfl (kd_2 B m9) (Nat.le_of_ble_eq_true rfl) at_271_1848) ?_
  show lG Ls (((c_call 10) 125 [jR 2, jI 3, jI 0, jI 0] (hH B m9)).bind _)
  rw [e10]
  show lG Ls (j_fin (c_call 10) 271 1851 [some (jR 0), some (jR 2), some (jI Q), some (jI (n : Int)), some (jI 1), some (jR A), some (jI 3), some (jR Ka), some (jI (N : Int)), some (jR Kc), some (jI last), some (jI best), some (jI (r : Int)), some (jI b), some (jI W0), some (jI E3), some (jI D), some (jI F0), some (jI F1), some (jI F0), some (jI F1), some (jI 50)] [jI (-1)] (hH B m10))
  refine gS (S_iconst at_271_1851) ?_
  refine gS (S_icmp_ne at_271_1852) ?_
  refine gS (if_pos (by decide)) ?_
  refine gS (S_aload_n rfl at_271_1855) ?_
  refine gS (S_iconst at_271_1856) ?_
  refine gS (S_iload rfl at_271_1857) ?_
  refine gS (S_iconst at_271_1859) ?_
  refine gS (S_invv (b := 3) (by decide) kn_125 rfl (kd_2 B m10) (Nat.le_of_ble_eq_true rfl) at_271_1860) ?_
  show lG Ls (((c_call 10) 125 [jR 2, jI 0, jI 3, jI 0] (hH B m10)).bind _)
  rw [e11]
  show lG Ls (j_fin (c_call 10) 271 1863 [some (jR 0), some (jR 2), some (jI Q), some (jI (n : Int)), some (jI 1), some (jR A), some (jI 3), some (jR Ka), some (jI (N : Int)), some (jR Kc), some (jI last), some (jI best), some (jI (r : Int)), some (jI b), some (jI W0), some (jI E3), some (jI D), some (jI F0), some (jI F1), some (jI F0), some (jI F1), some (jI 50)] [jI (-1)] (hH B m11))
  refine gS (S_iconst at_271_1863) ?_
  refine gS (S_icmp_ne at_271_1864) ?_
  refine gS (if_pos (by decide)) ?_
  refine gS (S_aload_n rfl at_271_1867) ?_
  refine gS (S_iconst at_271_1868) ?_
  refine gS (S_iconst at_271_1869) ?_
  refine gS (S_bipush at_271_1870) ?_
  refine gS (S_invv (b := 3) (by decide) kn_125 rfl (kd_2 B m11) (Nat.le_of_ble_eq_true rfl) at_271_1872) ?_
  show lG Ls (((c_call 10) 125 [jR 2, jI 1, jI 0, jI 100] (hH B m11)).bind _)
  rw [e12]
  show lG Ls (j_fin (c_call 10) 271 1875 [some (jR 0), some (jR 2), some (jI Q), some (jI (n : Int)), some (jI 1), some (jR A), some (jI 3), some (jR Ka), some (jI (N : Int)), some (jR Kc), some (jI last), some (jI best), some (jI (r : Int)), some (jI b), some (jI W0), some (jI E3), some (jI D), some (jI F0), some (jI F1), some (jI F0), some (jI F1), some (jI 50)] [jI (-2)] (hH B m12))
  refine gS (S_bipush at_271_1875) ?_
  refine gS (S_icmp_ne at_271_1877) ?_
  refine gS (if_pos (by decide)) ?_
  refine gS (S_aload_n rfl at_271_1880) ?_
  refine gS (S_iconst at_271_1881) ?_
  refine gS (S_iconst at_271_1882) ?_
  refine gS (S_iconst at_271_1883) ?_
  refine gS (S_invv (b := 3) (by decide) kn_131 rfl (kd_2 B m12) (Nat.le_of_ble_eq_true rfl) at_271_1884) ?_
  show lG Ls (((c_call 10) 131 [jR 2, jI 0, jI 5, jI 1] (hH B m12)).bind _)
  rw [e13]
  show lG Ls (j_fin (c_call 10) 271 1887 [some (jR 0), some (jR 2), some (jI Q), some (jI (n : Int)), some (jI 1), some (jR A), some (jI 3), some (jR Ka), some (jI (N : Int)), some (jR Kc), some (jI last), some (jI best), some (jI (r : Int)), some (jI b), some (jI W0), some (jI E3), some (jI D), some (jI F0), some (jI F1), some (jI F0), some (jI F1), some (jI 50)] [jI (-2)] (hH B m13))
  refine gS (S_bipush at_271_1887) ?_
  refine gS (S_icmp_ne at_271_1889) ?_
  refine gS (if_pos (by decide)) ?_
  refine gS (S_aload_n rfl at_271_1892) ?_
  refine gS (S_iconst at_271_1893) ?_
  refine gS (S_iconst at_271_1894) ?_
  refine gS (S_bipush at_271_1895) ?_
  refine gS (S_invv (b := 3) (by decide) kn_131 rfl (kd_2 B m13) (Nat.le_of_ble_eq_true rfl) at_271_1897) ?_
  show lG Ls (((c_call 10) 131 [jR 2, jI 0, jI 0, jI 61] (hH B m13)).bind _)
  rw [e14]
  show lG Ls (j_fin (c_call 10) 271 1900 [some (jR 0), some (jR 2), some (jI Q), some (jI (n : Int)), some (jI 1), some (jR A), some (jI 3), some (jR Ka), some (jI (N : Int)), some (jR Kc), some (jI last), some (jI best), some (jI (r : Int)), some (jI b), some (jI W0), some (jI E3), some (jI D), some (jI F0), some (jI F1), some (jI F0), some (jI F1), some (jI 50)] [jI (-2)] (hH B m14))
  refine gS (S_bipush at_271_1900) ?_
  refine gS (S_icmp_ne at_271_1902) ?_
  refine gS (if_pos (by decide)) ?_
  refine gS (S_aload_n rfl at_271_1905) ?_
  refine gS (S_iconst at_271_1906) ?_
  refine gS (S_iconst at_271_1907) ?_
  refine gS (S_iconst at_271_1908) ?_
  refine gS (S_invv (b := 3) (by decide) kn_131 rfl (kd_2 B m14) (Nat.le_of_ble_eq_true rfl) at_271_1909) ?_
  show lG Ls (((c_call 10) 131 [jR 2, jI 0, jI 0, jI (-1)] (hH B m14)).bind _)
  rw [e15]
  show lG Ls (j_fin (c_call 10) 271 1912 [some (jR 0), some (jR 2), some (jI Q), some (jI (n : Int)), some (jI 1), some (jR A), some (jI 3), some (jR Ka), some (jI (N : Int)), some (jR Kc), some (jI last), some (jI best), some (jI (r : Int)), some (jI b), some (jI W0), some (jI E3), some (jI D), some (jI F0), some (jI F1), some (jI F0), some (jI F1), some (jI 50)] [jI (-14)] (hH B m15))
  refine gS (S_bipush at_271_1912) ?_
  refine gS (S_icmp_ne at_271_1914) ?_
  refine gS (if_pos (by decide)) ?_
  refine gS (S_aload_n rfl at_271_1917) ?_
  refine gS (S_iconst at_271_1918) ?_
  refine gS (S_iconst at_271_1919) ?_
  refine gS (S_lconst at_271_1920) ?_
  refine gS (S_invv (b := 3) (by decide) kn_132 rfl (kd_2 B m15) (Nat.le_of_ble_eq_true rfl) at_271_1921) ?_
  show lG Ls (((c_call 10) 132 [jR 2, jI 0, jI 0, jL 1] (hH B m15)).bind _)
  rw [e16]
  show lG Ls (j_fin (c_call 10) 271 1924 [some (jR 0), some (jR 2), some (jI Q), some (jI (n : Int)), some (jI 1), some (jR A), some (jI 3), some (jR Ka), some (jI (N : Int)), some (jR Kc), some (jI last), some (jI best), some (jI (r : Int)), some (jI b), some (jI W0), some (jI E3), some (jI D), some (jI F0), some (jI F1), some (jI F0), some (jI F1), some (jI 50)] [jI (-11)] (hH B m16))
  refine gS (S_bipush at_271_1924) ?_
  refine gS (S_icmp_ne at_271_1926) ?_
  refine gS (if_pos (by decide)) ?_
  refine gS (S_aload_n rfl at_271_1929) ?_
  refine gS (S_bipush at_271_1930) ?_
  refine gS (S_invv (b := 1) (by decide) kn_130 rfl (kd_2 B m16) (Nat.le_of_ble_eq_true rfl) at_271_1932) ?_
  show lG Ls (((c_call 10) 130 [jR 2, jI 10] (hH B m16)).bind _)
  rw [e17]
  show lG Ls (j_fin (c_call 10) 271 1935 [some (jR 0), some (jR 2), some (jI Q), some (jI (n : Int)), some (jI 1), some (jR A), some (jI 3), some (jR Ka), some (jI (N : Int)), some (jR Kc), some (jI last), some (jI best), some (jI (r : Int)), some (jI b), some (jI W0), some (jI E3), some (jI D), some (jI F0), some (jI F1), some (jI F0), some (jI F1), some (jI 50)] [jI (-2)] (hH B m16))
  refine gS (S_bipush at_271_1935) ?_
  refine gS (S_icmp_ne at_271_1937) ?_
  refine gS (if_pos (by decide)) ?_
  refine gS (S_aload_n rfl at_271_1940) ?_
  refine gS (S_bipush at_271_1941) ?_
  refine gS (S_invv (b := 1) (by decide) kn_88 rfl (kd_2 B m16) (Nat.le_of_ble_eq_true rfl) at_271_1943) ?_
  show lG Ls (((c_call 10) 88 [jR 2, jI 6] (hH B m16)).bind _)
  rw [e18]
  show lG Ls (j_fin (c_call 10) 271 1946 [some (jR 0), some (jR 2), some (jI Q), some (jI (n : Int)), some (jI 1), some (jR A), some (jI 3), some (jR Ka), some (jI (N : Int)), some (jR Kc), some (jI last), some (jI best), some (jI (r : Int)), some (jI b), some (jI W0), some (jI E3), some (jI D), some (jI F0), some (jI F1), some (jI F0), some (jI F1), some (jI 50)] [jI (-2)] (hH B m18))
  refine gS (S_bipush at_271_1946) ?_
  refine gS (S_icmp_ne at_271_1948) ?_
  refine gS (if_pos (by decide)) ?_
  refine gS (S_aload_n rfl at_271_1951) ?_
  refine gS (S_iconst at_271_1952) ?_
  refine gS (S_iconst at_271_1953) ?_
  refine gS (S_invv (b := 2) (by decide) kn_120 rfl (kd_2 B m18) (Nat.le_of_ble_eq_true rfl) at_271_1954) ?_
  show lG Ls (((c_call 10) 120 [jR 2, jI 0, jI 5] (hH B m18)).bind _)
  rw [e19]
  show lG Ls (j_fin (c_call 10) 271 1957 [some (jR 0), some (jR 2), some (jI Q), some (jI (n : Int)), some (jI 1), some (jR A), some (jI 3), some (jR Ka), some (jI (N : Int)), some (jR Kc), some (jI last), some (jI best), some (jI (r : Int)), some (jI b), some (jI W0), some (jI E3), some (jI D), some (jI F0), some (jI F1), some (jI F0), some (jI F1), some (jI 50)] [jI (-2)] (hH B m19))
  refine gS (S_bipush at_271_1957) ?_
  refine gS (S_icmp_ne at_271_1959) ?_
  refine gS (if_pos (by decide)) ?_
  refine gS (S_iconst at_271_1962) ?_
  refine gS (S_goto at_271_1963) ?_
  refine gS (S_iretz rfl at_271_1967) ?_
  refine gS (if_pos (by decide)) ?_
  exact K1
