/-! The law's walk: plans, the image, rules drawn (pc 1240 to 1627). -/
set_option maxHeartbeats 1000000 in
theorem T_1240 {Ls : Nat} {xs : Nat → Int32} {A n N Ka Kc : Nat} {Q last best : Int} {co t : Nat → Int} {B : j_B} {m : j_M0} {g : Nat → Int} {d13 d14 d15 : Option j_V} (n13 : nL d13) (n14 : nL d14) (n15 : nL d15) (hn : 2 ≤ n ∧ n ≤ 4) (w : Rel xs g none t 0 m) (hD : lD n co 3 g)
  (K : ∀ (mn : j_M0) (r : Nat) (b W0 : Int) (d15 : Option j_V), nL d15 → r < 3 → 0 ≤ b ∧ b ≤ 63 → W0 = worF (pkG (plG g g (g 5).toNat)) → Rel xs (rw3 g r b) none t 0 mn → (∀ b z, 114 ≤ b → mn b z = m b z) → lG Ls (j_fin (c_call 10) 271 1328 [some (jR 0), some (jR 2), some (jI Q), some (jI (n : Int)), some (jI 1), some (jR A), some (jI 3), some (jR Ka), some (jI (N : Int)), some (jR Kc), some (jI last), some (jI best), some (jI (r : Int)), some (jI b), some (jI W0), d15, none, none, none, none, none, none] [] (hH B mn))) : lG Ls (j_fin (c_call 10) 271 1240 [some (jR 0), some (jR 2), some (jI Q), some (jI (n : Int)), some (jI 1), some (jR A), some (jI 3), some (jR Ka), some (jI (N : Int)), some (jR Kc), some (jI last), some (jI best), some (jI (N : Int)), d13, d14, d15, none, none, none, none, none, none] [] (hH B m)) := by
  have a3 := and_r (j_shr Q 20) 3 (by decide)
  have t3 := tmod_r a3.1 (show (0 : Int) < 3 by decide)
  obtain ⟨r, hr, hr3⟩ : ∃ r : Nat, Int.tmod (j_and (j_shr Q 20) 3) 3 = (r : Int) ∧ r < 3 := ⟨(Int.tmod (j_and (j_shr Q 20) 3) 3).toNat, by omega, by omega⟩
  obtain ⟨b, hb, hb2⟩ : ∃ b, j_and (j_shr Q 22) 63 = b ∧ 0 ≤ b ∧ b ≤ 63 := ⟨_, rfl, and_r _ 63 (by decide)⟩
  obtain ⟨h0, h1, h4, h5, hc⟩ := hD
  have g1 : g 1 = 3 := h1
  obtain ⟨m1, e1, r1, q1⟩ := PB126 (L := B) w
  obtain ⟨W0, hW0⟩ : ∃ W0, worF (pkG (plG g g (g 5).toNat)) = W0 := ⟨_, rfl⟩
  rw [hW0] at e1
  obtain ⟨m2, e2, r2, q2⟩ := PB125 (L := B) r1 (a := 0) (x := (r : Int)) (v := b) (k := 0) h5 (by omega) (Or.inl rfl) (by omega) (bI_t (by omega))
  have e2 : c_call 10 125 [jR 2, jI 0, jI (r : Int), jI b] (hH B m1) = some (some (jI 1), hH B m2) := e2
  have r2 : Rel xs (rw1 g r b) none t 0 m2 := r2
  obtain ⟨m3, e3, r3, q3⟩ := PB126 (L := B) r2
  rw [pl_1 (by omega)] at e3
  have p1 : rw1 g r b 1 = 3 := (rw1_ne (by omega) (by omega)).trans g1
  have p0 : rw1 g r b 0 = n := (rw1_ne (by omega) (by omega)).trans h0
  obtain ⟨m4, e4, r4, q4⟩ := PB115 (L := B) r3 (r := r) (v := b) (by omega) (by omega)
  obtain ⟨W1, hW1⟩ : ∃ W1, worF (pkG (gU (rw1 g r b) (13 + 7 * r) b)) = W1 := ⟨_, rfl⟩
  rw [hW1] at e3 e4
  obtain ⟨m5, e5, r5, q5⟩ := PB125c (L := B) r4 (x := 0) (v := 7) (k := 1) rfl (by omega) (by omega) (by decide)
  have e5 : c_call 10 125 [jR 2, jI 1, jI 0, jI 7] (hH B m4) = some (some (jI 2), hH B m5) := e5
  have r5 : Rel xs (rw2 g r b) none t 0 m5 := r5
  have s1 : rw2 g r b 1 = 3 := (rw2_ne (by omega) (by omega)).trans g1
  obtain ⟨m6, e6, r6, q6⟩ := PB125 (L := B) r5 (a := 2) (x := (r : Int)) (v := 3) (k := 2) rfl (by omega) (Or.inr rfl) (by omega) (by decide)
  have e6 : c_call 10 125 [jR 2, jI 2, jI (r : Int), jI 3] (hH B m5) = some (some (jI 3), hH B m6) := e6
  have r6 : Rel xs (rw3 g r b) none t 0 m6 := r6
  have K1 := K m6 r b W0 d15 n15 hr3 hb2 hW0.symm r6 (fun b z h => (q6 b z h).trans ((q5 b z h).trans ((q4 b z h).trans ((q3 b z h).trans ((q2 b z h).trans (q1 b z h))))))
  refine gS (S_iload_n rfl at_271_1240) ?_
  refine gS (S_bipush at_271_1241) ?_
  refine gS (S_ishr at_271_1243) ?_
  refine gS (S_iconst at_271_1244) ?_
  refine gS (S_iand at_271_1245) ?_
  refine gS (S_iload rfl at_271_1246) ?_
  refine gS (S_irem at_271_1248) ?_
  refine gS (if_neg (by decide)) ?_
  rw [show Int.tmod (j_and (j_shr Q 20) 3) 3 = (r : Int) from hr]
  refine gS (S_istore (l1 := [some (jR 0), some (jR 2), some (jI Q), some (jI (n : Int)), some (jI 1), some (jR A), some (jI 3), some (jR Ka), some (jI (N : Int)), some (jR Kc), some (jI last), some (jI best), some (jI (r : Int)), d13, d14, d15, none, none, none, none, none, none]) rfl at_271_1249) ?_
  refine gS (S_iload_n rfl at_271_1251) ?_
  refine gS (S_bipush at_271_1252) ?_
  refine gS (S_ishr at_271_1254) ?_
  refine gS (S_bipush at_271_1255) ?_
  refine gS (S_iand at_271_1257) ?_
  rw [show j_and (j_shr Q 22) 63 = b from hb]
  refine gS (S_istore (l1 := [some (jR 0), some (jR 2), some (jI Q), some (jI (n : Int)), some (jI 1), some (jR A), some (jI 3), some (jR Ka), some (jI (N : Int)), some (jR Kc), some (jI last), some (jI best), some (jI (r : Int)), some (jI b), d14, d15, none, none, none, none, none, none]) rfl at_271_1258) ?_
  refine gS (S_aload_n rfl at_271_1260) ?_
  refine gS (S_invv (b := 0) (by decide) kn_126 rfl (kd_2 B m) (Nat.le_of_ble_eq_true rfl) at_271_1261) ?_
  show lG Ls (((c_call 10) 126 [jR 2] (hH B m)).bind _)
  rw [e1]
  show lG Ls (j_fin (c_call 10) 271 1264 [some (jR 0), some (jR 2), some (jI Q), some (jI (n : Int)), some (jI 1), some (jR A), some (jI 3), some (jR Ka), some (jI (N : Int)), some (jR Kc), some (jI last), some (jI best), some (jI (r : Int)), some (jI b), d14, d15, none, none, none, none, none, none] [jI W0] (hH B m1))
  refine gS (S_istore (l1 := [some (jR 0), some (jR 2), some (jI Q), some (jI (n : Int)), some (jI 1), some (jR A), some (jI 3), some (jR Ka), some (jI (N : Int)), some (jR Kc), some (jI last), some (jI best), some (jI (r : Int)), some (jI b), some (jI W0), d15, none, none, none, none, none, none]) rfl at_271_1264) ?_
  refine gS (S_iload rfl at_271_1266) ?_
  refine gS (S_aload_n rfl at_271_1268) ?_
  refine gS (S_iconst at_271_1269) ?_
  refine gS (S_iload rfl at_271_1270) ?_
  refine gS (S_iload rfl at_271_1272) ?_
  refine gS (S_invv (b := 3) (by decide) kn_125 rfl (kd_2 B m1) (Nat.le_of_ble_eq_true rfl) at_271_1274) ?_
  show lG Ls (((c_call 10) 125 [jR 2, jI 0, jI (r : Int), jI b] (hH B m1)).bind _)
  rw [e2]
  show lG Ls (j_fin (c_call 10) 271 1277 [some (jR 0), some (jR 2), some (jI Q), some (jI (n : Int)), some (jI 1), some (jR A), some (jI 3), some (jR Ka), some (jI (N : Int)), some (jR Kc), some (jI last), some (jI best), some (jI (r : Int)), some (jI b), some (jI W0), d15, none, none, none, none, none, none] [jI 1, jI 1] (hH B m2))
  refine gS (S_iconst at_271_1277) ?_
  refine gS (S_icmp_ne at_271_1278) ?_
  refine gS (if_pos (by decide)) ?_
  refine gS (S_aload_n rfl at_271_1281) ?_
  refine gS (S_invv (b := 0) (by decide) kn_126 rfl (kd_2 B m2) (Nat.le_of_ble_eq_true rfl) at_271_1282) ?_
  show lG Ls (((c_call 10) 126 [jR 2] (hH B m2)).bind _)
  rw [e3]
  show lG Ls (j_fin (c_call 10) 271 1285 [some (jR 0), some (jR 2), some (jI Q), some (jI (n : Int)), some (jI 1), some (jR A), some (jI 3), some (jR Ka), some (jI (N : Int)), some (jR Kc), some (jI last), some (jI best), some (jI (r : Int)), some (jI b), some (jI W0), d15, none, none, none, none, none, none] [jI W1, jI 1] (hH B m3))
  refine gS (S_aload_n rfl at_271_1285) ?_
  refine gS (S_iload rfl at_271_1286) ?_
  refine gS (S_iload rfl at_271_1288) ?_
  refine gS (S_invv (b := 2) (by decide) kn_115 rfl (kd_2 B m3) (Nat.le_of_ble_eq_true rfl) at_271_1290) ?_
  show lG Ls (((c_call 10) 115 [jR 2, jI (r : Int), jI b] (hH B m3)).bind _)
  rw [e4]
  show lG Ls (j_fin (c_call 10) 271 1293 [some (jR 0), some (jR 2), some (jI Q), some (jI (n : Int)), some (jI 1), some (jR A), some (jI 3), some (jR Ka), some (jI (N : Int)), some (jR Kc), some (jI last), some (jI best), some (jI (r : Int)), some (jI b), some (jI W0), d15, none, none, none, none, none, none] [jI W1, jI W1, jI 1] (hH B m4))
  refine gS (S_icmp_ne at_271_1293) ?_
  refine gS (if_pos rfl) ?_
  refine gS (S_aload_n rfl at_271_1296) ?_
  refine gS (S_iconst at_271_1297) ?_
  refine gS (S_iconst at_271_1298) ?_
  refine gS (S_bipush at_271_1299) ?_
  refine gS (S_invv (b := 3) (by decide) kn_125 rfl (kd_2 B m4) (Nat.le_of_ble_eq_true rfl) at_271_1301) ?_
  show lG Ls (((c_call 10) 125 [jR 2, jI 1, jI 0, jI 7] (hH B m4)).bind _)
  rw [e5]
  show lG Ls (j_fin (c_call 10) 271 1304 [some (jR 0), some (jR 2), some (jI Q), some (jI (n : Int)), some (jI 1), some (jR A), some (jI 3), some (jR Ka), some (jI (N : Int)), some (jR Kc), some (jI last), some (jI best), some (jI (r : Int)), some (jI b), some (jI W0), d15, none, none, none, none, none, none] [jI 2, jI 1] (hH B m5))
  refine gS (S_iconst at_271_1304) ?_
  refine gS (S_icmp_ne at_271_1305) ?_
  refine gS (if_pos (by decide)) ?_
  refine gS (S_aload_n rfl at_271_1308) ?_
  refine gS (S_iconst at_271_1309) ?_
  refine gS (S_iload rfl at_271_1310) ?_
  refine gS (S_iconst at_271_1312) ?_
  refine gS (S_invv (b := 3) (by decide) kn_125 rfl (kd_2 B m5) (Nat.le_of_ble_eq_true rfl) at_271_1313) ?_
  show lG Ls (((c_call 10) 125 [jR 2, jI 2, jI (r : Int), jI 3] (hH B m5)).bind _)
  rw [e6]
  show lG Ls (j_fin (c_call 10) 271 1316 [some (jR 0), some (jR 2), some (jI Q), some (jI (n : Int)), some (jI 1), some (jR A), some (jI 3), some (jR Ka), some (jI (N : Int)), some (jR Kc), some (jI last), some (jI best), some (jI (r : Int)), some (jI b), some (jI W0), d15, none, none, none, none, none, none] [jI 3, jI 1] (hH B m6))
  refine gS (S_iconst at_271_1316) ?_
  refine gS (S_icmp_ne at_271_1317) ?_
  refine gS (if_pos (by decide)) ?_
  refine gS (S_iconst at_271_1320) ?_
  refine gS (S_goto at_271_1321) ?_
  refine gS (S_iand at_271_1325) ?_
  rw [j_and11]
  refine gS (S_istore (l1 := [some (jR 0), some (jR 2), some (jI Q), some (jI (n : Int)), some (jI 1), some (jR A), some (jI 3), some (jR Ka), some (jI (N : Int)), some (jR Kc), some (jI last), some (jI best), some (jI (r : Int)), some (jI b), some (jI W0), d15, none, none, none, none, none, none]) rfl at_271_1326) ?_
  exact K1
set_option maxHeartbeats 1000000 in
theorem T_1328 {Ls : Nat} {xs : Nat → Int32} {A n N Ka Kc : Nat} {Q last best : Int} {co t : Nat → Int} {B : j_B} {m : j_M0} {g : Nat → Int} {W0 b : Int} {r : Nat} {d15 : Option j_V} (n15 : nL d15) (hn : 2 ≤ n ∧ n ≤ 4) (hr : r < 3) (hb : 0 ≤ b ∧ b ≤ 63) (hD : lD n co 3 g) (hA : 114 ≤ A) (cA : aI (hH B m) A 4 co) (w : Rel xs (rw3 g r b) none t 0 m)
  (K : ∀ (mn : j_M0) (E3 : Int), E3 = worF (pkG (plG (rw3 g r b) (rw3 g r b) (rw3 g r b 5).toNat)) → Rel xs (rw3 g r b) (some (rw3 g r b)) t 0 mn → (∀ b z, 114 ≤ b → mn b z = m b z) → lG Ls (j_fin (c_call 10) 271 1453 [some (jR 0), some (jR 2), some (jI Q), some (jI (n : Int)), some (jI 1), some (jR A), some (jI 3), some (jR Ka), some (jI (N : Int)), some (jR Kc), some (jI last), some (jI best), some (jI (r : Int)), some (jI b), some (jI W0), some (jI E3), none, none, none, none, none, none] [] (hH B mn))) : lG Ls (j_fin (c_call 10) 271 1328 [some (jR 0), some (jR 2), some (jI Q), some (jI (n : Int)), some (jI 1), some (jR A), some (jI 3), some (jR Ka), some (jI (N : Int)), some (jR Kc), some (jI last), some (jI best), some (jI (r : Int)), some (jI b), some (jI W0), d15, none, none, none, none, none, none] [] (hH B m)) := by
  obtain ⟨h0, h1, h4, h5, hc⟩ := hD
  have g1 : g 1 = 3 := h1
  have pl := pl_3 (g := g) (r := r) (b := b) (by omega) (by omega)
  have p0 : rw3 g r b 0 = n := (rw3_ne (by omega) (by omega)).trans h0
  have p1 : rw3 g r b 1 = 3 := (rw3_ne (by omega) (by omega)).trans g1
  have p7 : rw3 g r b (7 + 0) = co 0 := (rw3_ne (by omega) (by omega)).trans (hc 0 (by omega))
  generalize rw3 g r b = p at w K pl p0 p1 p7 ⊢
  obtain ⟨m1, e1, r1, q1⟩ := PB126 (L := B) w
  obtain ⟨E3, hE3⟩ : ∃ E3, worF (pkG (plG p p (p 5).toNat)) = E3 := ⟨_, rfl⟩
  rw [hE3] at e1
  obtain ⟨m2, e2, r2, q2⟩ := PB128 (L := B) r1
  rw [p1] at e2
  obtain ⟨m3, e3, r3, q3⟩ := PB92 (L := B) r2 (r := r) (v := b) (by omega) (by omega)
  obtain ⟨v1, hv1⟩ : ∃ v1, p (13 + 7 * r) + 1000 = v1 := ⟨_, rfl⟩
  rw [hv1] at e3
  have l1 := r2.2.1.2.2.2.2.2.1 r (by omega)
  have c3 : aI (hH B m3) A 4 co := aI_k (aI_k (aI_k cA (fun z => q1 _ z hA)) (fun z => q2 _ z hA)) (fun z => q3 _ z hA)
  obtain ⟨m4, e4, r4, q4⟩ := PB89 (L := B) r3 (c := 0) (v := 7) (by rw [gU_ne (by omega)]; omega) (by omega)
  rw [gU_ne (by omega), p7] at e4
  have e4 : c_call 10 89 [jR 2, jI 0, jI 7] (hH B m3) = some (some (jI (co 0)), hH B m4) := e4
  have e5 : c_call 10 130 [jR 2, jI 7] (hH B m4) = some (some (jI 0), hH B m4) := Q130s r4 (Or.inr (Or.inr (Or.inr (Or.inl ⟨rfl, (gU_eq rfl).symm⟩))))
  have s1 : gU (gU (gU p (13 + 7 * r) b) (7 + 0) 7) 6 0 1 = 3 := by rw [gU_ne (by omega), gU_ne (by omega), gU_ne (by omega)]; exact p1
  have s0 : gU (gU (gU p (13 + 7 * r) b) (7 + 0) 7) 6 0 0 = n := by rw [gU_ne (by omega), gU_ne (by omega), gU_ne (by omega)]; exact p0
  obtain ⟨m6, e6, r6, q6⟩ := PB91 (L := B) r4 (r := r) (c := 0) (v := 3) (by omega) (by omega) (by omega)
  obtain ⟨v2, hv2⟩ : ∃ v2, gU (gU (gU p (13 + 7 * r) b) (7 + 0) 7) 6 0 (14 + 7 * r + 0) + 100 = v2 := ⟨_, rfl⟩
  rw [hv2] at e6
  have e6 : c_call 10 91 [jR 2, jI (r : Int), jI 0, jI 3] (hH B m4) = some (some (jI v2), hH B m6) := e6
  have l2 := r4.2.1.2.2.2.2.2.2 r 0 (by omega) (by omega)
  obtain ⟨m7, e7, r7, q7⟩ := PB125z (L := B) r6 9 9
  obtain ⟨m8, e8, r8, q8⟩ := PB126 (L := B) r7
  have pe : worF (pkG (plG (gU (gU (gU (gU (gU p (13 + 7 * r) b) (7 + 0) 7) 6 0) (14 + 7 * r + 0) 3) 5 0) (gU (gU (gU (gU (gU p (13 + 7 * r) b) (7 + 0) 7) 6 0) (14 + 7 * r + 0) 3) 5 0) (gU (gU (gU (gU (gU p (13 + 7 * r) b) (7 + 0) 7) 6 0) (14 + 7 * r + 0) 3) 5 0 5).toNat)) = E3 := by
    rw [← hE3, pl]
    refine congrArg worF ?_
    show pkG (gU (gU (gU (gU (gU p (13 + 7 * r) b) (7 + 0) 7) 6 0) (14 + 7 * r + 0) 3) 5 0) = _
    refine pkG_e ?_ ?_ (fun z hz => ?_)
    · rw [gU_ne (by omega), gU_ne (by omega), gU_ne (by omega), gU_ne (i := 14 + 7 * r + 0) (by omega)]
    · rw [gU_ne (by omega), gU_ne (by omega), gU_ne (by omega), gU_ne (i := 14 + 7 * r + 0) (by omega)]
    · rw [gU_ne (by omega)]
      show (if z = 14 + 7 * r + 0 then (3 : Int) else gU (gU (gU p (13 + 7 * r) b) (7 + 0) 7) 6 0 z) = (if z = 14 + 7 * r + 0 then (3 : Int) else gU (gU p (13 + 7 * r) b) (7 + 0) 7 z)
      rw [gU_ne (i := 6) (by omega)]
  rw [pe] at e8
  obtain ⟨m9, e9, r9, q9⟩ := PB93 (L := B) r8 (r := 2) (by rw [gU_ne (by omega), gU_ne (by omega)]; exact s1)
  have e9 : c_call 10 93 [jR 2] (hH B m8) = some (some (jI 2), hH B m9) := e9
  obtain ⟨m10, e10, r10, q10⟩ := PB88 (L := B) r9 (v := 5) (by omega)
  rw [gU_ne (by omega), gU_ne (by omega), gU_ne (by omega), gU_ne (i := 14 + 7 * r + 0) (by omega), s0] at e10
  obtain ⟨m11, e11, r11, q11⟩ := PB129 (L := B) r10
  rw [p1] at e11
  have K1 := K m11 E3 hE3.symm r11 (fun b z h => (q11 b z h).trans ((q10 b z h).trans ((q9 b z h).trans ((q8 b z h).trans ((q7 b z h).trans ((q6 b z h).trans ((q4 b z h).trans ((q3 b z h).trans ((q2 b z h).trans (q1 b z h))))))))))
  refine gS (S_aload_n rfl at_271_1328) ?_
  refine gS (S_invv (b := 0) (by decide) kn_126 rfl (kd_2 B m) (Nat.le_of_ble_eq_true rfl) at_271_1329) ?_
  show lG Ls (((c_call 10) 126 [jR 2] (hH B m)).bind _)
  rw [e1]
  show lG Ls (j_fin (c_call 10) 271 1332 [some (jR 0), some (jR 2), some (jI Q), some (jI (n : Int)), some (jI 1), some (jR A), some (jI 3), some (jR Ka), some (jI (N : Int)), some (jR Kc), some (jI last), some (jI best), some (jI (r : Int)), some (jI b), some (jI W0), d15, none, none, none, none, none, none] [jI E3] (hH B m1))
  refine gS (S_istore (l1 := [some (jR 0), some (jR 2), some (jI Q), some (jI (n : Int)), some (jI 1), some (jR A), some (jI 3), some (jR Ka), some (jI (N : Int)), some (jR Kc), some (jI last), some (jI best), some (jI (r : Int)), some (jI b), some (jI W0), some (jI E3), none, none, none, none, none, none]) rfl at_271_1332) ?_
  refine gS (S_iload rfl at_271_1334) ?_
  refine gS (S_aload_n rfl at_271_1336) ?_
  refine gS (S_invv (b := 0) (by decide) kn_128 rfl (kd_2 B m1) (Nat.le_of_ble_eq_true rfl) at_271_1337) ?_
  show lG Ls (((c_call 10) 128 [jR 2] (hH B m1)).bind _)
  rw [e2]
  show lG Ls (j_fin (c_call 10) 271 1340 [some (jR 0), some (jR 2), some (jI Q), some (jI (n : Int)), some (jI 1), some (jR A), some (jI 3), some (jR Ka), some (jI (N : Int)), some (jR Kc), some (jI last), some (jI best), some (jI (r : Int)), some (jI b), some (jI W0), some (jI E3), none, none, none, none, none, none] [jI 3, jI 1] (hH B m2))
  refine gS (S_iload rfl at_271_1340) ?_
  refine gS (S_icmp_ne at_271_1342) ?_
  refine gS (if_pos (by decide)) ?_
  refine gS (S_aload_n rfl at_271_1345) ?_
  refine gS (S_iload rfl at_271_1346) ?_
  refine gS (S_iload rfl at_271_1348) ?_
  refine gS (S_invv (b := 2) (by decide) kn_92 rfl (kd_2 B m2) (Nat.le_of_ble_eq_true rfl) at_271_1350) ?_
  show lG Ls (((c_call 10) 92 [jR 2, jI (r : Int), jI b] (hH B m2)).bind _)
  rw [e3]
  show lG Ls (j_fin (c_call 10) 271 1353 [some (jR 0), some (jR 2), some (jI Q), some (jI (n : Int)), some (jI 1), some (jR A), some (jI 3), some (jR Ka), some (jI (N : Int)), some (jR Kc), some (jI last), some (jI best), some (jI (r : Int)), some (jI b), some (jI W0), some (jI E3), none, none, none, none, none, none] [jI v1, jI 1] (hH B m3))
  refine gS (S_sipush at_271_1353) ?_
  refine gS (S_icmp_lt at_271_1356) ?_
  refine gS (if_neg (by omega)) ?_
  refine gS (S_aload_n rfl at_271_1359) ?_
  refine gS (S_iconst at_271_1360) ?_
  refine gS (S_bipush at_271_1361) ?_
  refine gS (S_invv (b := 2) (by decide) kn_89 rfl (kd_2 B m3) (Nat.le_of_ble_eq_true rfl) at_271_1363) ?_
  show lG Ls (((c_call 10) 89 [jR 2, jI 0, jI 7] (hH B m3)).bind _)
  rw [e4]
  show lG Ls (j_fin (c_call 10) 271 1366 [some (jR 0), some (jR 2), some (jI Q), some (jI (n : Int)), some (jI 1), some (jR A), some (jI 3), some (jR Ka), some (jI (N : Int)), some (jR Kc), some (jI last), some (jI best), some (jI (r : Int)), some (jI b), some (jI W0), some (jI E3), none, none, none, none, none, none] [jI (co 0), jI 1] (hH B m4))
  refine gS (S_aload rfl at_271_1366) ?_
  refine gS (S_iconst at_271_1368) ?_
  refine gS (S_iaload (aI_1 cA) at_271_1369) ?_
  refine gS (if_pos ⟨by omega, by omega⟩) ?_
  rw [show (hH B m4).2.2 A ((0 : Int).toNat) = co 0 from (q4 _ _ (by omega)).trans (c3.2 0 (by omega))]
  refine gS (S_icmp_ne at_271_1370) ?_
  refine gS (if_pos rfl) ?_
  refine gS (S_aload_n rfl at_271_1373) ?_
  refine gS (S_bipush at_271_1374) ?_
  refine gS (S_invv (b := 1) (by decide) kn_130 rfl (kd_2 B m4) (Nat.le_of_ble_eq_true rfl) at_271_1376) ?_
  show lG Ls (((c_call 10) 130 [jR 2, jI 7] (hH B m4)).bind _)
  rw [e5]
  show lG Ls (j_fin (c_call 10) 271 1379 [some (jR 0), some (jR 2), some (jI Q), some (jI (n : Int)), some (jI 1), some (jR A), some (jI 3), some (jR Ka), some (jI (N : Int)), some (jR Kc), some (jI last), some (jI best), some (jI (r : Int)), some (jI b), some (jI W0), some (jI E3), none, none, none, none, none, none] [jI 0, jI 1] (hH B m4))
  refine gS (S_if_ne at_271_1379) ?_
  refine gS (if_pos (by decide)) ?_
  refine gS (S_aload_n rfl at_271_1382) ?_
  refine gS (S_iload rfl at_271_1383) ?_
  refine gS (S_iconst at_271_1385) ?_
  refine gS (S_iconst at_271_1386) ?_
  refine gS (S_invv (b := 3) (by decide) kn_91 rfl (kd_2 B m4) (Nat.le_of_ble_eq_true rfl) at_271_1387) ?_
  show lG Ls (((c_call 10) 91 [jR 2, jI (r : Int), jI 0, jI 3] (hH B m4)).bind _)
  rw [e6]
  show lG Ls (j_fin (c_call 10) 271 1390 [some (jR 0), some (jR 2), some (jI Q), some (jI (n : Int)), some (jI 1), some (jR A), some (jI 3), some (jR Ka), some (jI (N : Int)), some (jR Kc), some (jI last), some (jI best), some (jI (r : Int)), some (jI b), some (jI W0), some (jI E3), none, none, none, none, none, none] [jI v2, jI 1] (hH B m6))
  refine gS (S_bipush at_271_1390) ?_
  refine gS (S_icmp_lt at_271_1392) ?_
  refine gS (if_neg (by omega)) ?_
  refine gS (S_aload_n rfl at_271_1395) ?_
  refine gS (S_iconst at_271_1396) ?_
  refine gS (S_bipush at_271_1397) ?_
  refine gS (S_bipush at_271_1399) ?_
  refine gS (S_invv (b := 3) (by decide) kn_125 rfl (kd_2 B m6) (Nat.le_of_ble_eq_true rfl) at_271_1401) ?_
  show lG Ls (((c_call 10) 125 [jR 2, jI (-1), jI 9, jI 9] (hH B m6)).bind _)
  rw [e7]
  show lG Ls (j_fin (c_call 10) 271 1404 [some (jR 0), some (jR 2), some (jI Q), some (jI (n : Int)), some (jI 1), some (jR A), some (jI 3), some (jR Ka), some (jI (N : Int)), some (jR Kc), some (jI last), some (jI best), some (jI (r : Int)), some (jI b), some (jI W0), some (jI E3), none, none, none, none, none, none] [jI 0, jI 1] (hH B m7))
  refine gS (S_if_ne at_271_1404) ?_
  refine gS (if_pos (by decide)) ?_
  refine gS (S_aload_n rfl at_271_1407) ?_
  refine gS (S_invv (b := 0) (by decide) kn_126 rfl (kd_2 B m7) (Nat.le_of_ble_eq_true rfl) at_271_1408) ?_
  show lG Ls (((c_call 10) 126 [jR 2] (hH B m7)).bind _)
  rw [e8]
  show lG Ls (j_fin (c_call 10) 271 1411 [some (jR 0), some (jR 2), some (jI Q), some (jI (n : Int)), some (jI 1), some (jR A), some (jI 3), some (jR Ka), some (jI (N : Int)), some (jR Kc), some (jI last), some (jI best), some (jI (r : Int)), some (jI b), some (jI W0), some (jI E3), none, none, none, none, none, none] [jI E3, jI 1] (hH B m8))
  refine gS (S_iload rfl at_271_1411) ?_
  refine gS (S_icmp_ne at_271_1413) ?_
  refine gS (if_pos rfl) ?_
  refine gS (S_aload_n rfl at_271_1416) ?_
  refine gS (S_invv (b := 0) (by decide) kn_93 rfl (kd_2 B m8) (Nat.le_of_ble_eq_true rfl) at_271_1417) ?_
  show lG Ls (((c_call 10) 93 [jR 2] (hH B m8)).bind _)
  rw [e9]
  show lG Ls (j_fin (c_call 10) 271 1420 [some (jR 0), some (jR 2), some (jI Q), some (jI (n : Int)), some (jI 1), some (jR A), some (jI 3), some (jR Ka), some (jI (N : Int)), some (jR Kc), some (jI last), some (jI best), some (jI (r : Int)), some (jI b), some (jI W0), some (jI E3), none, none, none, none, none, none] [jI 2, jI 1] (hH B m9))
  refine gS (S_iload rfl at_271_1420) ?_
  refine gS (S_iconst at_271_1422) ?_
  refine gS (S_isub at_271_1423) ?_
  rw [show w32 (3 - 1) = 2 from by decide]
  refine gS (S_icmp_ne at_271_1424) ?_
  refine gS (if_pos (by decide)) ?_
  refine gS (S_aload_n rfl at_271_1427) ?_
  refine gS (S_iconst at_271_1428) ?_
  refine gS (S_invv (b := 1) (by decide) kn_88 rfl (kd_2 B m9) (Nat.le_of_ble_eq_true rfl) at_271_1429) ?_
  show lG Ls (((c_call 10) 88 [jR 2, jI 5] (hH B m9)).bind _)
  rw [e10]
  show lG Ls (j_fin (c_call 10) 271 1432 [some (jR 0), some (jR 2), some (jI Q), some (jI (n : Int)), some (jI 1), some (jR A), some (jI 3), some (jR Ka), some (jI (N : Int)), some (jR Kc), some (jI last), some (jI best), some (jI (r : Int)), some (jI b), some (jI W0), some (jI E3), none, none, none, none, none, none] [jI (n : Int), jI 1] (hH B m10))
  refine gS (S_iload_n rfl at_271_1432) ?_
  refine gS (S_icmp_ne at_271_1433) ?_
  refine gS (if_pos rfl) ?_
  refine gS (S_aload_n rfl at_271_1436) ?_
  refine gS (S_invv (b := 0) (by decide) kn_129 rfl (kd_2 B m10) (Nat.le_of_ble_eq_true rfl) at_271_1437) ?_
  show lG Ls (((c_call 10) 129 [jR 2] (hH B m10)).bind _)
  rw [e11]
  show lG Ls (j_fin (c_call 10) 271 1440 [some (jR 0), some (jR 2), some (jI Q), some (jI (n : Int)), some (jI 1), some (jR A), some (jI 3), some (jR Ka), some (jI (N : Int)), some (jR Kc), some (jI last), some (jI best), some (jI (r : Int)), some (jI b), some (jI W0), some (jI E3), none, none, none, none, none, none] [jI 3, jI 1] (hH B m11))
  refine gS (S_iload rfl at_271_1440) ?_
  refine gS (S_icmp_ne at_271_1442) ?_
  refine gS (if_pos (by decide)) ?_
  refine gS (S_iconst at_271_1445) ?_
  refine gS (S_goto at_271_1446) ?_
  refine gS (S_iand at_271_1450) ?_
  rw [j_and11]
  refine gS (S_istore (l1 := [some (jR 0), some (jR 2), some (jI Q), some (jI (n : Int)), some (jI 1), some (jR A), some (jI 3), some (jR Ka), some (jI (N : Int)), some (jR Kc), some (jI last), some (jI best), some (jI (r : Int)), some (jI b), some (jI W0), some (jI E3), none, none, none, none, none, none]) rfl at_271_1451) ?_
  exact K1
set_option maxHeartbeats 1000000 in
theorem T_1453 {Ls : Nat} {xs : Nat → Int32} {A n N Ka Kc : Nat} {Q last best : Int} {co t : Nat → Int} {B : j_B} {m : j_M0} {g : Nat → Int} {W0 E3 b : Int} {r : Nat} (hn : 2 ≤ n ∧ n ≤ 4) (hD : lD n co 3 g) (h6 : g 6 = N) (hW : W0 = worF (pkG (plG g g (g 5).toNat))) (hE : E3 = worF (pkG (plG (rw3 g r b) (rw3 g r b) (rw3 g r b 5).toNat))) (w : Rel xs (rw3 g r b) (some (rw3 g r b)) t 0 m)
  (K : ∀ (mn : j_M0) (q : Option (Nat → Int)) (D : Int), Rel xs g q t 0 mn → (∀ b z, 114 ≤ b → mn b z = m b z) → lG Ls (j_fin (c_call 10) 271 1574 [some (jR 0), some (jR 2), some (jI Q), some (jI (n : Int)), some (jI 1), some (jR A), some (jI 3), some (jR Ka), some (jI (N : Int)), some (jR Kc), some (jI last), some (jI best), some (jI (r : Int)), some (jI b), some (jI W0), some (jI E3), some (jI D), none, none, none, none, none] [] (hH B mn))) : lG Ls (j_fin (c_call 10) 271 1453 [some (jR 0), some (jR 2), some (jI Q), some (jI (n : Int)), some (jI 1), some (jR A), some (jI 3), some (jR Ka), some (jI (N : Int)), some (jR Kc), some (jI last), some (jI best), some (jI (r : Int)), some (jI b), some (jI W0), some (jI E3), none, none, none, none, none, none] [] (hH B m)) := by
  obtain ⟨h0, h1, h4, h5, hc⟩ := hD
  have g1 : g 1 = 3 := h1
  have p0 : rw3 g r b 0 = n := (rw3_ne (by omega) (by omega)).trans h0
  have p5 : rw3 g r b 5 = 3 := rfl
  have p6 : rw3 g r b 6 = N := (rw3_ne (by omega) (by omega)).trans h6
  have pne : ∀ z : Nat, ¬ (86 ≤ z ∧ z < 110) → g z = gU (rw3 g r b) 5 0 z := fun z hz => by
    by_cases e : z = 5
    · rw [e, h5, gU_eq rfl]
    · rw [gU_ne e, rw3_ne e (by omega)]
  generalize rw3 g r b = p at w hE p0 p5 p6 pne ⊢
  have e1 : c_call 10 130 [jR 2, jI 0] (hH B m) = some (some (jI (n : Int)), hH B m) := Q130s w (Or.inl ⟨rfl, p0.symm⟩)
  have e2 : c_call 10 130 [jR 2, jI 6] (hH B m) = some (some (jI 3), hH B m) := Q130s w (Or.inr (Or.inr (Or.inl ⟨rfl, p5.symm⟩)))
  have e3 : c_call 10 130 [jR 2, jI 7] (hH B m) = some (some (jI (N : Int)), hH B m) := Q130s w (Or.inr (Or.inr (Or.inr (Or.inl ⟨rfl, p6.symm⟩))))
  obtain ⟨m4, e4, r4, q4⟩ := PB126 (L := B) w
  rw [← hE] at e4
  obtain ⟨m5, e5, r5, q5⟩ := PB125z (L := B) r4 0 0
  have r5' : Rel xs g (some p) t 0 m5 := RQ_e r5 (gU_eq rfl) pne
  obtain ⟨m6, e6, r6, q6⟩ := PB126 (L := B) r5'
  rw [← hW] at e6
  have a3 := and_r Q 3 (by decide)
  obtain ⟨M, hM, hM2⟩ : ∃ M : Nat, w32 (1 + (j_and Q 3)) = (M : Int) ∧ 1 ≤ M ∧ M ≤ 4 := ⟨(1 + (j_and Q 3)).toNat, by rw [w32_id (by omega) (by omega)]; omega, by omega, by omega⟩
  obtain ⟨m7, e7, r7, q7⟩ := PB120 (L := B) r6 (x := Q) (M := M) (n := n) hM2 h0
  obtain ⟨m8, e8, r8, q8⟩ := PB120 (L := B) r7 (x := Q) (M := M) (n := n) hM2 h0
  have hD6 : -6 ≤ worF (pkG (drR Q n (gU g 1 (M : Int)) M)) := worF_6 (pkG_ok (drR_R (gR_many r6.2.1 (by omega)) (by omega) M (by omega)))
  generalize worF (pkG (drR Q n (gU g 1 (M : Int)) M)) = D at e7 e8 hD6
  obtain ⟨m9, e9, r9, q9⟩ := PB126 (L := B) r8
  rw [← hW] at e9
  have K1 := K m9 _ D r9 (fun b z h => (q9 b z h).trans ((q8 b z h).trans ((q7 b z h).trans ((q6 b z h).trans ((q5 b z h).trans (q4 b z h))))))
  refine gS (S_iload rfl at_271_1453) ?_
  refine gS (S_aload_n rfl at_271_1455) ?_
  refine gS (S_iconst at_271_1456) ?_
  refine gS (S_invv (b := 1) (by decide) kn_130 rfl (kd_2 B m) (Nat.le_of_ble_eq_true rfl) at_271_1457) ?_
  show lG Ls (((c_call 10) 130 [jR 2, jI 0] (hH B m)).bind _)
  rw [e1]
  show lG Ls (j_fin (c_call 10) 271 1460 [some (jR 0), some (jR 2), some (jI Q), some (jI (n : Int)), some (jI 1), some (jR A), some (jI 3), some (jR Ka), some (jI (N : Int)), some (jR Kc), some (jI last), some (jI best), some (jI (r : Int)), some (jI b), some (jI W0), some (jI E3), none, none, none, none, none, none] [jI (n : Int), jI 1] (hH B m))
  refine gS (S_iload_n rfl at_271_1460) ?_
  refine gS (S_icmp_ne at_271_1461) ?_
  refine gS (if_pos rfl) ?_
  refine gS (S_aload_n rfl at_271_1464) ?_
  refine gS (S_bipush at_271_1465) ?_
  refine gS (S_invv (b := 1) (by decide) kn_130 rfl (kd_2 B m) (Nat.le_of_ble_eq_true rfl) at_271_1467) ?_
  show lG Ls (((c_call 10) 130 [jR 2, jI 6] (hH B m)).bind _)
  rw [e2]
  show lG Ls (j_fin (c_call 10) 271 1470 [some (jR 0), some (jR 2), some (jI Q), some (jI (n : Int)), some (jI 1), some (jR A), some (jI 3), some (jR Ka), some (jI (N : Int)), some (jR Kc), some (jI last), some (jI best), some (jI (r : Int)), some (jI b), some (jI W0), some (jI E3), none, none, none, none, none, none] [jI 3, jI 1] (hH B m))
  refine gS (S_iconst at_271_1470) ?_
  refine gS (S_icmp_ne at_271_1471) ?_
  refine gS (if_pos (by decide)) ?_
  refine gS (S_aload_n rfl at_271_1474) ?_
  refine gS (S_bipush at_271_1475) ?_
  refine gS (S_invv (b := 1) (by decide) kn_130 rfl (kd_2 B m) (Nat.le_of_ble_eq_true rfl) at_271_1477) ?_
  show lG Ls (((c_call 10) 130 [jR 2, jI 7] (hH B m)).bind _)
  rw [e3]
  show lG Ls (j_fin (c_call 10) 271 1480 [some (jR 0), some (jR 2), some (jI Q), some (jI (n : Int)), some (jI 1), some (jR A), some (jI 3), some (jR Ka), some (jI (N : Int)), some (jR Kc), some (jI last), some (jI best), some (jI (r : Int)), some (jI b), some (jI W0), some (jI E3), none, none, none, none, none, none] [jI (N : Int), jI 1] (hH B m))
  refine gS (S_iload rfl at_271_1480) ?_
  refine gS (S_icmp_ne at_271_1482) ?_
  refine gS (if_pos rfl) ?_
  refine gS (S_aload_n rfl at_271_1485) ?_
  refine gS (S_invv (b := 0) (by decide) kn_126 rfl (kd_2 B m) (Nat.le_of_ble_eq_true rfl) at_271_1486) ?_
  show lG Ls (((c_call 10) 126 [jR 2] (hH B m)).bind _)
  rw [e4]
  show lG Ls (j_fin (c_call 10) 271 1489 [some (jR 0), some (jR 2), some (jI Q), some (jI (n : Int)), some (jI 1), some (jR A), some (jI 3), some (jR Ka), some (jI (N : Int)), some (jR Kc), some (jI last), some (jI best), some (jI (r : Int)), some (jI b), some (jI W0), some (jI E3), none, none, none, none, none, none] [jI E3, jI 1] (hH B m4))
  refine gS (S_iload rfl at_271_1489) ?_
  refine gS (S_icmp_ne at_271_1491) ?_
  refine gS (if_pos rfl) ?_
  refine gS (S_aload_n rfl at_271_1494) ?_
  refine gS (S_iconst at_271_1495) ?_
  refine gS (S_iconst at_271_1496) ?_
  refine gS (S_iconst at_271_1497) ?_
  refine gS (S_invv (b := 3) (by decide) kn_125 rfl (kd_2 B m4) (Nat.le_of_ble_eq_true rfl) at_271_1498) ?_
  show lG Ls (((c_call 10) 125 [jR 2, jI (-1), jI 0, jI 0] (hH B m4)).bind _)
  rw [e5]
  show lG Ls (j_fin (c_call 10) 271 1501 [some (jR 0), some (jR 2), some (jI Q), some (jI (n : Int)), some (jI 1), some (jR A), some (jI 3), some (jR Ka), some (jI (N : Int)), some (jR Kc), some (jI last), some (jI best), some (jI (r : Int)), some (jI b), some (jI W0), some (jI E3), none, none, none, none, none, none] [jI 0, jI 1] (hH B m5))
  refine gS (S_if_ne at_271_1501) ?_
  refine gS (if_pos (by decide)) ?_
  refine gS (S_aload_n rfl at_271_1504) ?_
  refine gS (S_invv (b := 0) (by decide) kn_126 rfl (kd_2 B m5) (Nat.le_of_ble_eq_true rfl) at_271_1505) ?_
  show lG Ls (((c_call 10) 126 [jR 2] (hH B m5)).bind _)
  rw [e6]
  show lG Ls (j_fin (c_call 10) 271 1508 [some (jR 0), some (jR 2), some (jI Q), some (jI (n : Int)), some (jI 1), some (jR A), some (jI 3), some (jR Ka), some (jI (N : Int)), some (jR Kc), some (jI last), some (jI best), some (jI (r : Int)), some (jI b), some (jI W0), some (jI E3), none, none, none, none, none, none] [jI W0, jI 1] (hH B m6))
  refine gS (S_iload rfl at_271_1508) ?_
  refine gS (S_icmp_ne at_271_1510) ?_
  refine gS (if_pos rfl) ?_
  refine gS (S_iconst at_271_1513) ?_
  refine gS (S_goto at_271_1514) ?_
  refine gS (S_iand at_271_1518) ?_
  rw [j_and11]
  refine gS (S_istore (l1 := [some (jR 0), some (jR 2), some (jI Q), some (jI (n : Int)), some (jI 1), some (jR A), some (jI 3), some (jR Ka), some (jI (N : Int)), some (jR Kc), some (jI last), some (jI best), some (jI (r : Int)), some (jI b), some (jI W0), some (jI E3), none, none, none, none, none, none]) rfl at_271_1519) ?_
  refine gS (S_aload_n rfl at_271_1521) ?_
  refine gS (S_iload_n rfl at_271_1522) ?_
  refine gS (S_iconst at_271_1523) ?_
  refine gS (S_iload_n rfl at_271_1524) ?_
  refine gS (S_iconst at_271_1525) ?_
  refine gS (S_iand at_271_1526) ?_
  refine gS (S_iadd at_271_1527) ?_
  rw [show w32 (1 + (j_and Q 3)) = (M : Int) from hM]
  refine gS (S_invv (b := 2) (by decide) kn_120 rfl (kd_2 B m6) (Nat.le_of_ble_eq_true rfl) at_271_1528) ?_
  show lG Ls (((c_call 10) 120 [jR 2, jI Q, jI (M : Int)] (hH B m6)).bind _)
  rw [e7]
  show lG Ls (j_fin (c_call 10) 271 1531 [some (jR 0), some (jR 2), some (jI Q), some (jI (n : Int)), some (jI 1), some (jR A), some (jI 3), some (jR Ka), some (jI (N : Int)), some (jR Kc), some (jI last), some (jI best), some (jI (r : Int)), some (jI b), some (jI W0), some (jI E3), none, none, none, none, none, none] [jI D] (hH B m7))
  refine gS (S_istore (l1 := [some (jR 0), some (jR 2), some (jI Q), some (jI (n : Int)), some (jI 1), some (jR A), some (jI 3), some (jR Ka), some (jI (N : Int)), some (jR Kc), some (jI last), some (jI best), some (jI (r : Int)), some (jI b), some (jI W0), some (jI E3), some (jI D), none, none, none, none, none]) rfl at_271_1531) ?_
  refine gS (S_iload rfl at_271_1533) ?_
  refine gS (S_iload rfl at_271_1535) ?_
  refine gS (S_bipush at_271_1537) ?_
  refine gS (S_icmp_lt at_271_1539) ?_
  refine gS (if_neg (by omega)) ?_
  refine gS (S_iload rfl at_271_1542) ?_
  refine gS (S_aload_n rfl at_271_1544) ?_
  refine gS (S_iload_n rfl at_271_1545) ?_
  refine gS (S_iconst at_271_1546) ?_
  refine gS (S_iload_n rfl at_271_1547) ?_
  refine gS (S_iconst at_271_1548) ?_
  refine gS (S_iand at_271_1549) ?_
  refine gS (S_iadd at_271_1550) ?_
  rw [show w32 (1 + (j_and Q 3)) = (M : Int) from hM]
  refine gS (S_invv (b := 2) (by decide) kn_120 rfl (kd_2 B m7) (Nat.le_of_ble_eq_true rfl) at_271_1551) ?_
  show lG Ls (((c_call 10) 120 [jR 2, jI Q, jI (M : Int)] (hH B m7)).bind _)
  rw [e8]
  show lG Ls (j_fin (c_call 10) 271 1554 [some (jR 0), some (jR 2), some (jI Q), some (jI (n : Int)), some (jI 1), some (jR A), some (jI 3), some (jR Ka), some (jI (N : Int)), some (jR Kc), some (jI last), some (jI best), some (jI (r : Int)), some (jI b), some (jI W0), some (jI E3), some (jI D), none, none, none, none, none] [jI D, jI D, jI 1] (hH B m8))
  refine gS (S_icmp_ne at_271_1554) ?_
  refine gS (if_pos rfl) ?_
  refine gS (S_aload_n rfl at_271_1557) ?_
  refine gS (S_invv (b := 0) (by decide) kn_126 rfl (kd_2 B m8) (Nat.le_of_ble_eq_true rfl) at_271_1558) ?_
  show lG Ls (((c_call 10) 126 [jR 2] (hH B m8)).bind _)
  rw [e9]
  show lG Ls (j_fin (c_call 10) 271 1561 [some (jR 0), some (jR 2), some (jI Q), some (jI (n : Int)), some (jI 1), some (jR A), some (jI 3), some (jR Ka), some (jI (N : Int)), some (jR Kc), some (jI last), some (jI best), some (jI (r : Int)), some (jI b), some (jI W0), some (jI E3), some (jI D), none, none, none, none, none] [jI W0, jI 1] (hH B m9))
  refine gS (S_iload rfl at_271_1561) ?_
  refine gS (S_icmp_ne at_271_1563) ?_
  refine gS (if_pos rfl) ?_
  refine gS (S_iconst at_271_1566) ?_
  refine gS (S_goto at_271_1567) ?_
  refine gS (S_iand at_271_1571) ?_
  rw [j_and11]
  refine gS (S_istore (l1 := [some (jR 0), some (jR 2), some (jI Q), some (jI (n : Int)), some (jI 1), some (jR A), some (jI 3), some (jR Ka), some (jI (N : Int)), some (jR Kc), some (jI last), some (jI best), some (jI (r : Int)), some (jI b), some (jI W0), some (jI E3), some (jI D), none, none, none, none, none]) rfl at_271_1572) ?_
  exact K1
