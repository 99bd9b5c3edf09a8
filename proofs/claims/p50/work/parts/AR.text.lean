/-! The law's walk: a text told, read, held against (pc 105 to 105). -/
theorem tx_join {bu : Nat} {B : j_B} {m : j_M0} {U V u v : Nat} {s x : List Int} (w : lJ bu B m) (hbu : bu ≤ 5000) (ht : sT (hH B m) U V s) (hV : 2 ≤ V) (hs : s.length ≤ 17) (c : sT (hH B m) u v x) (hv : 2 ≤ v) (hx : x.length ≤ 17) : ∃ (i0 i1 i2 : j_H) (Bn : j_B) (mn : j_M0) (U1 V1 : Nat), (hH B m).1.length < 900000 ∧ c_call 10 286 [jR (hH B m).1.length] (j_new (hH B m) 1 4) = some (none, i0) ∧ j_kd i0 (hH B m).1.length = some (1, 4) ∧ c_call 10 283 [jR (hH B m).1.length, jR U] i0 = some (some (jR (hH B m).1.length), i1) ∧ j_kd i1 (hH B m).1.length = some (1, 4) ∧ c_call 10 283 [jR (hH B m).1.length, jR u] i1 = some (some (jR (hH B m).1.length), i2) ∧ j_kd i2 (hH B m).1.length = some (1, 4) ∧ c_call 10 288 [jR (hH B m).1.length] i2 = some (some (jR U1), hH Bn mn) ∧ Bn.1 = B.1 ∧ lJ (bu + 6) Bn mn ∧ (∀ a i : Nat, a < 114 → mn a i = m a i) ∧ xF (fun _ => False) 6 2400 (hH B m) (hH Bn mn) ∧ sT (hH Bn mn) U1 V1 (s ++ x) ∧ 2 ≤ V1 ∧ 114 ≤ U1 ∧ 114 ≤ V1 := by
  have hw0 := lJ_hw w
  have hl := lJ_hl w
  obtain ⟨i0, e0, w0⟩ := bS_beg hw0 (by omega) (by omega)
  have l0 := bS_l w0
  have lt := sT_lt ht (by omega)
  have lc := sT_lt c (by omega)
  obtain ⟨i1, b1, c1, e1, w1⟩ := bS_app w0 hw0 (sT_x w0.2.1 hw0 (by omega) ht (fun h => h) (fun h => h)) (by omega) hV hs (by decide) (by omega) (by omega)
  have l1 := bS_l w1
  have n1 : v ≠ b1 := by
    have := w1.2.2.2.1
    omega
  obtain ⟨i2, b2, c2, e2, w2⟩ := bS_app w1 hw0 (sT_x w1.2.1 hw0 (by omega) c (fun h => h) (fun h => h)) n1 hv hx (by show s.length ≤ 60; omega) (by omega) (by omega)
  have l2 := bS_l w2
  obtain ⟨i3, e3, t3, x3, y3, z3⟩ := bS_str w2 (by
    show (s ++ x).length ≤ 60
    rw [List.length_append]
    omega) (by omega) (by omega)
  obtain ⟨Bn, mn, hE, b', w', q'⟩ := lJ_x (j := 6) w x3 y3 (by omega)
  subst hE
  exact ⟨i0, i1, i2, Bn, mn, _, _, by omega, e0, bS_k w0, e1, bS_k w1, e2, bS_k w2, e3, b', w', q', x3, t3, by omega, by omega, by omega⟩
theorem txO_s {h : j_H} {u v : Nat} {s : List Int} (w : sT h u v s) (hs : s.length ≤ 80) : txO (teF s) s.length := ⟨hs, fun i hi => by
  show 0 ≤ s.getD i 0 ∧ s.getD i 0 ≤ 127
  rw [List.getD_eq_getElem?_getD, List.getElem?_eq_getElem hi]
  exact w.2.2.2.2.2.1 _ (List.getElem_mem hi)⟩
/-- fed and not read: the place is told -/
theorem fd_no {B : j_B} {xs : Nat → Int32} {g : Nat → Int} {q : Option (Nat → Int)} {t : Nat → Int} {m : j_M0} {u v n ps : Nat} {s : List Int} {S : Nat → Int} {R : Int} (r : Rel xs g q t 0 m) (w : sT (hH B m) u v s) (hu : 114 ≤ u) (hv : 114 ≤ v) (hs : s.length ≤ 80) (hn : g 0 = n) (h1 : (alF (teF s) s.length n 4 0 0 S).1 ≠ true) (h2 : (alF (teF s) s.length n 4 0 0 S).2.1 = ps) (hR : -10 - (ps : Int) = R) : ∃ m1 m2 : j_M0, c_call 10 309 [jR 2, jR u] (hH B m) = some (some (jI 1), hH B m1) ∧ c_call 10 95 [jR 2] (hH B m1) = some (some (jI R), hH B m2) ∧ Rel xs g q (teF s) 0 m2 ∧ ∀ b z, 114 ≤ b → m2 b z = m b z := by
  obtain ⟨m1, e1, r1, q1⟩ := R309 (L := B) r w hu hv hs
  have hn' : (g 0).toNat = n := by omega
  obtain ⟨m2, e2, r2, q2⟩ := PB95f (L := B) r1 (txO_s w hs) S (by rw [hn']; exact h1)
  rw [hn', h2, hR] at e2
  exact ⟨m1, m2, e1, e2, r2, fun b z h => (q2 b z h).trans (q1 b z h)⟩
theorem Q130s {L : j_B} {xs : Nat → Int32} {g : Nat → Int} {q : Option (Nat → Int)} {t : Nat → Int} {N : Nat} {m : j_M0} (w : Rel xs g q t N m) {x v : Int} (h : (x = 0 ∧ v = g 0) ∨ (x = 1 ∧ v = g 1) ∨ (x = 6 ∧ v = g 5) ∨ (x = 7 ∧ v = g 6) ∨ (x = 8 ∧ v = N) ∨ (x = 10 ∧ v = -2)) : c_call 10 130 [jR 2, jI x] (hH L m) = some (some (jI v), hH L m) := by
  have n := RQ_n w
  have e8 : m 3 8 = g 5 := w.2.2.2.1.2.2.2.2.2.2.2.1
  have e9 : m 9 0 = g 6 := w.2.2.2.1.2.1.1
  have e93 : m 93 0 = N := w.2.2.2.2.2.1.1
  refine (E130 (d := 9)).trans ?_
  rw [T130_0, n.2.2.2.2.1, n.2.2.2.2.2, e8, e9, e93]
  rcases h with ⟨rfl, rfl⟩ | ⟨rfl, rfl⟩ | ⟨rfl, rfl⟩ | ⟨rfl, rfl⟩ | ⟨rfl, rfl⟩ | ⟨rfl, rfl⟩ <;> rfl
theorem xF_cl {c n : Nat} {B B' : j_B} {m m' m'' : j_M0} (x : xF (fun a => a < 114) c n (hH B m) (hH B' m')) (k : ∀ b z, 114 ≤ b → m'' b z = m' b z) : xF (fun a => a < 114) c n (hH B m) (hH B' m'') :=
  ⟨x.1, x.2.1, x.2.2.1, fun a i ha hW => (k a i (by omega)).trans (x.2.2.2 a i ha hW)⟩
theorem T_373 {Ls : Nat} {xs : Nat → Int32} {A n T F U V bu : Nat} {Q e : Int} {co g t φ : Nat → Int} {s : List Int} {B : j_B} {m : j_M0} {d12 d13 d14 d15 : Option j_V} (n12 : nL d12) (n13 : nL d13) (n14 : nL d14) (n15 : nL d15) (w : lJ bu B m) (hbu : bu ≤ 5000) (ht : sT (hH B m) U V s) (hV : 2 ≤ V) (hs : s.length ≤ 9)
  (K : ∀ (Bn : j_B) (mn : j_M0) (U1 V1 : Nat) (cm bd wr : Int) (d13 d14 d15 : Option j_V), nL d13 → nL d14 → nL d15 → Bn.1 = B.1 → lJ (bu + 6) Bn mn → (∀ a i : Nat, a < 114 → mn a i = m a i) → xF (fun _ => False) 6 2400 (hH B m) (hH Bn mn) → sT (hH Bn mn) U1 V1 (wcF s cm bd) → 114 ≤ U1 → 114 ≤ V1 → (wcF s cm bd).length ≤ 13 → (cm = 62 ∧ j_and (j_shr e 28) 1 = 0 ∨ cm = 60 ∧ ¬ j_and (j_shr e 28) 1 = 0) → (-20 ≤ bd ∧ bd ≤ 85) → (0 ≤ wr ∧ wr ≤ 3) → lG Ls (j_fin (c_call 10) 271 440 [some (jR 0), some (jR 2), some (jI Q), some (jI (n : Int)), some (jI 1), some (jR A), some (jI (T : Int)), some (jI (T : Int)), some (jI e), some (jR F), some (jR U1), some (jI bd), some (jI wr), d13, d14, d15, none, none, none, none, none, none] [] (hH Bn mn))) : lG Ls (j_fin (c_call 10) 271 373 [some (jR 0), some (jR 2), some (jI Q), some (jI (n : Int)), some (jI 1), some (jR A), some (jI (T : Int)), some (jI (T : Int)), some (jI e), some (jR F), some (jR U), some (jI (((3 : Nat) : Int))), d12, d13, d14, d15, none, none, none, none, none, none] [] (hH B m)) := by
  have hw0 := lJ_hw w
  have hl := lJ_hl w
  have a7 := and_r (j_shr e 24) 7 (by decide)
  obtain ⟨bd, hbd, hb⟩ : ∃ bd, w32 ((w32 ((j_and (j_shr e 24) 7) * 15)) - 20) = bd ∧ -20 ≤ bd ∧ bd ≤ 85 := by
    refine ⟨_, rfl, ?_⟩
    rw [w32_id (x := (j_and (j_shr e 24) 7) * 15) (by omega) (by omega), w32_id (by omega) (by omega)]
    omega
  obtain ⟨wr, hwr, hwr2⟩ : ∃ wr, j_and (j_shr e 29) 3 = wr ∧ 0 ≤ wr ∧ wr ≤ 3 := ⟨_, rfl, and_r _ 3 (by decide)⟩
  obtain ⟨i0, e0, w0⟩ := bS_beg hw0 (by omega) (by omega)
  have l0 := bS_l w0
  have lt := sT_lt ht (by omega)
  obtain ⟨i1, b1, c1, e1, w1⟩ := bS_app w0 hw0 (sT_x w0.2.1 hw0 (by omega) ht (fun h => h) (fun h => h)) (by omega) hV (by omega) (by decide) (by omega) (by omega)
  have l1 := bS_l w1
  by_cases h28 : j_and (j_shr e 28) 1 = 0
  · skip
    obtain ⟨i2, b2, c2, e2, w2⟩ := bS_app w1 hw0 (sT_x w1.2.1 hw0 (by omega) (lJ_t w 3 (by omega) 1000006 1000007 _ rfl rfl tx_3) (fun h => h) (fun h => h)) (by omega) (by omega) (by decide) (by show s.length ≤ 60; omega) (by omega) (by omega)
    have l2 := bS_l w2
    obtain ⟨i3, e3, w3⟩ := bS_num (x := bd) w2 hw0 w.2.1 (by omega) (by
      show (s ++ [62]).length ≤ 13
      rw [List.length_append]
      show _ + 1 ≤ 13
      omega) (by omega) (by omega)
    have l3 := bS_l w3
    have lw : (wcF s 62 bd).length ≤ 13 := by
      unfold wcF
      rw [List.length_append, List.length_append]
      have := dgF_l bd
      show _ + 1 + _ ≤ 13
      omega
    obtain ⟨i4, e4, t4, x4, y4, z4⟩ := bS_str w3 (by show (wcF s 62 bd).length ≤ 60; omega) (by omega) (by omega)
    obtain ⟨Bn, mn, hE, b', w', q'⟩ := lJ_x (j := 6) w x4 y4 (by omega)
    subst hE
    have K1 := K Bn mn _ _ 62 bd wr d13 d14 d15 n13 n14 n15 b' w' q' x4 t4 (by omega) (by omega) lw (Or.inl ⟨rfl, h28⟩) hb hwr2
    refine gS (S_iload rfl at_271_373) ?_
    refine gS (S_bipush at_271_375) ?_
    refine gS (S_ishr at_271_377) ?_
    refine gS (S_bipush at_271_378) ?_
    refine gS (S_iand at_271_380) ?_
    refine gS (S_bipush at_271_381) ?_
    refine gS (S_imul at_271_383) ?_
    refine gS (S_bipush at_271_384) ?_
    refine gS (S_isub at_271_386) ?_
    rw [show w32 ((w32 ((j_and (j_shr e 24) 7) * 15)) - 20) = bd from hbd]
    refine gS (S_istore (l1 := [some (jR 0), some (jR 2), some (jI Q), some (jI (n : Int)), some (jI 1), some (jR A), some (jI (T : Int)), some (jI (T : Int)), some (jI e), some (jR F), some (jR U), some (jI bd), d12, d13, d14, d15, none, none, none, none, none, none]) rfl at_271_387) ?_
    refine gS (S_new ⟨by decide, by omega⟩ at_271_389) ?_
    show lG Ls (j_fin (c_call 10) 271 392 [some (jR 0), some (jR 2), some (jI Q), some (jI (n : Int)), some (jI 1), some (jR A), some (jI (T : Int)), some (jI (T : Int)), some (jI e), some (jR F), some (jR U), some (jI bd), d12, d13, d14, d15, none, none, none, none, none, none] [jR ((hH B m).1.length)] ((j_new (hH B m) 1 4)))
    refine gS (S_dup rfl at_271_392) ?_
    refine gS (S_invi (b := 0) (kd := 0) (by decide) kn_286 rfl (Nat.le_of_ble_eq_true rfl) at_271_393) ?_
    show lG Ls (((c_call 10) 286 [jR ((hH B m).1.length)] ((j_new (hH B m) 1 4))).bind _)
    rw [e0]
    show lG Ls (j_fin (c_call 10) 271 396 [some (jR 0), some (jR 2), some (jI Q), some (jI (n : Int)), some (jI 1), some (jR A), some (jI (T : Int)), some (jI (T : Int)), some (jI e), some (jR F), some (jR U), some (jI bd), d12, d13, d14, d15, none, none, none, none, none, none] [jR ((hH B m).1.length)] i0)
    refine gS (S_aload rfl at_271_396) ?_
    refine gS (S_invv (b := 1) (by decide) kn_283 rfl (bS_k w0) (Nat.le_of_ble_eq_true rfl) at_271_398) ?_
    show lG Ls (((c_call 10) 283 [jR ((hH B m).1.length), jR U] i0).bind _)
    rw [e1]
    show lG Ls (j_fin (c_call 10) 271 401 [some (jR 0), some (jR 2), some (jI Q), some (jI (n : Int)), some (jI 1), some (jR A), some (jI (T : Int)), some (jI (T : Int)), some (jI e), some (jR F), some (jR U), some (jI bd), d12, d13, d14, d15, none, none, none, none, none, none] [jR ((hH B m).1.length)] i1)
    refine gS (S_iload rfl at_271_401) ?_
    refine gS (S_bipush at_271_403) ?_
    refine gS (S_ishr at_271_405) ?_
    refine gS (S_iconst at_271_406) ?_
    refine gS (S_iand at_271_407) ?_
    refine gS (S_if_ne at_271_408) ?_
    refine gS (if_pos h28) ?_
    refine gS (S_ldcT rfl at_271_411) ?_
    show lG Ls (j_fin (c_call 10) 271 413 [some (jR 0), some (jR 2), some (jI Q), some (jI (n : Int)), some (jI 1), some (jR A), some (jI (T : Int)), some (jI (T : Int)), some (jI e), some (jR F), some (jR U), some (jI bd), d12, d13, d14, d15, none, none, none, none, none, none] [jR 1000006, jR ((hH B m).1.length)] i1)
    refine gS (S_goto at_271_413) ?_
    refine gS (S_invv (b := 1) (by decide) kn_283 rfl (bS_k w1) (Nat.le_of_ble_eq_true rfl) at_271_418) ?_
    show lG Ls (((c_call 10) 283 [jR ((hH B m).1.length), jR 1000006] i1).bind _)
    rw [e2]
    show lG Ls (j_fin (c_call 10) 271 421 [some (jR 0), some (jR 2), some (jI Q), some (jI (n : Int)), some (jI 1), some (jR A), some (jI (T : Int)), some (jI (T : Int)), some (jI e), some (jR F), some (jR U), some (jI bd), d12, d13, d14, d15, none, none, none, none, none, none] [jR ((hH B m).1.length)] i2)
    refine gS (S_iload rfl at_271_421) ?_
    refine gS (S_invv (b := 1) (by decide) kn_284 rfl (bS_k w2) (Nat.le_of_ble_eq_true rfl) at_271_423) ?_
    show lG Ls (((c_call 10) 284 [jR ((hH B m).1.length), jI bd] i2).bind _)
    rw [e3]
    show lG Ls (j_fin (c_call 10) 271 426 [some (jR 0), some (jR 2), some (jI Q), some (jI (n : Int)), some (jI 1), some (jR A), some (jI (T : Int)), some (jI (T : Int)), some (jI e), some (jR F), some (jR U), some (jI bd), d12, d13, d14, d15, none, none, none, none, none, none] [jR ((hH B m).1.length)] i3)
    refine gS (S_invv (b := 0) (by decide) kn_288 rfl (bS_k w3) (Nat.le_of_ble_eq_true rfl) at_271_426) ?_
    show lG Ls (((c_call 10) 288 [jR ((hH B m).1.length)] i3).bind _)
    rw [e4]
    show lG Ls (j_fin (c_call 10) 271 429 [some (jR 0), some (jR 2), some (jI Q), some (jI (n : Int)), some (jI 1), some (jR A), some (jI (T : Int)), some (jI (T : Int)), some (jI e), some (jR F), some (jR U), some (jI bd), d12, d13, d14, d15, none, none, none, none, none, none] [jR (i3.1.length)] (hH Bn mn))
    refine gS (S_astore (l1 := [some (jR 0), some (jR 2), some (jI Q), some (jI (n : Int)), some (jI 1), some (jR A), some (jI (T : Int)), some (jI (T : Int)), some (jI e), some (jR F), some (jR (i3.1.length)), some (jI bd), d12, d13, d14, d15, none, none, none, none, none, none]) rfl at_271_429) ?_
    refine gS (S_iload rfl at_271_431) ?_
    refine gS (S_bipush at_271_433) ?_
    refine gS (S_ishr at_271_435) ?_
    refine gS (S_iconst at_271_436) ?_
    refine gS (S_iand at_271_437) ?_
    rw [show j_and (j_shr e 29) 3 = wr from hwr]
    refine gS (S_istore (l1 := [some (jR 0), some (jR 2), some (jI Q), some (jI (n : Int)), some (jI 1), some (jR A), some (jI (T : Int)), some (jI (T : Int)), some (jI e), some (jR F), some (jR (i3.1.length)), some (jI bd), some (jI wr), d13, d14, d15, none, none, none, none, none, none]) rfl at_271_438) ?_
    exact K1
  · skip
    obtain ⟨i2, b2, c2, e2, w2⟩ := bS_app w1 hw0 (sT_x w1.2.1 hw0 (by omega) (lJ_t w 4 (by omega) 1000008 1000009 _ rfl rfl tx_4) (fun h => h) (fun h => h)) (by omega) (by omega) (by decide) (by show s.length ≤ 60; omega) (by omega) (by omega)
    have l2 := bS_l w2
    obtain ⟨i3, e3, w3⟩ := bS_num (x := bd) w2 hw0 w.2.1 (by omega) (by
      show (s ++ [60]).length ≤ 13
      rw [List.length_append]
      show _ + 1 ≤ 13
      omega) (by omega) (by omega)
    have l3 := bS_l w3
    have lw : (wcF s 60 bd).length ≤ 13 := by
      unfold wcF
      rw [List.length_append, List.length_append]
      have := dgF_l bd
      show _ + 1 + _ ≤ 13
      omega
    obtain ⟨i4, e4, t4, x4, y4, z4⟩ := bS_str w3 (by show (wcF s 60 bd).length ≤ 60; omega) (by omega) (by omega)
    obtain ⟨Bn, mn, hE, b', w', q'⟩ := lJ_x (j := 6) w x4 y4 (by omega)
    subst hE
    have K1 := K Bn mn _ _ 60 bd wr d13 d14 d15 n13 n14 n15 b' w' q' x4 t4 (by omega) (by omega) lw (Or.inr ⟨rfl, h28⟩) hb hwr2
    refine gS (S_iload rfl at_271_373) ?_
    refine gS (S_bipush at_271_375) ?_
    refine gS (S_ishr at_271_377) ?_
    refine gS (S_bipush at_271_378) ?_
    refine gS (S_iand at_271_380) ?_
    refine gS (S_bipush at_271_381) ?_
    refine gS (S_imul at_271_383) ?_
    refine gS (S_bipush at_271_384) ?_
    refine gS (S_isub at_271_386) ?_
    rw [show w32 ((w32 ((j_and (j_shr e 24) 7) * 15)) - 20) = bd from hbd]
    refine gS (S_istore (l1 := [some (jR 0), some (jR 2), some (jI Q), some (jI (n : Int)), some (jI 1), some (jR A), some (jI (T : Int)), some (jI (T : Int)), some (jI e), some (jR F), some (jR U), some (jI bd), d12, d13, d14, d15, none, none, none, none, none, none]) rfl at_271_387) ?_
    refine gS (S_new ⟨by decide, by omega⟩ at_271_389) ?_
    show lG Ls (j_fin (c_call 10) 271 392 [some (jR 0), some (jR 2), some (jI Q), some (jI (n : Int)), some (jI 1), some (jR A), some (jI (T : Int)), some (jI (T : Int)), some (jI e), some (jR F), some (jR U), some (jI bd), d12, d13, d14, d15, none, none, none, none, none, none] [jR ((hH B m).1.length)] ((j_new (hH B m) 1 4)))
    refine gS (S_dup rfl at_271_392) ?_
    refine gS (S_invi (b := 0) (kd := 0) (by decide) kn_286 rfl (Nat.le_of_ble_eq_true rfl) at_271_393) ?_
    show lG Ls (((c_call 10) 286 [jR ((hH B m).1.length)] ((j_new (hH B m) 1 4))).bind _)
    rw [e0]
    show lG Ls (j_fin (c_call 10) 271 396 [some (jR 0), some (jR 2), some (jI Q), some (jI (n : Int)), some (jI 1), some (jR A), some (jI (T : Int)), some (jI (T : Int)), some (jI e), some (jR F), some (jR U), some (jI bd), d12, d13, d14, d15, none, none, none, none, none, none] [jR ((hH B m).1.length)] i0)
    refine gS (S_aload rfl at_271_396) ?_
    refine gS (S_invv (b := 1) (by decide) kn_283 rfl (bS_k w0) (Nat.le_of_ble_eq_true rfl) at_271_398) ?_
    show lG Ls (((c_call 10) 283 [jR ((hH B m).1.length), jR U] i0).bind _)
    rw [e1]
    show lG Ls (j_fin (c_call 10) 271 401 [some (jR 0), some (jR 2), some (jI Q), some (jI (n : Int)), some (jI 1), some (jR A), some (jI (T : Int)), some (jI (T : Int)), some (jI e), some (jR F), some (jR U), some (jI bd), d12, d13, d14, d15, none, none, none, none, none, none] [jR ((hH B m).1.length)] i1)
    refine gS (S_iload rfl at_271_401) ?_
    refine gS (S_bipush at_271_403) ?_
    refine gS (S_ishr at_271_405) ?_
    refine gS (S_iconst at_271_406) ?_
    refine gS (S_iand at_271_407) ?_
    refine gS (S_if_ne at_271_408) ?_
    refine gS (if_neg h28) ?_
    refine gS (S_ldcT rfl at_271_416) ?_
    show lG Ls (j_fin (c_call 10) 271 418 [some (jR 0), some (jR 2), some (jI Q), some (jI (n : Int)), some (jI 1), some (jR A), some (jI (T : Int)), some (jI (T : Int)), some (jI e), some (jR F), some (jR U), some (jI bd), d12, d13, d14, d15, none, none, none, none, none, none] [jR 1000008, jR ((hH B m).1.length)] i1)
    refine gS (S_invv (b := 1) (by decide) kn_283 rfl (bS_k w1) (Nat.le_of_ble_eq_true rfl) at_271_418) ?_
    show lG Ls (((c_call 10) 283 [jR ((hH B m).1.length), jR 1000008] i1).bind _)
    rw [e2]
    show lG Ls (j_fin (c_call 10) 271 421 [some (jR 0), some (jR 2), some (jI Q), some (jI (n : Int)), some (jI 1), some (jR A), some (jI (T : Int)), some (jI (T : Int)), some (jI e), some (jR F), some (jR U), some (jI bd), d12, d13, d14, d15, none, none, none, none, none, none] [jR ((hH B m).1.length)] i2)
    refine gS (S_iload rfl at_271_421) ?_
    refine gS (S_invv (b := 1) (by decide) kn_284 rfl (bS_k w2) (Nat.le_of_ble_eq_true rfl) at_271_423) ?_
    show lG Ls (((c_call 10) 284 [jR ((hH B m).1.length), jI bd] i2).bind _)
    rw [e3]
    show lG Ls (j_fin (c_call 10) 271 426 [some (jR 0), some (jR 2), some (jI Q), some (jI (n : Int)), some (jI 1), some (jR A), some (jI (T : Int)), some (jI (T : Int)), some (jI e), some (jR F), some (jR U), some (jI bd), d12, d13, d14, d15, none, none, none, none, none, none] [jR ((hH B m).1.length)] i3)
    refine gS (S_invv (b := 0) (by decide) kn_288 rfl (bS_k w3) (Nat.le_of_ble_eq_true rfl) at_271_426) ?_
    show lG Ls (((c_call 10) 288 [jR ((hH B m).1.length)] i3).bind _)
    rw [e4]
    show lG Ls (j_fin (c_call 10) 271 429 [some (jR 0), some (jR 2), some (jI Q), some (jI (n : Int)), some (jI 1), some (jR A), some (jI (T : Int)), some (jI (T : Int)), some (jI e), some (jR F), some (jR U), some (jI bd), d12, d13, d14, d15, none, none, none, none, none, none] [jR (i3.1.length)] (hH Bn mn))
    refine gS (S_astore (l1 := [some (jR 0), some (jR 2), some (jI Q), some (jI (n : Int)), some (jI 1), some (jR A), some (jI (T : Int)), some (jI (T : Int)), some (jI e), some (jR F), some (jR (i3.1.length)), some (jI bd), d12, d13, d14, d15, none, none, none, none, none, none]) rfl at_271_429) ?_
    refine gS (S_iload rfl at_271_431) ?_
    refine gS (S_bipush at_271_433) ?_
    refine gS (S_ishr at_271_435) ?_
    refine gS (S_iconst at_271_436) ?_
    refine gS (S_iand at_271_437) ?_
    rw [show j_and (j_shr e 29) 3 = wr from hwr]
    refine gS (S_istore (l1 := [some (jR 0), some (jR 2), some (jI Q), some (jI (n : Int)), some (jI 1), some (jR A), some (jI (T : Int)), some (jI (T : Int)), some (jI e), some (jR F), some (jR (i3.1.length)), some (jI bd), some (jI wr), d13, d14, d15, none, none, none, none, none, none]) rfl at_271_438) ?_
    exact K1
set_option maxHeartbeats 1000000 in
theorem T_440 {Ls : Nat} {xs : Nat → Int32} {A n T F U V bu : Nat} {Q e : Int} {co g t φ : Nat → Int} {s : List Int} {B : j_B} {m : j_M0} {cm bd : Int} {d13 d14 d15 : Option j_V} {vv : Nat} (n13 : nL d13) (n14 : nL d14) (n15 : nL d15) (w : lJ bu B m) (hbu : bu ≤ 4900) (r : Rel xs g none t 0 m) (hg0 : g 0 = n) (hg1 : g 1 = (T : Int)) (hn : 2 ≤ n ∧ n ≤ 4) (ht : sT (hH B m) U V (wcF s cm bd)) (hU : 114 ≤ U) (hV : 114 ≤ V) (hl13 : (wcF s cm bd).length ≤ 13) (hsu : suP n s φ vv) (hs0 : s ≠ []) (hcm : cm = 62 ∨ cm = 60) (hbd : -99 ≤ bd ∧ bd ≤ 99)
  (K : ∀ (Bn : j_B) (mn : j_M0) (tn : Nat → Int) (d13 : Option j_V), nL d13 → Bn.1 = B.1 → lJ (bu + 25) Bn mn → Rel xs g none tn 0 mn → xF (fun a => a < 114) 25 10000 (hH B m) (hH Bn mn) → lG Ls (j_fin (c_call 10) 271 674 [some (jR 0), some (jR 2), some (jI Q), some (jI (n : Int)), some (jI 1), some (jR A), some (jI (T : Int)), some (jI (T : Int)), some (jI e), some (jR F), some (jR U), some (jI bd), some (jI 0), d13, d14, d15, none, none, none, none, none, none] [] (hH Bn mn))) : lG Ls (j_fin (c_call 10) 271 440 [some (jR 0), some (jR 2), some (jI Q), some (jI (n : Int)), some (jI 1), some (jR A), some (jI (T : Int)), some (jI (T : Int)), some (jI e), some (jR F), some (jR U), some (jI bd), some (jI 0), d13, d14, d15, none, none, none, none, none, none] [] (hH B m)) := by
  obtain ⟨N, hN0⟩ : ∃ N, (wcF s cm bd).length = N := ⟨_, rfl⟩
  have hN := R279 (d := 8) ht
  rw [hN0] at hN
  have hw := lJ_hw w
  have hl := lJ_hl w
  -- ";a"
  obtain ⟨ai0, ai1, ai2, B1, m1, U1, V1, al, a0, ak0, a1, ak1, a2, ak2, a3, ab, aw, aq, ax, at1, aV2, aU, aV⟩ := tx_join w (by omega) ht (by omega) (by omega) (lJ_t w 5 (by omega) 1000010 1000011 _ rfl rfl tx_5) (by omega) (by decide)
  have p1 := alF_a (n := n) (S := fun _ => 0) (by omega) hsu hs0 hcm hbd
  obtain ⟨R1, hR1⟩ : ∃ R1, w32 ((w32 ((-10) - (N : Int))) - 2) = R1 := ⟨_, rfl⟩
  have hR1' : R1 = -10 - (N : Int) - 2 := by
    rw [← hR1, w32_id (x := (-10) - (N : Int)) (by omega) (by omega), w32_id (by omega) (by omega)]
  obtain ⟨m2, m3, f1, g1, r3, q3⟩ := fd_no (B := B1) (R := R1) (RQ_low r aq) at1 aU aV (by rw [List.length_append, hN0]; show N + 2 ≤ 80; omega) hg0 p1.1 p1.2 (by omega)
  have cnt8 : c_call 10 130 [jR 2, jI 8] (hH B1 m3) = some (some (jI 0), hH B1 m3) := Q130s r3 (x := 8) (v := 0) (Or.inr (Or.inr (Or.inr (Or.inr (Or.inl ⟨rfl, rfl⟩)))))
  have cnt1 : c_call 10 130 [jR 2, jI 1] (hH B1 m3) = some (some (jI (T : Int)), hH B1 m3) := Q130s r3 (x := 1) (v := (T : Int)) (Or.inr (Or.inl ⟨rfl, hg1.symm⟩))
  have w3 := lJ_k aw q3
  have ht3 : sT (hH B1 m3) U V (wcF s cm bd) := sT_m (sT_x ax hw (by have := lJ_hl aw; omega) ht (fun h => h) (fun h => h)) (fun z => q3 _ z (by omega)) (fun z => q3 _ z (by omega))
  -- "x"
  obtain ⟨bi0, bi1, bi2, B2, m4, U2, V2, bl, b0, bk0, b1, bk1, b2, bk2, b3, bb, bw, bq, bx, bt1, bV2, bU, bV⟩ := tx_join w3 (by omega) ht3 (by omega) (by omega) (lJ_t w3 6 (by omega) 1000012 1000013 _ rfl rfl tx_6) (by omega) (by decide)
  have p2 := alF_x (n := n) (S := fun _ => 0) hsu hs0 hcm hbd
  obtain ⟨R2, hR2⟩ : ∃ R2, w32 ((-10) - (N : Int)) = R2 := ⟨_, rfl⟩
  have hR2' : R2 = -10 - (N : Int) := by
    rw [← hR2, w32_id (by omega) (by omega)]
  obtain ⟨m5, m6, f2, g2, r6, q6⟩ := fd_no (B := B2) (R := R2) (RQ_low r3 bq) bt1 bU bV (by rw [List.length_append, hN0]; show N + 1 ≤ 80; omega) hg0 p2.1 p2.2 (by omega)
  have w6 := lJ_k bw q6
  have ht6 : sT (hH B2 m6) U V (wcF s cm bd) := sT_m (sT_x bx (lJ_hw w3) (by have := lJ_hl bw; omega) ht3 (fun h => h) (fun h => h)) (fun z => q6 _ z (by omega)) (fun z => q6 _ z (by omega))
  -- ";9a+a>1"
  obtain ⟨ci0, ci1, ci2, B3, m7, U3, V3, cl, c0, ck0, c1, ck1, c2, ck2, c3, cb, cw, cq, cx, ct1, cV2, cU, cV⟩ := tx_join w6 (by omega) ht6 (by omega) (by omega) (lJ_t w6 7 (by omega) 1000014 1000015 _ rfl rfl tx_7) (by omega) (by decide)
  have p3 := alF_9 (n := n) (S := fun _ => 0) (by omega) hsu hs0 hcm hbd
  obtain ⟨R3, hR3⟩ : ∃ R3, w32 ((w32 ((-10) - (N : Int))) - 4) = R3 := ⟨_, rfl⟩
  have hR3' : R3 = -10 - (N : Int) - 4 := by
    rw [← hR3, w32_id (x := (-10) - (N : Int)) (by omega) (by omega), w32_id (by omega) (by omega)]
  obtain ⟨m8, m9, f3, g3, r9, q9⟩ := fd_no (B := B3) (R := R3) (RQ_low r6 cq) ct1 cU cV (by rw [List.length_append, hN0]; show N + 7 ≤ 80; omega) hg0 p3.1 p3.2 (by omega)
  have w9 := lJ_k cw q9
  -- "a>-100"
  have p4 := alF_c n (by omega) (by omega)
  obtain ⟨m10, m11, f4, g4, r11, q11⟩ := fd_no (B := B3) (R := -15) r9 (lJ_t w9 8 (by omega) 1000016 1000017 _ rfl rfl tx_8) (by omega) (by omega) (by decide) hg0 (fun h => absurd (p4.1.symm.trans h) (by decide)) p4.2 (by decide)
  have w11 := lJ_k w9 q11
  -- a letter too far
  have hw11 := lJ_hw w11
  have hl11 := lJ_hl w11
  obtain ⟨x0, k0, y0⟩ := bS_beg hw11 (by omega) (by omega)
  have ly0 := bS_l y0
  obtain ⟨x1, j1, i1, k1, y1⟩ := bS_app y0 hw11 (sT_x y0.2.1 hw11 (by omega) (lJ_t w11 0 (by omega) 1000000 1000001 _ rfl rfl tx_0) (fun h => h) (fun h => h)) (by omega) (by omega) (by decide) (by decide) (by omega) (by omega)
  have ly1 := bS_l y1
  obtain ⟨x2, j2, i2, k2, y2⟩ := bS_let (x := 97 + (n : Int)) y1 hw11 (by omega) (by decide) (by omega) (by omega)
  have ly2 := bS_l y2
  obtain ⟨x3, j3, i3, k3, y3⟩ := bS_app y2 hw11 (sT_x y2.2.1 hw11 (by omega) (lJ_t w11 9 (by omega) 1000018 1000019 _ rfl rfl tx_9) (fun h => h) (fun h => h)) (by omega) (by omega) (by decide) (by show (1 : Nat) ≤ 60; decide) (by omega) (by omega)
  have ly3 := bS_l y3
  obtain ⟨x4, k4, t4, xx4, yy4, zz4⟩ := bS_str y3 (by show (3 : Nat) ≤ 60; decide) (by omega) (by omega)
  obtain ⟨B4, m12, hE, eb, ew, eq⟩ := lJ_x (j := 7) w11 xx4 yy4 (by omega)
  subst hE
  have t4' : sT (hH B4 m12) x3.1.length (x3.1.length + 1) [97 + (n : Int), 62, 49] := t4
  have p5 := alF_n n (by omega) (by omega)
  obtain ⟨m13, m14, f5, g5, r14, q14⟩ := fd_no (B := B4) (R := -10) (RQ_low r11 eq) t4' (by omega) (by omega) (by show 3 ≤ 80; decide) hg0 (fun h => absurd (p5.1.symm.trans h) (by decide)) p5.2 (by decide)
  have w14 := lJ_k ew q14
  have xa : xF (fun a => a < 114) 6 2400 (hH B m) (hH B1 m3) := xF_cl (xF_w ax hw (fun _ h => h.elim) (Nat.le_refl _) (Nat.le_refl _)) q3
  have xb : xF (fun a => a < 114) 6 2400 (hH B1 m3) (hH B2 m6) := xF_cl (xF_w bx (lJ_hw w3) (fun _ h => h.elim) (Nat.le_refl _) (Nat.le_refl _)) q6
  have xc : xF (fun a => a < 114) 6 2400 (hH B2 m6) (hH B3 m9) := xF_cl (xF_w cx (lJ_hw w6) (fun _ h => h.elim) (Nat.le_refl _) (Nat.le_refl _)) q9
  have xd : xF (fun a => a < 114) 0 0 (hH B3 m9) (hH B3 m11) := xF_cl xF_rf q11
  have xe : xF (fun a => a < 114) 7 2800 (hH B3 m11) (hH B4 m14) := xF_cl (xF_w xx4 hw11 (fun _ h => h.elim) (Nat.le_refl _) (Nat.le_refl _)) q14
  have K1 := K B4 m14 _ (some (jI (N : Int))) (nL_i _) (eb.trans (cb.trans (bb.trans ab))) (lJ_w w14 (by omega)) r14 (xF_w (xF_tr (xF_tr (xF_tr (xF_tr xa xb) xc) xd) xe) hw (fun _ h => Or.inl h) (by omega) (by omega))
  refine gS (S_iload rfl at_271_440) ?_
  refine gS (S_if_ne at_271_442) ?_
  refine gS (if_pos (by decide)) ?_
  refine gS (S_aload rfl at_271_445) ?_
  refine gS (S_invv (b := 0) (by decide) kn_279 rfl ht.1 (Nat.le_of_ble_eq_true rfl) at_271_447) ?_
  show lG Ls (((c_call 10) 279 [jR U] (hH B m)).bind _)
  rw [hN]
  show lG Ls (j_fin (c_call 10) 271 450 [some (jR 0), some (jR 2), some (jI Q), some (jI (n : Int)), some (jI 1), some (jR A), some (jI (T : Int)), some (jI (T : Int)), some (jI e), some (jR F), some (jR U), some (jI bd), some (jI 0), d13, d14, d15, none, none, none, none, none, none] [jI (N : Int)] (hH B m))
  refine gS (S_istore (l1 := [some (jR 0), some (jR 2), some (jI Q), some (jI (n : Int)), some (jI 1), some (jR A), some (jI (T : Int)), some (jI (T : Int)), some (jI e), some (jR F), some (jR U), some (jI bd), some (jI 0), some (jI (N : Int)), d14, d15, none, none, none, none, none, none]) rfl at_271_450) ?_
  refine gS (S_iload rfl at_271_452) ?_
  refine gS (S_aload_n rfl at_271_454) ?_
  refine gS (S_new ⟨by decide, al⟩ at_271_455) ?_
  show lG Ls (j_fin (c_call 10) 271 458 [some (jR 0), some (jR 2), some (jI Q), some (jI (n : Int)), some (jI 1), some (jR A), some (jI (T : Int)), some (jI (T : Int)), some (jI e), some (jR F), some (jR U), some (jI bd), some (jI 0), some (jI (N : Int)), d14, d15, none, none, none, none, none, none] [jR ((hH B m).1.length), jR 2, jI 1] ((j_new (hH B m) 1 4)))
  refine gS (S_dup rfl at_271_458) ?_
  refine gS (S_invi (b := 0) (kd := 0) (by decide) kn_286 rfl (Nat.le_of_ble_eq_true rfl) at_271_459) ?_
  show lG Ls (((c_call 10) 286 [jR ((hH B m).1.length)] ((j_new (hH B m) 1 4))).bind _)
  rw [a0]
  show lG Ls (j_fin (c_call 10) 271 462 [some (jR 0), some (jR 2), some (jI Q), some (jI (n : Int)), some (jI 1), some (jR A), some (jI (T : Int)), some (jI (T : Int)), some (jI e), some (jR F), some (jR U), some (jI bd), some (jI 0), some (jI (N : Int)), d14, d15, none, none, none, none, none, none] [jR ((hH B m).1.length), jR 2, jI 1] ai0)
  refine gS (S_aload rfl at_271_462) ?_
  refine gS (S_invv (b := 1) (by decide) kn_283 rfl ak0 (Nat.le_of_ble_eq_true rfl) at_271_464) ?_
  show lG Ls (((c_call 10) 283 [jR ((hH B m).1.length), jR U] ai0).bind _)
  rw [a1]
  show lG Ls (j_fin (c_call 10) 271 467 [some (jR 0), some (jR 2), some (jI Q), some (jI (n : Int)), some (jI 1), some (jR A), some (jI (T : Int)), some (jI (T : Int)), some (jI e), some (jR F), some (jR U), some (jI bd), some (jI 0), some (jI (N : Int)), d14, d15, none, none, none, none, none, none] [jR ((hH B m).1.length), jR 2, jI 1] ai1)
  refine gS (S_ldcT rfl at_271_467) ?_
  show lG Ls (j_fin (c_call 10) 271 469 [some (jR 0), some (jR 2), some (jI Q), some (jI (n : Int)), some (jI 1), some (jR A), some (jI (T : Int)), some (jI (T : Int)), some (jI e), some (jR F), some (jR U), some (jI bd), some (jI 0), some (jI (N : Int)), d14, d15, none, none, none, none, none, none] [jR 1000010, jR ((hH B m).1.length), jR 2, jI 1] ai1)
  refine gS (S_invv (b := 1) (by decide) kn_283 rfl ak1 (Nat.le_of_ble_eq_true rfl) at_271_469) ?_
  show lG Ls (((c_call 10) 283 [jR ((hH B m).1.length), jR 1000010] ai1).bind _)
  rw [a2]
  show lG Ls (j_fin (c_call 10) 271 472 [some (jR 0), some (jR 2), some (jI Q), some (jI (n : Int)), some (jI 1), some (jR A), some (jI (T : Int)), some (jI (T : Int)), some (jI e), some (jR F), some (jR U), some (jI bd), some (jI 0), some (jI (N : Int)), d14, d15, none, none, none, none, none, none] [jR ((hH B m).1.length), jR 2, jI 1] ai2)
  refine gS (S_invv (b := 0) (by decide) kn_288 rfl ak2 (Nat.le_of_ble_eq_true rfl) at_271_472) ?_
  show lG Ls (((c_call 10) 288 [jR ((hH B m).1.length)] ai2).bind _)
  rw [a3]
  show lG Ls (j_fin (c_call 10) 271 475 [some (jR 0), some (jR 2), some (jI Q), some (jI (n : Int)), some (jI 1), some (jR A), some (jI (T : Int)), some (jI (T : Int)), some (jI e), some (jR F), some (jR U), some (jI bd), some (jI 0), some (jI (N : Int)), d14, d15, none, none, none, none, none, none] [jR U1, jR 2, jI 1] (hH B1 m1))
  refine gS (S_invs (by decide) (Nat.le_of_ble_eq_true rfl) (Nat.le_of_ble_eq_true rfl) at_271_475) ?_
  show lG Ls (((c_call 10) 309 [jR 2, jR U1] (hH B1 m1)).bind _)
  rw [f1]
  show lG Ls (j_fin (c_call 10) 271 478 [some (jR 0), some (jR 2), some (jI Q), some (jI (n : Int)), some (jI 1), some (jR A), some (jI (T : Int)), some (jI (T : Int)), some (jI e), some (jR F), some (jR U), some (jI bd), some (jI 0), some (jI (N : Int)), d14, d15, none, none, none, none, none, none] [jI 1, jI 1] (hH B1 m2))
  refine gS (S_if_eq at_271_478) ?_
  refine gS (if_neg (by decide)) ?_
  refine gS (S_aload_n rfl at_271_481) ?_
  refine gS (S_invv (b := 0) (by decide) kn_95 rfl (kd_2 B1 m2) (Nat.le_of_ble_eq_true rfl) at_271_482) ?_
  show lG Ls (((c_call 10) 95 [jR 2] (hH B1 m2)).bind _)
  rw [g1]
  show lG Ls (j_fin (c_call 10) 271 485 [some (jR 0), some (jR 2), some (jI Q), some (jI (n : Int)), some (jI 1), some (jR A), some (jI (T : Int)), some (jI (T : Int)), some (jI e), some (jR F), some (jR U), some (jI bd), some (jI 0), some (jI (N : Int)), d14, d15, none, none, none, none, none, none] [jI R1, jI 1] (hH B1 m3))
  refine gS (S_bipush at_271_485) ?_
  refine gS (S_iload rfl at_271_487) ?_
  refine gS (S_isub at_271_489) ?_
  refine gS (S_iconst at_271_490) ?_
  refine gS (S_isub at_271_491) ?_
  rw [show w32 ((w32 ((-10) - (N : Int))) - 2) = R1 from hR1]
  refine gS (S_icmp_ne at_271_492) ?_
  refine gS (if_pos rfl) ?_
  refine gS (S_aload_n rfl at_271_495) ?_
  refine gS (S_bipush at_271_496) ?_
  refine gS (S_invv (b := 1) (by decide) kn_130 rfl (kd_2 B1 m3) (Nat.le_of_ble_eq_true rfl) at_271_498) ?_
  show lG Ls (((c_call 10) 130 [jR 2, jI 8] (hH B1 m3)).bind _)
  rw [cnt8]
  show lG Ls (j_fin (c_call 10) 271 501 [some (jR 0), some (jR 2), some (jI Q), some (jI (n : Int)), some (jI 1), some (jR A), some (jI (T : Int)), some (jI (T : Int)), some (jI e), some (jR F), some (jR U), some (jI bd), some (jI 0), some (jI (N : Int)), d14, d15, none, none, none, none, none, none] [jI 0, jI 1] (hH B1 m3))
  refine gS (S_if_ne at_271_501) ?_
  refine gS (if_pos (by decide)) ?_
  refine gS (S_aload_n rfl at_271_504) ?_
  refine gS (S_iconst at_271_505) ?_
  refine gS (S_invv (b := 1) (by decide) kn_130 rfl (kd_2 B1 m3) (Nat.le_of_ble_eq_true rfl) at_271_506) ?_
  show lG Ls (((c_call 10) 130 [jR 2, jI 1] (hH B1 m3)).bind _)
  rw [cnt1]
  show lG Ls (j_fin (c_call 10) 271 509 [some (jR 0), some (jR 2), some (jI Q), some (jI (n : Int)), some (jI 1), some (jR A), some (jI (T : Int)), some (jI (T : Int)), some (jI e), some (jR F), some (jR U), some (jI bd), some (jI 0), some (jI (N : Int)), d14, d15, none, none, none, none, none, none] [jI (T : Int), jI 1] (hH B1 m3))
  refine gS (S_iload rfl at_271_509) ?_
  refine gS (S_icmp_ne at_271_511) ?_
  refine gS (if_pos rfl) ?_
  refine gS (S_iconst at_271_514) ?_
  refine gS (S_goto at_271_515) ?_
  refine gS (S_iand at_271_519) ?_
  rw [j_and11]
  refine gS (S_istore (l1 := [some (jR 0), some (jR 2), some (jI Q), some (jI (n : Int)), some (jI 1), some (jR A), some (jI (T : Int)), some (jI (T : Int)), some (jI e), some (jR F), some (jR U), some (jI bd), some (jI 0), some (jI (N : Int)), d14, d15, none, none, none, none, none, none]) rfl at_271_520) ?_
  refine gS (S_iload rfl at_271_522) ?_
  refine gS (S_aload_n rfl at_271_524) ?_
  refine gS (S_new ⟨by decide, bl⟩ at_271_525) ?_
  show lG Ls (j_fin (c_call 10) 271 528 [some (jR 0), some (jR 2), some (jI Q), some (jI (n : Int)), some (jI 1), some (jR A), some (jI (T : Int)), some (jI (T : Int)), some (jI e), some (jR F), some (jR U), some (jI bd), some (jI 0), some (jI (N : Int)), d14, d15, none, none, none, none, none, none] [jR ((hH B1 m3).1.length), jR 2, jI 1] ((j_new (hH B1 m3) 1 4)))
  refine gS (S_dup rfl at_271_528) ?_
  refine gS (S_invi (b := 0) (kd := 0) (by decide) kn_286 rfl (Nat.le_of_ble_eq_true rfl) at_271_529) ?_
  show lG Ls (((c_call 10) 286 [jR ((hH B1 m3).1.length)] ((j_new (hH B1 m3) 1 4))).bind _)
  rw [b0]
  show lG Ls (j_fin (c_call 10) 271 532 [some (jR 0), some (jR 2), some (jI Q), some (jI (n : Int)), some (jI 1), some (jR A), some (jI (T : Int)), some (jI (T : Int)), some (jI e), some (jR F), some (jR U), some (jI bd), some (jI 0), some (jI (N : Int)), d14, d15, none, none, none, none, none, none] [jR ((hH B1 m3).1.length), jR 2, jI 1] bi0)
  refine gS (S_aload rfl at_271_532) ?_
  refine gS (S_invv (b := 1) (by decide) kn_283 rfl bk0 (Nat.le_of_ble_eq_true rfl) at_271_534) ?_
  show lG Ls (((c_call 10) 283 [jR ((hH B1 m3).1.length), jR U] bi0).bind _)
  rw [b1]
  show lG Ls (j_fin (c_call 10) 271 537 [some (jR 0), some (jR 2), some (jI Q), some (jI (n : Int)), some (jI 1), some (jR A), some (jI (T : Int)), some (jI (T : Int)), some (jI e), some (jR F), some (jR U), some (jI bd), some (jI 0), some (jI (N : Int)), d14, d15, none, none, none, none, none, none] [jR ((hH B1 m3).1.length), jR 2, jI 1] bi1)
  refine gS (S_ldcT rfl at_271_537) ?_
  show lG Ls (j_fin (c_call 10) 271 539 [some (jR 0), some (jR 2), some (jI Q), some (jI (n : Int)), some (jI 1), some (jR A), some (jI (T : Int)), some (jI (T : Int)), some (jI e), some (jR F), some (jR U), some (jI bd), some (jI 0), some (jI (N : Int)), d14, d15, none, none, none, none, none, none] [jR 1000012, jR ((hH B1 m3).1.length), jR 2, jI 1] bi1)
  refine gS (S_invv (b := 1) (by decide) kn_283 rfl bk1 (Nat.le_of_ble_eq_true rfl) at_271_539) ?_
  show lG Ls (((c_call 10) 283 [jR ((hH B1 m3).1.length), jR 1000012] bi1).bind _)
  rw [b2]
  show lG Ls (j_fin (c_call 10) 271 542 [some (jR 0), some (jR 2), some (jI Q), some (jI (n : Int)), some (jI 1), some (jR A), some (jI (T : Int)), some (jI (T : Int)), some (jI e), some (jR F), some (jR U), some (jI bd), some (jI 0), some (jI (N : Int)), d14, d15, none, none, none, none, none, none] [jR ((hH B1 m3).1.length), jR 2, jI 1] bi2)
  refine gS (S_invv (b := 0) (by decide) kn_288 rfl bk2 (Nat.le_of_ble_eq_true rfl) at_271_542) ?_
  show lG Ls (((c_call 10) 288 [jR ((hH B1 m3).1.length)] bi2).bind _)
  rw [b3]
  show lG Ls (j_fin (c_call 10) 271 545 [some (jR 0), some (jR 2), some (jI Q), some (jI (n : Int)), some (jI 1), some (jR A), some (jI (T : Int)), some (jI (T : Int)), some (jI e), some (jR F), some (jR U), some (jI bd), some (jI 0), some (jI (N : Int)), d14, d15, none, none, none, none, none, none] [jR U2, jR 2, jI 1] (hH B2 m4))
  refine gS (S_invs (by decide) (Nat.le_of_ble_eq_true rfl) (Nat.le_of_ble_eq_true rfl) at_271_545) ?_
  show lG Ls (((c_call 10) 309 [jR 2, jR U2] (hH B2 m4)).bind _)
  rw [f2]
  show lG Ls (j_fin (c_call 10) 271 548 [some (jR 0), some (jR 2), some (jI Q), some (jI (n : Int)), some (jI 1), some (jR A), some (jI (T : Int)), some (jI (T : Int)), some (jI e), some (jR F), some (jR U), some (jI bd), some (jI 0), some (jI (N : Int)), d14, d15, none, none, none, none, none, none] [jI 1, jI 1] (hH B2 m5))
  refine gS (S_if_eq at_271_548) ?_
  refine gS (if_neg (by decide)) ?_
  refine gS (S_aload_n rfl at_271_551) ?_
  refine gS (S_invv (b := 0) (by decide) kn_95 rfl (kd_2 B2 m5) (Nat.le_of_ble_eq_true rfl) at_271_552) ?_
  show lG Ls (((c_call 10) 95 [jR 2] (hH B2 m5)).bind _)
  rw [g2]
  show lG Ls (j_fin (c_call 10) 271 555 [some (jR 0), some (jR 2), some (jI Q), some (jI (n : Int)), some (jI 1), some (jR A), some (jI (T : Int)), some (jI (T : Int)), some (jI e), some (jR F), some (jR U), some (jI bd), some (jI 0), some (jI (N : Int)), d14, d15, none, none, none, none, none, none] [jI R2, jI 1] (hH B2 m6))
  refine gS (S_bipush at_271_555) ?_
  refine gS (S_iload rfl at_271_557) ?_
  refine gS (S_isub at_271_559) ?_
  rw [show w32 ((-10) - (N : Int)) = R2 from hR2]
  refine gS (S_icmp_ne at_271_560) ?_
  refine gS (if_pos rfl) ?_
  refine gS (S_aload_n rfl at_271_563) ?_
  refine gS (S_new ⟨by decide, cl⟩ at_271_564) ?_
  show lG Ls (j_fin (c_call 10) 271 567 [some (jR 0), some (jR 2), some (jI Q), some (jI (n : Int)), some (jI 1), some (jR A), some (jI (T : Int)), some (jI (T : Int)), some (jI e), some (jR F), some (jR U), some (jI bd), some (jI 0), some (jI (N : Int)), d14, d15, none, none, none, none, none, none] [jR ((hH B2 m6).1.length), jR 2, jI 1] ((j_new (hH B2 m6) 1 4)))
  refine gS (S_dup rfl at_271_567) ?_
  refine gS (S_invi (b := 0) (kd := 0) (by decide) kn_286 rfl (Nat.le_of_ble_eq_true rfl) at_271_568) ?_
  show lG Ls (((c_call 10) 286 [jR ((hH B2 m6).1.length)] ((j_new (hH B2 m6) 1 4))).bind _)
  rw [c0]
  show lG Ls (j_fin (c_call 10) 271 571 [some (jR 0), some (jR 2), some (jI Q), some (jI (n : Int)), some (jI 1), some (jR A), some (jI (T : Int)), some (jI (T : Int)), some (jI e), some (jR F), some (jR U), some (jI bd), some (jI 0), some (jI (N : Int)), d14, d15, none, none, none, none, none, none] [jR ((hH B2 m6).1.length), jR 2, jI 1] ci0)
  refine gS (S_aload rfl at_271_571) ?_
  refine gS (S_invv (b := 1) (by decide) kn_283 rfl ck0 (Nat.le_of_ble_eq_true rfl) at_271_573) ?_
  show lG Ls (((c_call 10) 283 [jR ((hH B2 m6).1.length), jR U] ci0).bind _)
  rw [c1]
  show lG Ls (j_fin (c_call 10) 271 576 [some (jR 0), some (jR 2), some (jI Q), some (jI (n : Int)), some (jI 1), some (jR A), some (jI (T : Int)), some (jI (T : Int)), some (jI e), some (jR F), some (jR U), some (jI bd), some (jI 0), some (jI (N : Int)), d14, d15, none, none, none, none, none, none] [jR ((hH B2 m6).1.length), jR 2, jI 1] ci1)
  refine gS (S_ldcT rfl at_271_576) ?_
  show lG Ls (j_fin (c_call 10) 271 578 [some (jR 0), some (jR 2), some (jI Q), some (jI (n : Int)), some (jI 1), some (jR A), some (jI (T : Int)), some (jI (T : Int)), some (jI e), some (jR F), some (jR U), some (jI bd), some (jI 0), some (jI (N : Int)), d14, d15, none, none, none, none, none, none] [jR 1000014, jR ((hH B2 m6).1.length), jR 2, jI 1] ci1)
  refine gS (S_invv (b := 1) (by decide) kn_283 rfl ck1 (Nat.le_of_ble_eq_true rfl) at_271_578) ?_
  show lG Ls (((c_call 10) 283 [jR ((hH B2 m6).1.length), jR 1000014] ci1).bind _)
  rw [c2]
  show lG Ls (j_fin (c_call 10) 271 581 [some (jR 0), some (jR 2), some (jI Q), some (jI (n : Int)), some (jI 1), some (jR A), some (jI (T : Int)), some (jI (T : Int)), some (jI e), some (jR F), some (jR U), some (jI bd), some (jI 0), some (jI (N : Int)), d14, d15, none, none, none, none, none, none] [jR ((hH B2 m6).1.length), jR 2, jI 1] ci2)
  refine gS (S_invv (b := 0) (by decide) kn_288 rfl ck2 (Nat.le_of_ble_eq_true rfl) at_271_581) ?_
  show lG Ls (((c_call 10) 288 [jR ((hH B2 m6).1.length)] ci2).bind _)
  rw [c3]
  show lG Ls (j_fin (c_call 10) 271 584 [some (jR 0), some (jR 2), some (jI Q), some (jI (n : Int)), some (jI 1), some (jR A), some (jI (T : Int)), some (jI (T : Int)), some (jI e), some (jR F), some (jR U), some (jI bd), some (jI 0), some (jI (N : Int)), d14, d15, none, none, none, none, none, none] [jR U3, jR 2, jI 1] (hH B3 m7))
  refine gS (S_invs (by decide) (Nat.le_of_ble_eq_true rfl) (Nat.le_of_ble_eq_true rfl) at_271_584) ?_
  show lG Ls (((c_call 10) 309 [jR 2, jR U3] (hH B3 m7)).bind _)
  rw [f3]
  show lG Ls (j_fin (c_call 10) 271 587 [some (jR 0), some (jR 2), some (jI Q), some (jI (n : Int)), some (jI 1), some (jR A), some (jI (T : Int)), some (jI (T : Int)), some (jI e), some (jR F), some (jR U), some (jI bd), some (jI 0), some (jI (N : Int)), d14, d15, none, none, none, none, none, none] [jI 1, jI 1] (hH B3 m8))
  refine gS (S_if_eq at_271_587) ?_
  refine gS (if_neg (by decide)) ?_
  refine gS (S_aload_n rfl at_271_590) ?_
  refine gS (S_invv (b := 0) (by decide) kn_95 rfl (kd_2 B3 m8) (Nat.le_of_ble_eq_true rfl) at_271_591) ?_
  show lG Ls (((c_call 10) 95 [jR 2] (hH B3 m8)).bind _)
  rw [g3]
  show lG Ls (j_fin (c_call 10) 271 594 [some (jR 0), some (jR 2), some (jI Q), some (jI (n : Int)), some (jI 1), some (jR A), some (jI (T : Int)), some (jI (T : Int)), some (jI e), some (jR F), some (jR U), some (jI bd), some (jI 0), some (jI (N : Int)), d14, d15, none, none, none, none, none, none] [jI R3, jI 1] (hH B3 m9))
  refine gS (S_bipush at_271_594) ?_
  refine gS (S_iload rfl at_271_596) ?_
  refine gS (S_isub at_271_598) ?_
  refine gS (S_iconst at_271_599) ?_
  refine gS (S_isub at_271_600) ?_
  rw [show w32 ((w32 ((-10) - (N : Int))) - 4) = R3 from hR3]
  refine gS (S_icmp_ne at_271_601) ?_
  refine gS (if_pos rfl) ?_
  refine gS (S_aload_n rfl at_271_604) ?_
  refine gS (S_ldcT rfl at_271_605) ?_
  show lG Ls (j_fin (c_call 10) 271 607 [some (jR 0), some (jR 2), some (jI Q), some (jI (n : Int)), some (jI 1), some (jR A), some (jI (T : Int)), some (jI (T : Int)), some (jI e), some (jR F), some (jR U), some (jI bd), some (jI 0), some (jI (N : Int)), d14, d15, none, none, none, none, none, none] [jR 1000016, jR 2, jI 1] (hH B3 m9))
  refine gS (S_invs (by decide) (Nat.le_of_ble_eq_true rfl) (Nat.le_of_ble_eq_true rfl) at_271_607) ?_
  show lG Ls (((c_call 10) 309 [jR 2, jR 1000016] (hH B3 m9)).bind _)
  rw [f4]
  show lG Ls (j_fin (c_call 10) 271 610 [some (jR 0), some (jR 2), some (jI Q), some (jI (n : Int)), some (jI 1), some (jR A), some (jI (T : Int)), some (jI (T : Int)), some (jI e), some (jR F), some (jR U), some (jI bd), some (jI 0), some (jI (N : Int)), d14, d15, none, none, none, none, none, none] [jI 1, jI 1] (hH B3 m10))
  refine gS (S_if_eq at_271_610) ?_
  refine gS (if_neg (by decide)) ?_
  refine gS (S_aload_n rfl at_271_613) ?_
  refine gS (S_invv (b := 0) (by decide) kn_95 rfl (kd_2 B3 m10) (Nat.le_of_ble_eq_true rfl) at_271_614) ?_
  show lG Ls (((c_call 10) 95 [jR 2] (hH B3 m10)).bind _)
  rw [g4]
  show lG Ls (j_fin (c_call 10) 271 617 [some (jR 0), some (jR 2), some (jI Q), some (jI (n : Int)), some (jI 1), some (jR A), some (jI (T : Int)), some (jI (T : Int)), some (jI e), some (jR F), some (jR U), some (jI bd), some (jI 0), some (jI (N : Int)), d14, d15, none, none, none, none, none, none] [jI (-15), jI 1] (hH B3 m11))
  refine gS (S_bipush at_271_617) ?_
  refine gS (S_icmp_ne at_271_619) ?_
  refine gS (if_pos (by decide)) ?_
  refine gS (S_aload_n rfl at_271_622) ?_
  refine gS (S_new ⟨by decide, by omega⟩ at_271_623) ?_
  show lG Ls (j_fin (c_call 10) 271 626 [some (jR 0), some (jR 2), some (jI Q), some (jI (n : Int)), some (jI 1), some (jR A), some (jI (T : Int)), some (jI (T : Int)), some (jI e), some (jR F), some (jR U), some (jI bd), some (jI 0), some (jI (N : Int)), d14, d15, none, none, none, none, none, none] [jR ((hH B3 m11).1.length), jR 2, jI 1] ((j_new (hH B3 m11) 1 4)))
  refine gS (S_dup rfl at_271_626) ?_
  refine gS (S_invi (b := 0) (kd := 0) (by decide) kn_286 rfl (Nat.le_of_ble_eq_true rfl) at_271_627) ?_
  show lG Ls (((c_call 10) 286 [jR ((hH B3 m11).1.length)] ((j_new (hH B3 m11) 1 4))).bind _)
  rw [k0]
  show lG Ls (j_fin (c_call 10) 271 630 [some (jR 0), some (jR 2), some (jI Q), some (jI (n : Int)), some (jI 1), some (jR A), some (jI (T : Int)), some (jI (T : Int)), some (jI e), some (jR F), some (jR U), some (jI bd), some (jI 0), some (jI (N : Int)), d14, d15, none, none, none, none, none, none] [jR ((hH B3 m11).1.length), jR 2, jI 1] x0)
  refine gS (S_ldcT rfl at_271_630) ?_
  show lG Ls (j_fin (c_call 10) 271 632 [some (jR 0), some (jR 2), some (jI Q), some (jI (n : Int)), some (jI 1), some (jR A), some (jI (T : Int)), some (jI (T : Int)), some (jI e), some (jR F), some (jR U), some (jI bd), some (jI 0), some (jI (N : Int)), d14, d15, none, none, none, none, none, none] [jR 1000000, jR ((hH B3 m11).1.length), jR 2, jI 1] x0)
  refine gS (S_invv (b := 1) (by decide) kn_283 rfl (bS_k y0) (Nat.le_of_ble_eq_true rfl) at_271_632) ?_
  show lG Ls (((c_call 10) 283 [jR ((hH B3 m11).1.length), jR 1000000] x0).bind _)
  rw [k1]
  show lG Ls (j_fin (c_call 10) 271 635 [some (jR 0), some (jR 2), some (jI Q), some (jI (n : Int)), some (jI 1), some (jR A), some (jI (T : Int)), some (jI (T : Int)), some (jI e), some (jR F), some (jR U), some (jI bd), some (jI 0), some (jI (N : Int)), d14, d15, none, none, none, none, none, none] [jR ((hH B3 m11).1.length), jR 2, jI 1] x1)
  refine gS (S_bipush at_271_635) ?_
  refine gS (S_iload_n rfl at_271_637) ?_
  refine gS (S_iadd at_271_638) ?_
  refine gS (S_i2c at_271_639) ?_
  rw [show j_chr (w32 (97 + (n : Int))) = 97 + (n : Int) from chr_p (by omega)]
  refine gS (S_invv (b := 1) (by decide) kn_285 rfl (bS_k y1) (Nat.le_of_ble_eq_true rfl) at_271_640) ?_
  show lG Ls (((c_call 10) 285 [jR ((hH B3 m11).1.length), jI (97 + (n : Int))] x1).bind _)
  rw [k2]
  show lG Ls (j_fin (c_call 10) 271 643 [some (jR 0), some (jR 2), some (jI Q), some (jI (n : Int)), some (jI 1), some (jR A), some (jI (T : Int)), some (jI (T : Int)), some (jI e), some (jR F), some (jR U), some (jI bd), some (jI 0), some (jI (N : Int)), d14, d15, none, none, none, none, none, none] [jR ((hH B3 m11).1.length), jR 2, jI 1] x2)
  refine gS (S_ldcT rfl at_271_643) ?_
  show lG Ls (j_fin (c_call 10) 271 645 [some (jR 0), some (jR 2), some (jI Q), some (jI (n : Int)), some (jI 1), some (jR A), some (jI (T : Int)), some (jI (T : Int)), some (jI e), some (jR F), some (jR U), some (jI bd), some (jI 0), some (jI (N : Int)), d14, d15, none, none, none, none, none, none] [jR 1000018, jR ((hH B3 m11).1.length), jR 2, jI 1] x2)
  refine gS (S_invv (b := 1) (by decide) kn_283 rfl (bS_k y2) (Nat.le_of_ble_eq_true rfl) at_271_645) ?_
  show lG Ls (((c_call 10) 283 [jR ((hH B3 m11).1.length), jR 1000018] x2).bind _)
  rw [k3]
  show lG Ls (j_fin (c_call 10) 271 648 [some (jR 0), some (jR 2), some (jI Q), some (jI (n : Int)), some (jI 1), some (jR A), some (jI (T : Int)), some (jI (T : Int)), some (jI e), some (jR F), some (jR U), some (jI bd), some (jI 0), some (jI (N : Int)), d14, d15, none, none, none, none, none, none] [jR ((hH B3 m11).1.length), jR 2, jI 1] x3)
  refine gS (S_invv (b := 0) (by decide) kn_288 rfl (bS_k y3) (Nat.le_of_ble_eq_true rfl) at_271_648) ?_
  show lG Ls (((c_call 10) 288 [jR ((hH B3 m11).1.length)] x3).bind _)
  rw [k4]
  show lG Ls (j_fin (c_call 10) 271 651 [some (jR 0), some (jR 2), some (jI Q), some (jI (n : Int)), some (jI 1), some (jR A), some (jI (T : Int)), some (jI (T : Int)), some (jI e), some (jR F), some (jR U), some (jI bd), some (jI 0), some (jI (N : Int)), d14, d15, none, none, none, none, none, none] [jR (x3.1.length), jR 2, jI 1] (hH B4 m12))
  refine gS (S_invs (by decide) (Nat.le_of_ble_eq_true rfl) (Nat.le_of_ble_eq_true rfl) at_271_651) ?_
  show lG Ls (((c_call 10) 309 [jR 2, jR (x3.1.length)] (hH B4 m12)).bind _)
  rw [f5]
  show lG Ls (j_fin (c_call 10) 271 654 [some (jR 0), some (jR 2), some (jI Q), some (jI (n : Int)), some (jI 1), some (jR A), some (jI (T : Int)), some (jI (T : Int)), some (jI e), some (jR F), some (jR U), some (jI bd), some (jI 0), some (jI (N : Int)), d14, d15, none, none, none, none, none, none] [jI 1, jI 1] (hH B4 m13))
  refine gS (S_if_eq at_271_654) ?_
  refine gS (if_neg (by decide)) ?_
  refine gS (S_aload_n rfl at_271_657) ?_
  refine gS (S_invv (b := 0) (by decide) kn_95 rfl (kd_2 B4 m13) (Nat.le_of_ble_eq_true rfl) at_271_658) ?_
  show lG Ls (((c_call 10) 95 [jR 2] (hH B4 m13)).bind _)
  rw [g5]
  show lG Ls (j_fin (c_call 10) 271 661 [some (jR 0), some (jR 2), some (jI Q), some (jI (n : Int)), some (jI 1), some (jR A), some (jI (T : Int)), some (jI (T : Int)), some (jI e), some (jR F), some (jR U), some (jI bd), some (jI 0), some (jI (N : Int)), d14, d15, none, none, none, none, none, none] [jI (-10), jI 1] (hH B4 m14))
  refine gS (S_bipush at_271_661) ?_
  refine gS (S_icmp_ne at_271_663) ?_
  refine gS (if_pos (by decide)) ?_
  refine gS (S_iconst at_271_666) ?_
  refine gS (S_goto at_271_667) ?_
  refine gS (S_iand at_271_671) ?_
  rw [j_and11]
  refine gS (S_istore (l1 := [some (jR 0), some (jR 2), some (jI Q), some (jI (n : Int)), some (jI 1), some (jR A), some (jI (T : Int)), some (jI (T : Int)), some (jI e), some (jR F), some (jR U), some (jI bd), some (jI 0), some (jI (N : Int)), d14, d15, none, none, none, none, none, none]) rfl at_271_672) ?_
  exact K1
